/-! ===== J: over ===== -/
/-- the requests of N are among those of M, at the same grains -/
def sub (M : Nat → Nat → Int32) (R : Nat) (N : Nat → Nat → Int32) (R' : Nat) : Prop := ∀ k, k < R' → ∃ j, j < R ∧ N 17 k = M 17 j ∧ N 18 k = M 18 j
theorem sub.refl {M : Nat → Nat → Int32} {R : Nat} : sub M R M R := fun k hk => ⟨k, hk, rfl, rfl⟩
theorem sub.trans {M N L : Nat → Nat → Int32} {R R' R'' : Nat} (h1 : sub M R N R') (h2 : sub N R' L R'') : sub M R L R'' := by
  intro k hk
  obtain ⟨j, j1, j2, j3⟩ := h2 k hk
  obtain ⟨q, q1, q2, q3⟩ := h1 j j1
  exact ⟨q, q1, j2.trans q2, j3.trans q3⟩
theorem sub.same {M N : Nat → Nat → Int32} {R : Nat} (e17 : N 17 = M 17) (e18 : N 18 = M 18) : sub M R N R := fun k hk => ⟨k, hk, by rw [e17], by rw [e18]⟩
theorem mFind_at {M : Nat → Nat → Int32} {R Q : Nat} {md n : Int32} (h : JN (M 17) md R Q) {j : Nat} (hj : j < R) (hn : M 17 j = n) : mFind M n R 0 = nI j := by
  have key : ∀ (r i : Nat), i + r = R → i ≤ j → mFind M n r i = nI j := by
    intro r
    induction r with
    | zero => intro i h1 h2; omega
    | succ r ih =>
      intro i h1 h2
      rw [mFind]
      by_cases hi : i = j
      · subst hi; rw [if_pos hn]
      · rw [if_neg (fun z => hi (h.inj (by omega) hj (z.trans hn.symm)))]
        exact ih (i + 1) (by omega) (by omega)
  exact key R 0 (by omega) (by omega)
theorem mFind_no {M : Nat → Nat → Int32} {n : Int32} : ∀ (r i : Nat), (∀ k, i ≤ k → k < i + r → ¬ M 17 k = n) → mFind M n r i = -1
  | 0, _, _ => rfl
  | r + 1, i, h => by
    rw [mFind, if_neg (h i (by omega) (by omega)), mFind_no r (i + 1) (fun k a b => h k (by omega) (by omega))]
section JJ
variable {M : Nat → Nat → Int32} {R W K O Q : Nat} {y x : Int32}
theorem mOne_cut {R i t f : Nat} {v code : Int32} (h : 17 ≤ f ∧ f ≤ 27) : mOne M (R + 1) t i v code f = cut (M f) i R := by
  unfold mOne
  rw [mTell_at (by omega) (by omega), mRemove_cut h, u2_ne (by omega), u2_ne (by omega)]
theorem mOne_at {R i t f : Nat} {v code : Int32} (h : f < 17 ∨ 28 < f) (h2 : f ≠ 32 ∧ f ≠ 33 ∧ f ≠ 43 ∧ f ≠ 44) : mOne M R t i v code f = M f := by
  unfold mOne
  rw [mTell_at h2.1 h2.2.1]
  funext j
  rw [mRemove_at h, u2_ne h2.2.2.2, u2_ne h2.2.2.1]
theorem mOne_32 {R i t : Nat} {v code : Int32} (hby : M 26 i ≤ -2 → ∃ c : Nat, c < 12 ∧ M 26 i = -2 - nI c) (c : Nat) : mOne M R t i v code 32 c = M 32 c ∨ (¬ mOne M R t i v code 32 c = 0 ∧ M 26 i = -2 - nI c ∧ c < 12) := by
  unfold mOne mTell
  have e : ∀ q, mRemove (u2 (u2 M 43 t (M 18 i)) 44 0 (nI (t + 1))) i R 32 q = M 32 q := fun q => by rw [mRemove_at (by omega), u2_ne (by decide), u2_ne (by decide)]
  split
  · rename_i hz
    obtain ⟨c0, c1, c2⟩ := hby hz.1
    rw [u2_ne (by decide), u2_at, c2, i32_ss, nn_nI (by omega), e]
    by_cases hc : c = c0
    · subst hc
      rw [if_pos rfl]
      exact Or.inr ⟨by split <;> decide, rfl, c1⟩
    · rw [if_neg hc]; exact Or.inl rfl
  · rw [e]; exact Or.inl rfl
theorem J.one {i t : Nat} {v code : Int32} (h : J M (R + 1) W (K + (if M 23 i = 1 then 0 else 1)) O Q y x) (hi : i < R + 1) (hK : K ≤ 62) (hx : M 17 i = x ∨ (¬ M 23 i = 2 ∧ x = -1)) (hl : ∀ k, k < W → ¬ M 30 k = M 17 i) : J (mOne M (R + 1) t i v code) R W K O Q (-1) (nx (M 26 i)) := by
  have c : ∀ f, 17 ≤ f ∧ f ≤ 27 → mOne M (R + 1) t i v code f = cut (M f) i R := fun f hf => mOne_cut hf
  have e : ∀ f, f < 17 ∨ 28 < f → f ≠ 32 ∧ f ≠ 33 ∧ f ≠ 43 ∧ f ≠ 44 → mOne M (R + 1) t i v code f = M f := fun f a b => mOne_at a b
  refine ⟨h.ok.one hi hK, ?_, ?_, ?_, ?_, ?_, ?_, ?_, ?_⟩
  · rw [c 17 (by omega), e 29 (by omega) (by decide)]; exact h.n.cut
  · rw [c 18 (by omega), c 23 (by omega), e 8 (by omega) (by decide)]; exact h.s.cut
  · rw [c 17 (by omega), c 23 (by omega), e 30 (by omega) (by decide), e 8 (by omega) (by decide)]; exact (h.l.none h.n).cut hi hl
  · rw [c 17 (by omega), c 23 (by omega), c 24 (by omega), c 25 (by omega), c 26 (by omega), e 34 (by omega) (by decide)]
    refine h.a.cut h.n hi ?_ (fun q => mOne_32 (fun z => h.ok.2.2.2.2.2.1 i hi z) q)
    rcases hx with hx | ⟨hx1, hx2⟩
    · exact Or.inl hx
    · exact Or.inr ⟨hx1, fun q hq => by rw [hx2]; exact p_m1 (h.n.1 q hq).1⟩
  · rw [e 36 (by omega) (by decide)]; exact h.o
  · rw [e 34 (by omega) (by decide), e 29 (by omega) (by decide)]; exact h.q
  · rw [e 8 (by omega) (by decide), e 9 (by omega) (by decide), e 10 (by omega) (by decide), e 11 (by omega) (by decide), e 15 (by omega) (by decide), e 14 (by omega) (by decide), e 16 (by omega) (by decide)]; exact h.g
  · rw [e 4 (by omega) (by decide), e 5 (by omega) (by decide), e 6 (by omega) (by decide), e 7 (by omega) (by decide)]; exact h.t
theorem mResume_f {i : Nat} {v code : Int32} : mResume M i v code 24 = va_up (M 24) i (-1) ∧ mResume M i v code 25 = va_up (M 25) i 0 ∧ mResume M i v code 30 = va_up (M 30) (nn (M 31 0)) (M 17 i) := by
  unfold mResume mQueue
  refine ⟨?_, ?_, ?_⟩ <;> by_cases h : 0 < code <;> simp [u2_ne, u2_eq, h]
theorem J.resume (h : J M R W K O Q y x) {i : Nat} {v code : Int32} (hi : i < R) (h2 : M 23 i = 2) (hx : M 17 i = x) (hc : 0 < code → mCatch M i = 1) : J (mResume M i v code) R (W + 1) K O Q y (-1) := by
  have e : ∀ f, f ≠ 21 ∧ f ≠ 22 ∧ f ≠ 23 ∧ f ≠ 24 ∧ f ≠ 25 ∧ f ≠ 30 ∧ f ≠ 31 → mResume M i v code f = M f := fun f a => mResume_at a
  have h1 : ¬ M 23 i = 1 := by rw [h2]; decide
  obtain ⟨f24, f25, f30⟩ := mResume_f (M := M) (i := i) (v := v) (code := code)
  rw [h.nW] at f30
  have h8 : M 8 (nn (M 18 i)) = 2 := by
    rcases h.s i hi with z | z
    · rw [h2] at z; exact absurd z (by decide)
    · exact z.2
  refine ⟨h.ok.resume hi h1 hc, ?_, ?_, ?_, ?_, ?_, ?_, ?_, ?_⟩
  · rw [e 17 (by decide), e 29 (by decide)]; exact h.n
  · rw [e 18 (by decide), e 8 (by decide), mResume_23]; exact h.s.ready h8
  · rw [e 17 (by decide), e 8 (by decide), mResume_23, f30]; exact h.l.ready h.n hi h1
  · rw [e 17 (by decide), mResume_23, f24, f25, e 26 (by decide), e 32 (by decide), e 34 (by decide)]; exact h.a.resume h.n hi hx
  · rw [e 36 (by decide)]; exact h.o
  · rw [e 34 (by decide), e 29 (by decide)]; exact h.q
  · rw [e 8 (by decide), e 9 (by decide), e 10 (by decide), e 11 (by decide), e 15 (by decide), e 14 (by decide), e 16 (by decide)]; exact h.g
  · rw [e 4 (by decide), e 5 (by decide), e 6 (by decide), e 7 (by decide)]; exact h.t
theorem mOne_sub {R i t : Nat} {v code : Int32} : sub M (R + 1) (mOne M (R + 1) t i v code) R := by
  intro k hk
  exact ⟨sg i k, sg_lt hk, by rw [mOne_cut (by omega), cut_sg hk], by rw [mOne_cut (by omega), cut_sg hk]⟩
theorem mOne_gone {R i t Q : Nat} {v code md : Int32} (h : JN (M 17) md (R + 1) Q) (hi : i < R + 1) : ∀ k, k < R → ¬ mOne M (R + 1) t i v code 17 k = M 17 i := by
  intro k hk z
  rw [mOne_cut (by omega), cut_sg hk] at z
  exact sg_ne (h.inj (sg_lt hk) hi z)
/-- behind the telling: the caller of the one that went -/
theorem J.caller (h : J M (R + 1) W K O Q y x) {i t : Nat} {v code : Int32} (hi : i < R + 1) (hx : M 17 i = x ∨ (¬ M 23 i = 2 ∧ x = -1)) : (M 26 i < 0 ∧ nx (M 26 i) = -1) ∨ ∃ j, j < R ∧ 0 ≤ M 26 i ∧ nx (M 26 i) = M 26 i ∧ mOne M (R + 1) t i v code 17 j = M 26 i ∧ mFind (mOne M (R + 1) t i v code) (M 26 i) R 0 = nI j ∧ mOne M (R + 1) t i v code 23 j = 2 ∧ mOne M (R + 1) t i v code 24 j = M 17 i := by
  rcases h.a.2.1 i hi with z | ⟨c, c1, c2, c3, c4⟩ | ⟨c, c1, c2, c3, c4, c5⟩
  · exact Or.inl (by rw [z]; exact ⟨by decide, by decide⟩)
  · have := h.a.2.2.2
    have hlt := ng_lt (g := c) (by omega)
    refine Or.inl ⟨by rw [c2]; exact hlt, ?_⟩
    unfold nx
    rw [if_neg (by rw [c2]; exact Int32.not_le.mpr hlt)]
  · have h0 := (h.n.1 c c1).1
    rw [← c3] at h0
    have hci : ¬ c = i := by
      intro z
      rw [z] at c2 c4
      rcases hx with hx | hx
      · exact c2 hx
      · exact hx.1 c4
    obtain ⟨j, j1, rfl⟩ := sg_on c1 hci hi
    have e17 : mOne M (R + 1) t i v code 17 j = M 26 i := by rw [mOne_cut (by omega), cut_sg j1]; exact c3.symm
    refine Or.inr ⟨j, j1, h0, by unfold nx; rw [if_pos h0], e17, ?_, by rw [mOne_cut (by omega), cut_sg j1]; exact c4, by rw [mOne_cut (by omega), cut_sg j1]; exact c5⟩
    have hn := h.n.cut (i := i)
    rw [← mOne_cut (M := M) (f := 17) (R := R) (i := i) (t := t) (v := v) (code := code) (by omega)] at hn
    exact mFind_at hn j1 e17
theorem J.overL {v code : Int32} : ∀ (R : Nat) (M : Nat → Nat → Int32) (W i t : Nat) (y x : Int32), J M (R + 1) W (R + 32 + (if M 23 i = 1 then 0 else 1)) O Q y x → i < R + 1 → okB M t → t + R < 31 → (M 17 i = x ∨ (¬ M 23 i = 2 ∧ x = -1)) → (∀ k, k < W → ¬ M 30 k = M 17 i) → ∃ R' W' t', J (mOverL v code (R + 1) M i t) R' W' (R' + 32) O Q (-1) (-1) ∧ okB (mOverL v code (R + 1) M i t) t' ∧ t' ≤ 31 ∧ sub M (R + 1) (mOverL v code (R + 1) M i t) R' ∧ (∀ k, k < R' → ¬ mOverL v code (R + 1) M i t 17 k = M 17 i) ∧ mOverL v code (R + 1) M i t 8 = M 8 := by
  intro R
  induction R with
  | zero =>
    intro M W i t y x h hi hb ht hx hl
    have hone := J.one (K := 0 + 32) (v := v) (code := code) (t := t) h hi (by omega) hx hl
    have hbo := hb.one (v := v) (code := code) h.ok hi
    have hz : ¬ (0 ≤ mWho (mOne M 1 t i v code) (M 26 i) 0 ∧ mOne M 1 t i v code 23 (nn (mWho (mOne M 1 t i v code) (M 26 i) 0)) = 2 ∧ mOne M 1 t i v code 24 (nn (mWho (mOne M 1 t i v code) (M 26 i) 0)) = M 17 i) := by
      intro z
      have : mWho (mOne M 1 t i v code) (M 26 i) 0 = -1 := by unfold mWho; split <;> rfl
      rw [this] at z
      exact absurd z.1 (by decide)
    have hc : nx (M 26 i) = -1 := by
      rcases h.caller (t := t) (v := v) (code := code) hi hx with z | ⟨j, j1, -⟩
      · exact z.2
      · omega
    rw [hc] at hone
    refine ⟨0, W, t + 1, ?_, ?_, by omega, ?_, ?_, ?_⟩
    · rw [mOverL, if_neg hz]; exact hone
    · rw [mOverL, if_neg hz]; exact hbo
    · rw [mOverL, if_neg hz]; exact mOne_sub
    · rw [mOverL, if_neg hz]; exact mOne_gone h.n hi
    · rw [mOverL, if_neg hz]; exact mOne_at (by omega) (by decide)
  | succ R ih =>
    intro M W i t y x h hi hb ht hx hl
    have h30 := h.h30
    have hone := J.one (K := R + 1 + 32) (v := v) (code := code) (t := t) h hi (by omega) hx hl
    have hbo := hb.one (v := v) (code := code) h.ok hi
    have e8 : mOne M (R + 1 + 1) t i v code 8 = M 8 := mOne_at (by omega) (by decide)
    rcases h.caller (t := t) (v := v) (code := code) hi hx with z | ⟨j, j1, j2, j3, j4, j5, j6, j7⟩
    · have hz : ¬ (0 ≤ mWho (mOne M (R + 1 + 1) t i v code) (M 26 i) (R + 1) ∧ mOne M (R + 1 + 1) t i v code 23 (nn (mWho (mOne M (R + 1 + 1) t i v code) (M 26 i) (R + 1))) = 2 ∧ mOne M (R + 1 + 1) t i v code 24 (nn (mWho (mOne M (R + 1 + 1) t i v code) (M 26 i) (R + 1))) = M 17 i) := by
        intro q
        have : mWho (mOne M (R + 1 + 1) t i v code) (M 26 i) (R + 1) = -1 := by unfold mWho; rw [if_neg (Int32.not_le.mpr z.1)]
        rw [this] at q
        exact absurd q.1 (by decide)
      rw [z.2] at hone
      refine ⟨R + 1, W, t + 1, ?_, ?_, by omega, ?_, ?_, ?_⟩
      · rw [mOverL, if_neg hz]; exact hone
      · rw [mOverL, if_neg hz]; exact hbo
      · rw [mOverL, if_neg hz]; exact mOne_sub
      · rw [mOverL, if_neg hz]; exact mOne_gone h.n hi
      · rw [mOverL, if_neg hz]; exact e8
    · have hw : mWho (mOne M (R + 1 + 1) t i v code) (M 26 i) (R + 1) = nI j := by unfold mWho; rw [if_pos j2]; exact j5
      have hnj : nn (nI j) = j := nn_nI (by omega)
      have hz : 0 ≤ mWho (mOne M (R + 1 + 1) t i v code) (M 26 i) (R + 1) ∧ mOne M (R + 1 + 1) t i v code 23 (nn (mWho (mOne M (R + 1 + 1) t i v code) (M 26 i) (R + 1))) = 2 ∧ mOne M (R + 1 + 1) t i v code 24 (nn (mWho (mOne M (R + 1 + 1) t i v code) (M 26 i) (R + 1))) = M 17 i := by
        rw [hw, hnj]
        exact ⟨nI_pos' (by omega), j6, j7⟩
      rw [j3] at hone
      by_cases hc : 0 < code ∧ mCatch (mOne M (R + 1 + 1) t i v code) (nn (mWho (mOne M (R + 1 + 1) t i v code) (M 26 i) (R + 1))) = 0
      · have ihh := ih (mOne M (R + 1 + 1) t i v code) W j (t + 1) (-1) (M 26 i) (by rw [if_neg (by rw [j6]; decide)]; exact hone) (by omega) hbo (by omega) (Or.inl j4) (fun k hk => hone.noline (by omega) (by rw [j6]; decide) hk)
        obtain ⟨R', W', t', q1, q2, q3, q4, q5, q6⟩ := ihh
        rw [mOverL, if_pos hz, if_pos hc, hw, hnj]
        refine ⟨R', W', t', q1, q2, q3, mOne_sub.trans q4, fun k hk => ?_, q6.trans e8⟩
        obtain ⟨p, p1, p2, p3⟩ := q4 k hk
        rw [p2]
        exact mOne_gone h.n hi p p1
      · have hcc : 0 < code → mCatch (mOne M (R + 1 + 1) t i v code) j = 1 := fun z => (mCatch_01 _ j).resolve_left (fun z2 => hc ⟨z, by rw [hw, hnj]; exact z2⟩)
        rw [mOverL, if_pos hz, if_neg hc, hw, hnj]
        refine ⟨R + 1, W + 1, t + 1, hone.resume (by omega) j6 j4 hcc, ?_, by omega, ?_, ?_, ?_⟩
        · exact ⟨by rw [mResume_at (by decide)]; exact hbo.1, fun k hk => by rw [mResume_at (by decide)]; exact hbo.2 k hk⟩
        · exact mOne_sub.trans (sub.same (mResume_at (by decide)) (mResume_at (by decide)))
        · rw [mResume_at (by decide)]; exact mOne_gone h.n hi
        · rw [mResume_at (by decide)]; exact e8
theorem mSettle_8 {g q : Nat} (h : ¬ M 8 q = 2) : mSettle M g R 8 q = M 8 q := by
  unfold mSettle
  split
  · rename_i hz
    rw [mLooked_at (by decide) (by decide) (by decide)] at hz
    have : ¬ q = g := fun z => h (by rw [z]; exact hz.1)
    rw [mGo_8]
    simp only [va_up, if_neg this]
    rw [mLooked_at (by decide) (by decide) (by decide)]
  · rw [mLooked_at (by decide) (by decide) (by decide)]
theorem J.settleL : ∀ (n : Nat) (M : Nat → Nat → Int32) (W : Nat), J M R W K O Q y x → (∀ k, k < n → ∃ g : Nat, g < 32 ∧ M 43 k = nI g) → ∃ W', J (mSettleL R n M) R W' K O Q y x ∧ mSettleL R n M 17 = M 17 ∧ mSettleL R n M 18 = M 18 ∧ (∀ q, ¬ M 8 q = 2 → mSettleL R n M 8 q = M 8 q)
  | 0, M, W, h, _ => ⟨W, h, rfl, rfl, fun _ _ => rfl⟩
  | n + 1, M, W, h, hb => by
    obtain ⟨g, hg, hbg⟩ := hb n (by omega)
    have hgn : nn (M 43 n) = g := by rw [hbg, nn_nI (by omega)]
    obtain ⟨W2, h2⟩ := h.settle hg
    rw [mSettleL, hgn]
    obtain ⟨W', q1, q2, q3, q4⟩ := J.settleL n _ W2 h2 (fun k hk => by rw [mSettle_at (by decide) (by decide) (by decide) (by decide)]; exact hb k (by omega))
    exact ⟨W', q1, q2.trans (mSettle_at (by decide) (by decide) (by decide) (by decide)), q3.trans (mSettle_at (by decide) (by decide) (by decide) (by decide)), fun q hq => by
      have e := mSettle_8 (M := M) (g := g) (R := R) hq
      rw [q4 q (by rw [e]; exact hq), e]⟩
theorem J.set44 (h : J M R W K O Q y x) {v : Int32} : J (u2 M 44 0 v) R W K O Q y x := by
  obtain ⟨a1, a2, a3, a4, a5, a6, a7, a8, a9⟩ := h
  refine ⟨?_, by simpa [u2_ne] using a2, by simpa [u2_ne] using a3, by simpa [u2_ne] using a4, by simpa [u2_ne] using a5, by simpa [u2_ne] using a6, by simpa [u2_ne] using a7, by simpa [u2_ne] using a8, by simpa [u2_ne] using a9⟩
  refine a1.of (by simp [u2_ne]) (by simp [u2_ne, a1.2.2.1]) (fun j _ => by simp [u2_ne]) (fun j _ => by simp [u2_ne]) (fun j _ => Or.inl (by simp [u2_ne])) (by simp [u2_ne]) (fun j _ => Or.inl (by simp [u2_ne])) ?_
  rw [u2_ne (show (23 : Nat) ≠ 44 by decide), u2_ne (show (8 : Nat) ≠ 44 by decide)]
  exact a1.2.2.2.2.2.2.1
theorem J.over {i : Nat} {v code : Int32} (h : J M (R + 1) W (R + 32 + (if M 23 i = 1 then 0 else 1)) O Q y x) (hi : i < R + 1) (hx : M 17 i = x ∨ (¬ M 23 i = 2 ∧ x = -1)) (hl : ∀ k, k < W → ¬ M 30 k = M 17 i) : ∃ R' W', J (mOver M (R + 1) i v code) R' W' (R' + 32) O Q (-1) (-1) ∧ sub M (R + 1) (mOver M (R + 1) i v code) R' ∧ (∀ k, k < R' → ¬ mOver M (R + 1) i v code 17 k = M 17 i) ∧ (∀ q, ¬ M 8 q = 2 → mOver M (R + 1) i v code 8 q = M 8 q) := by
  have h30 := h.h30
  have e : ∀ f, f ≠ 44 → u2 M 44 0 0 f = M f := fun f a => u2_ne a
  obtain ⟨R', W', t', q1, q2, q3, q4, q5, q6⟩ := J.overL (v := v) (code := code) R (u2 M 44 0 0) W i 0 y x (by rw [e 23 (by decide)]; exact h.set44) hi ⟨u2_same, fun k hk => by omega⟩ (by omega) (by rw [e 17 (by decide), e 23 (by decide)]; exact hx) (by rw [e 17 (by decide), e 30 (by decide)]; exact hl)
  have hR' : nn (mOverL v code (R + 1) (u2 M 44 0 0) i 0 28 0) = R' := by rw [q1.hR, nn_nI (by have := q1.h30; omega)]
  have ht' : nn (mOverL v code (R + 1) (u2 M 44 0 0) i 0 44 0) = t' := by rw [q2.1, nn_nI (by omega)]
  obtain ⟨W2, p1, p2, p3, p4⟩ := J.settleL t' _ W' q1 q2.2
  unfold mOver
  rw [hR', ht']
  refine ⟨R', W2, p1, ?_, ?_, ?_⟩
  · have s1 : sub M (R + 1) (u2 M 44 0 0) (R + 1) := sub.same (e 17 (by decide)) (e 18 (by decide))
    exact s1.trans (q4.trans (sub.same p2 p3))
  · rw [p2]
    rw [e 17 (by decide)] at q5
    exact q5
  · intro q hq
    rw [e 8 (by decide)] at q6
    rw [p4 q (by rw [q6]; exact hq), q6]
end JJ
