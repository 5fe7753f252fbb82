/-! ===== late: J; the walks of late, rest, tick ===== -/
theorem mOverL_at {v code : Int32} {f : Nat} (h : f < 17 ∨ 33 < f) (h2 : f ≠ 43 ∧ f ≠ 44) : ∀ (R : Nat) (M : Nat → Nat → Int32) (i t : Nat), mOverL v code R M i t f = M f
  | 0, _, _, _ => rfl
  | R + 1, M, i, t => by
    have e : mOne M (R + 1) t i v code f = M f := mOne_at (by omega) ⟨by omega, by omega, h2.1, h2.2⟩
    rw [mOverL]
    split
    · split
      · rw [mOverL_at h h2 R, e]
      · rw [mResume_at (by omega), e]
    · exact e
theorem mSettleL_at {R f : Nat} (h : f ≠ 8 ∧ f ≠ 16 ∧ f ≠ 10 ∧ f ≠ 9 ∧ f ≠ 11 ∧ f ≠ 12 ∧ f ≠ 13 ∧ f ≠ 42) (h1 : f ≠ 30) (h2 : f ≠ 31) (h3 : f ≠ 23) : ∀ (n : Nat) (M : Nat → Nat → Int32), mSettleL R n M f = M f
  | 0, _ => rfl
  | n + 1, M => by rw [mSettleL, mSettleL_at h h1 h2 h3 n, mSettle_at h h1 h2 h3]
theorem mOver_at {M : Nat → Nat → Int32} {R i f : Nat} {v code : Int32} (h : f < 8 ∨ (13 < f ∧ f < 16) ∨ 33 < f) (h2 : f ≠ 42 ∧ f ≠ 43 ∧ f ≠ 44) : mOver M R i v code f = M f := by
  unfold mOver
  rw [mSettleL_at ⟨by omega, by omega, by omega, by omega, by omega, by omega, by omega, h2.1⟩ (by omega) (by omega) (by omega), mOverL_at (by omega) ⟨h2.2.1, h2.2.2⟩, u2_ne h2.2.2]
section TT
variable {M : Nat → Nat → Int32} {R W O Q : Nat}
theorem J.set45 {K : Nat} {y x : Int32} (h : J M R W K O Q y x) {v : Int32} : J (u2 M 45 0 v) R W K O Q y x := by
  refine h.upd (fun f hf => u2_ne (kF_ne hf rfl)) (fun i _ => Or.inl (by rw [u2_ne (by decide)])) ?_
  rw [u2_ne (by decide), u2_ne (by decide), u2_ne (by decide), u2_ne (by decide), u2_ne (by decide), u2_ne (by decide)]; exact h.g
/-- ticks of one that waits for an answer -/
theorem JA.tick {nu st aw tk tk2 ca os oq : Fn} {R O i : Nat} {x : Int32} (h : JA nu st aw tk ca os oq R O x) (h2 : st i = 2) (ht : ∀ c, ¬ c = i → tk2 c = tk c) : JA nu st aw tk2 ca os oq R O x := by
  obtain ⟨a1, a2⟩ := h
  refine ⟨fun c hc hcx => ?_, a2⟩
  rcases a1 c hc hcx with z | ⟨z1, z2, z3⟩
  · exact Or.inl z
  · have : ¬ c = i := fun z => by rw [z] at z1; exact z1 h2
    exact Or.inr ⟨z1, z2, by rw [ht c this]; exact z3⟩
/-- a change of ticks and callers -/
theorem J.tkca {N : Nat → Nat → Int32} {K : Nat} {y x x2 : Int32} (h : J M R W K O Q y x) (e : ∀ f, kF f = true → f ≠ 25 → f ≠ 26 → N f = M f) (h22 : N 22 = M 22) (h26 : ∀ k, k < R → N 26 k = M 26 k ∨ N 26 k = -1) (h9 : N 9 = M 9 ∧ N 10 = M 10 ∧ N 11 = M 11 ∧ N 15 = M 15 ∧ N 14 = M 14 ∧ N 16 = M 16) (ha : JA (M 17) (M 23) (M 24) (N 25) (N 26) (M 32) (M 34) R O x2) : J N R W K O Q y x2 := by
  refine ⟨?_, ?_, ?_, ?_, ?_, ?_, ?_, ?_, ?_⟩
  · refine h.ok.of (by rw [e 28 rfl (by decide) (by decide)]) (by rw [e 31 rfl (by decide) (by decide)]; exact h.hW) (fun j _ => by rw [e 18 rfl (by decide) (by decide)]) (fun j _ => by rw [e 19 rfl (by decide) (by decide)]) (fun j _ => Or.inl (by rw [h22])) (e 4 rfl (by decide) (by decide)) h26 ?_
    rw [e 23 rfl (by decide) (by decide), e 8 rfl (by decide) (by decide)]; exact h.ok.2.2.2.2.2.2.1
  · rw [e 17 rfl (by decide) (by decide), e 29 rfl (by decide) (by decide)]; exact h.n
  · rw [e 18 rfl (by decide) (by decide), e 23 rfl (by decide) (by decide), e 8 rfl (by decide) (by decide)]; exact h.s
  · rw [e 17 rfl (by decide) (by decide), e 23 rfl (by decide) (by decide), e 30 rfl (by decide) (by decide), e 8 rfl (by decide) (by decide)]; exact h.l
  · rw [e 17 rfl (by decide) (by decide), e 23 rfl (by decide) (by decide), e 24 rfl (by decide) (by decide), e 32 rfl (by decide) (by decide), e 34 rfl (by decide) (by decide)]; exact ha
  · rw [e 36 rfl (by decide) (by decide)]; exact h.o
  · rw [e 34 rfl (by decide) (by decide), e 29 rfl (by decide) (by decide)]; exact h.q
  · rw [e 8 rfl (by decide) (by decide), h9.1, h9.2.1, h9.2.2.1, h9.2.2.2.1, h9.2.2.2.2.1, h9.2.2.2.2.2]; exact h.g
  · rw [e 4 rfl (by decide) (by decide), e 5 rfl (by decide) (by decide), e 6 rfl (by decide) (by decide), e 7 rfl (by decide) (by decide)]; exact h.t
/-- the four ways of a tick for number n -/
theorem J.late_cases (h : J M R W (R + 32) O Q (-1) (-1)) (n : Int32) :
    ((∀ k, k < R → ¬ M 17 k = n) ∧ mLate1 n M = M) ∨
    ∃ i, i < R ∧ M 17 i = n ∧ ((¬ M 23 i = 2 ∧ mLate1 n M = u2 M 45 0 n) ∨
      (M 23 i = 2 ∧ (M 37 0 = 0 ∨ M 25 i + 1 < M 37 0) ∧ mLate1 n M = u2 (u2 M 45 0 n) 25 i (M 25 i + 1)) ∨
      (M 23 i = 2 ∧ ¬ (M 37 0 = 0 ∨ M 25 i + 1 < M 37 0) ∧ ∃ j, j < R ∧ M 24 i = M 17 j ∧ mFind M (M 24 i) R 0 = nI j ∧
        ((mCatch M i = 1 ∧ mLate1 n M = mResume (u2 (u2 (u2 M 45 0 n) 25 i (M 25 i + 1)) 26 j (-1)) i 0 103) ∨ (mCatch M i = 0 ∧ mLate1 n M = mOver (u2 (u2 (u2 M 45 0 n) 25 i (M 25 i + 1)) 26 j (-1)) R i 0 103)))) := by
  have h30 := h.h30
  unfold mLate1
  simp only [h.nR]
  rcases mFind_cases (M := M) (n := n) R 0 with z | ⟨i, i1, i2, i3, i4⟩
  · refine Or.inl ⟨fun k hk q => ?_, by rw [z, if_pos (by decide)]⟩
    have := mFind_at h.n hk q
    rw [z] at this
    exact absurd this.symm (p_m1 (nI_pos' (by omega)))
  · have hni : nn (nI i) = i := nn_nI (by omega)
    rw [i4, hni, if_neg (nI_pos (by omega))]
    refine Or.inr ⟨i, by omega, i3, ?_⟩
    by_cases h2 : M 23 i = 2
    · rw [if_neg (fun q => q h2)]
      by_cases hl : M 37 0 = 0 ∨ M 25 i + 1 < M 37 0
      · rw [if_pos hl]
        exact Or.inr (Or.inl ⟨h2, hl, rfl⟩)
      · rw [if_neg hl]
        obtain ⟨j, j1, j2⟩ : ∃ j, j < R ∧ M 24 i = M 17 j := by
          rcases h.a.1 i (by omega) (p_m1 (h.n.1 i (by omega)).1) with ⟨-, k, k1, k2, -⟩ | ⟨q, -⟩
          · exact ⟨k, k1, k2⟩
          · exact absurd h2 q
        have hf : mFind M (M 24 i) R 0 = nI j := mFind_at h.n j1 j2.symm
        have hnj : nn (nI j) = j := nn_nI (by omega)
        rw [hf, hnj]
        refine Or.inr (Or.inr ⟨h2, hl, j, j1, j2, rfl, ?_⟩)
        rcases mCatch_01 M i with hc | hc
        · exact Or.inr ⟨hc, by rw [if_neg (by rw [hc]; decide)]⟩
        · exact Or.inl ⟨hc, by rw [if_pos hc]⟩
    · rw [if_pos h2]
      exact Or.inl ⟨h2, rfl⟩
/-- the one whose call is late, before it goes on or ends -/
theorem J.lateX (h : J M R W (R + 32) O Q (-1) (-1)) {n : Int32} {i j : Nat} (hi : i < R) (h2 : M 23 i = 2) (hj : j < R) (hj2 : M 24 i = M 17 j) : J (u2 (u2 (u2 M 45 0 n) 25 i (M 25 i + 1)) 26 j (-1)) R W (R + 32) O Q (-1) (M 17 i) := by
  refine h.tkca (fun f hf a b => by rw [u2_ne b, u2_ne a, u2_ne (kF_ne hf rfl)]) (by simp [u2_ne]) (fun k _ => ?_) (by simp [u2_ne]) ?_
  · rw [u2_at, u2_ne (by decide), u2_ne (by decide)]
    split
    · exact Or.inr rfl
    · exact Or.inl rfl
  · rw [u2_ne (show (25 : Nat) ≠ 26 by decide), u2_eq, u2_ne (show (25 : Nat) ≠ 45 by decide), u2_eq, u2_ne (show (26 : Nat) ≠ 25 by decide), u2_ne (show (26 : Nat) ≠ 45 by decide)]
    exact h.a.late h.n hi h2 hj hj2 (fun c hc => by simp only [va_up, if_neg hc])
theorem J.late1 (h : J M R W (R + 32) O Q (-1) (-1)) (n : Int32) : ∃ R' W', J (mLate1 n M) R' W' (R' + 32) O Q (-1) (-1) ∧ sub M R (mLate1 n M) R' ∧ (((∀ k, k < R → ¬ M 17 k = n) ∧ mLate1 n M = M) ∨ mLate1 n M 45 0 = n) := by
  have h30 := h.h30
  rcases h.late_cases n with ⟨z1, z2⟩ | ⟨i, i1, i2, ⟨i3, i4⟩ | ⟨i3, i4, i5⟩ | ⟨i3, i4, j, j1, j2, j3, ⟨hc, e⟩ | ⟨hc, e⟩⟩⟩
  · rw [z2]; exact ⟨R, W, h, sub.refl, Or.inl ⟨z1, rfl⟩⟩
  · rw [i4]
    exact ⟨R, W, h.set45, sub.same (u2_ne (by decide)) (u2_ne (by decide)), Or.inr u2_same⟩
  · rw [i5]
    refine ⟨R, W, ?_, sub.same (by rw [u2_ne (by decide), u2_ne (by decide)]) (by rw [u2_ne (by decide), u2_ne (by decide)]), Or.inr (by rw [u2_ne (by decide), u2_same])⟩
    refine h.tkca (fun f hf a b => by rw [u2_ne a, u2_ne (kF_ne hf rfl)]) (by simp [u2_ne]) (fun k _ => Or.inl (by simp [u2_ne])) (by simp [u2_ne]) ?_
    rw [u2_ne (show (26 : Nat) ≠ 25 by decide), u2_ne (show (26 : Nat) ≠ 45 by decide), u2_eq, u2_ne (show (25 : Nat) ≠ 45 by decide)]
    exact h.a.tick i3 (fun c hc => by simp only [va_up, if_neg hc])
  · have hX := h.lateX (n := n) i1 i3 j1 j2
    rw [e]
    have e23 : u2 (u2 (u2 M 45 0 n) 25 i (M 25 i + 1)) 26 j (-1) 23 = M 23 := by simp [u2_ne]
    have e17 : u2 (u2 (u2 M 45 0 n) 25 i (M 25 i + 1)) 26 j (-1) 17 = M 17 := by simp [u2_ne]
    have e18 : u2 (u2 (u2 M 45 0 n) 25 i (M 25 i + 1)) 26 j (-1) 18 = M 18 := by simp [u2_ne]
    have ec : mCatch (u2 (u2 (u2 M 45 0 n) 25 i (M 25 i + 1)) 26 j (-1)) i = mCatch M i := by unfold mCatch mMeth; simp [u2_ne]
    refine ⟨R, W + 1, hX.resume i1 (by rw [e23]; exact i3) (by rw [e17]) (fun _ => by rw [ec]; exact hc), ?_, Or.inr ?_⟩
    · exact sub.same (by rw [mResume_at (by decide)]; exact e17) (by rw [mResume_at (by decide)]; exact e18)
    · rw [mResume_at (by decide)]; simp [u2_ne, u2_same]
  · have hX := h.lateX (n := n) i1 i3 j1 j2
    rw [e]
    have e23 : u2 (u2 (u2 M 45 0 n) 25 i (M 25 i + 1)) 26 j (-1) 23 = M 23 := by simp [u2_ne]
    have e17 : u2 (u2 (u2 M 45 0 n) 25 i (M 25 i + 1)) 26 j (-1) 17 = M 17 := by simp [u2_ne]
    have e18 : u2 (u2 (u2 M 45 0 n) 25 i (M 25 i + 1)) 26 j (-1) 18 = M 18 := by simp [u2_ne]
    obtain ⟨R0, rfl⟩ : ∃ q, R = q + 1 := ⟨R - 1, by omega⟩
    obtain ⟨R', W', q1, q2, q3, q4⟩ := J.over (v := 0) (code := 103) (i := i) (M := u2 (u2 (u2 M 45 0 n) 25 i (M 25 i + 1)) 26 j (-1)) (R := R0) (W := W) (by rw [e23, if_neg (by rw [i3]; decide)]; exact hX) i1 (Or.inl (by rw [e17])) (fun k hk => hX.noline i1 (by rw [e23, i3]; decide) hk)
    refine ⟨R', W', q1, (sub.same e17 e18).trans q2, Or.inr ?_⟩
    rw [mOver_at (by omega) (by decide)]; simp [u2_ne, u2_same]
theorem J.lateL : ∀ (ns : List Int32) (M : Nat → Nat → Int32) (R W : Nat), J M R W (R + 32) O Q (-1) (-1) → ∃ R' W', J (mLateL ns M) R' W' (R' + 32) O Q (-1) (-1)
  | [], M, R, W, h => ⟨R, W, h⟩
  | n :: ns, M, R, W, h => by
    obtain ⟨R', W', q, -⟩ := h.late1 n
    exact J.lateL ns _ R' W' q
theorem J.tick1 (h : J M R W (R + 32) O Q (-1) (-1)) (hQ : Q + 64 < 2 ^ 30) : ∃ R' W', J (mTick1 M) R' W' (R' + 32) O (Q + 64) (-1) (-1) := by
  have h0 : J (u2 M 39 0 (M 39 0 + 1)) R W (R + 32) O Q (-1) (-1) := by
    refine h.upd (fun f hf => u2_ne (kF_ne hf rfl)) (fun i _ => Or.inl (by rw [u2_ne (by decide)])) ?_
    rw [u2_ne (by decide), u2_ne (by decide), u2_ne (by decide), u2_ne (by decide), u2_ne (by decide), u2_ne (by decide)]; exact h.g
  obtain ⟨R1, W1, h1⟩ := J.upto1 (F := mTim) (fun g M R W Q hg hQ h => h.tim hg hQ) 32 (by omega) (by omega) h0
  obtain ⟨R2, W2, h2⟩ := J.upto1 (F := mRem) (fun g M R W Q hg hQ h => h.rem hg hQ) 32 (by omega) (by omega) h1
  obtain ⟨R3, W3, h3⟩ := J.lateL (nus (upto mRem 32 (upto mTim 32 (u2 M 39 0 (M 39 0 + 1)))) (nn (upto mRem 32 (upto mTim 32 (u2 M 39 0 (M 39 0 + 1))) 28 0))) _ R2 W2 h2
  have ho := h3.o
  have h12 := h3.a.2.2.2
  have h4 := J.outs (nn (mLateL (nus (upto mRem 32 (upto mTim 32 (u2 M 39 0 (M 39 0 + 1)))) (nn (upto mRem 32 (upto mTim 32 (u2 M 39 0 (M 39 0 + 1))) 28 0))) (upto mRem 32 (upto mTim 32 (u2 M 39 0 (M 39 0 + 1)))) 36 0)) (by rw [ho, nn_nI (by omega)]; exact Nat.le_refl _) h3
  exact ⟨R3, W3, J.rests 32 (by omega) h4⟩
theorem J.tickL : ∀ (r : Nat) (M : Nat → Nat → Int32) (R W Q : Nat), J M R W (R + 32) O Q (-1) (-1) → Q + 64 * r < 2 ^ 30 → ∃ R' W', J (mTickL r M) R' W' (R' + 32) O (Q + 64 * r) (-1) (-1)
  | 0, M, R, W, Q, h, _ => ⟨R, W, h⟩
  | r + 1, M, R, W, Q, h, hQ => by
    obtain ⟨R1, W1, h1⟩ := h.tick1 (by omega)
    obtain ⟨R2, W2, h2⟩ := J.tickL r _ R1 W1 (Q + 64) h1 (by omega)
    exact ⟨R2, W2, by rw [show Q + 64 * (r + 1) = Q + 64 + 64 * r by omega]; exact h2⟩
end TT
