/-! ===== make: what it does not touch comes before it or behind it; the class: make ===== -/
section CM
variable {M : Nat → Nat → Int32} {f k : Nat} {v : Int32}
def nF (f : Nat) : Bool := [0, 2, 3, 8, 11, 17, 18, 19, 20, 21, 22, 23, 24, 25, 26, 27, 28, 29, 30, 31].contains f
theorem nF_ne {f q : Nat} (h : nF f = false) (hq : nF q = true) : f ≠ q := fun z => by rw [z, hq] at h; exact absurd h (by decide)
theorem mQueue_u2 (h30 : f ≠ 30) (h31 : f ≠ 31) {z : Int32} : mQueue (u2 M f k v) z = u2 (mQueue M z) f k v := by
  unfold mQueue
  rw [u2_ne (Ne.symm h31), u2_comm h30, u2_comm h31]
theorem mReady_u2 (h30 : f ≠ 30) (h31 : f ≠ 31) (h23 : f ≠ 23) (h17 : f ≠ 17) {i : Nat} : mReady (u2 M f k v) i = u2 (mReady M i) f k v := by
  unfold mReady
  rw [u2_ne (Ne.symm h17), u2_comm h23, mQueue_u2 h30 h31]
theorem mLookC_eq {N : Nat → Nat → Int32} {g R i : Nat} (h : ∀ q, q = 0 ∨ q = 2 ∨ q = 3 ∨ q = 18 ∨ q = 19 ∨ q = 23 ∨ q = 27 → N q = M q) : mLookC N g R i ↔ mLookC M g R i := by
  unfold mLookC
  rw [mMany_eq (M := M) (N := N) (h 18 (by omega)) (h 23 (by omega)), mAllR_eq (M := M) (N := N) (h 18 (by omega)) (h 23 (by omega)) (h 19 (by omega)) (h 3 (by omega)), h 0 (by omega), h 2 (by omega), h 3 (by omega), h 19 (by omega), h 27 (by omega)]
theorem mLook_u2 {g R : Nat} (hf : nF f = false ∨ f = 24 ∨ f = 25 ∨ f = 26) : ∀ (r i : Nat) (M : Nat → Nat → Int32), mLook g R r i (u2 M f k v) = u2 (mLook g R r i M) f k v
  | 0, _, _ => rfl
  | r + 1, i, M => by
    have hn : ∀ q, q = 0 ∨ q = 2 ∨ q = 3 ∨ q = 18 ∨ q = 19 ∨ q = 23 ∨ q = 27 ∨ q = 30 ∨ q = 31 ∨ q = 17 → f ≠ q := by
      intro q hq z
      rcases hf with e | e | e | e
      · rw [z] at e
        rcases hq with rfl | rfl | rfl | rfl | rfl | rfl | rfl | rfl | rfl | rfl <;> exact absurd e (by decide)
      · omega
      · omega
      · omega
    have hc : mLookC (u2 M f k v) g R i ↔ mLookC M g R i := mLookC_eq (fun q hq => u2_ne (Ne.symm (hn q (by omega))))
    by_cases hz : M 18 i = nI g ∧ M 23 i = 0 ∧ mLookC M g R i
    · have hz' : u2 M f k v 18 i = nI g ∧ u2 M f k v 23 i = 0 ∧ mLookC (u2 M f k v) g R i := by rw [u2_ne (Ne.symm (hn 18 (by omega))), u2_ne (Ne.symm (hn 23 (by omega)))]; exact ⟨hz.1, hz.2.1, hc.mpr hz.2.2⟩
      rw [mLook_t hz, mLook_t hz', mReady_u2 (hn 30 (by omega)) (hn 31 (by omega)) (hn 23 (by omega)) (hn 17 (by omega)), mLook_u2 hf r (i + 1)]
    · have hz' : ¬ (u2 M f k v 18 i = nI g ∧ u2 M f k v 23 i = 0 ∧ mLookC (u2 M f k v) g R i) := by rw [u2_ne (Ne.symm (hn 18 (by omega))), u2_ne (Ne.symm (hn 23 (by omega)))]; exact fun q => hz ⟨q.1, q.2.1, hc.mp q.2.2⟩
      rw [mLook_f hz, mLook_f hz', mLook_u2 hf r (i + 1)]
theorem mMade_u2 {R g : Nat} (hf : nF f = false ∨ f = 24 ∨ f = 25 ∨ f = 26) : mMade (u2 M f k v) R g = u2 (mMade M R g) f k v := by
  have hn : ∀ q, q = 8 ∨ q = 30 ∨ q = 31 → f ≠ q := by
    intro q hq z
    rcases hf with e | e | e | e
    · rw [z] at e
      rcases hq with rfl | rfl | rfl <;> exact absurd e (by decide)
    · omega
    · omega
    · omega
  unfold mMade mLooked
  rw [u2_ne (Ne.symm (hn 8 (by omega)))]
  split
  · rw [u2_comm (hn 8 (by omega)), mQueue_u2 (hn 30 (by omega)) (hn 31 (by omega))]
  · split
    · rw [mLook_u2 hf]
    · rfl
theorem mMake_u2 {R g : Nat} {m w by_ ch : Int32} (hf : nF f = false) : mMake (u2 M f k v) R g m w by_ ch = u2 (mMake M R g m w by_ ch) f k v := by
  have hn : mNew (u2 M f k v) R g m w by_ ch = u2 (mNew M R g m w by_ ch) f k v := by
    unfold mNew
    rw [u2_ne (Ne.symm (nF_ne hf (q := 29) rfl)), u2_comm (f := f) (f2 := 28) (nF_ne hf rfl), u2_comm (f := f) (f2 := 17) (nF_ne hf rfl), u2_comm (f := f) (f2 := 29) (nF_ne hf rfl), u2_comm (f := f) (f2 := 18) (nF_ne hf rfl), u2_comm (f := f) (f2 := 19) (nF_ne hf rfl), u2_comm (f := f) (f2 := 20) (nF_ne hf rfl), u2_comm (f := f) (f2 := 21) (nF_ne hf rfl), u2_comm (f := f) (f2 := 22) (nF_ne hf rfl), u2_comm (f := f) (f2 := 23) (nF_ne hf rfl), u2_comm (f := f) (f2 := 24) (nF_ne hf rfl), u2_comm (f := f) (f2 := 25) (nF_ne hf rfl), u2_comm (f := f) (f2 := 26) (nF_ne hf rfl), u2_comm (f := f) (f2 := 27) (nF_ne hf rfl), u2_comm (f := f) (f2 := 11) (nF_ne hf rfl)]
  rw [mMake_made, mMake_made, hn, mMade_u2 (Or.inl hf)]
theorem mMake_by {R g : Nat} {m w by_ ch : Int32} : mMake M R g m w by_ ch = u2 (mMake M R g m w (-1) ch) 26 R by_ := by
  have hn : mNew M R g m w by_ ch = u2 (mNew M R g m w (-1) ch) 26 R by_ := by
    unfold mNew
    rw [u2_comm (f := 11) (f2 := 26) (by decide), u2_comm (f := 27) (f2 := 26) (by decide), u2_u2]
  rw [mMake_made, mMake_made, hn, mMade_u2 (Or.inr (Or.inr (Or.inr rfl)))]
/-- the ticks and what is waited for, of a row that is there -/
theorem u2_commk {α : Type} {M : Nat → Nat → α} {f k k2 : Nat} {v v2 : α} (h : ¬ k = k2) : u2 (u2 M f k v) f k2 v2 = u2 (u2 M f k2 v2) f k v := by
  funext a b
  by_cases h1 : a = f
  · subst h1
    rw [u2_at, u2_at, u2_at, u2_at]
    by_cases e1 : b = k2
    · by_cases e2 : b = k
      · exact absurd (e2.symm.trans e1) h
      · simp [e1, e2]; rw [← e1]; simp [e2]
    · simp [e1]
  · rw [u2_ne h1, u2_ne h1, u2_ne h1, u2_ne h1]
theorem mMake_row {R g i : Nat} {m w by_ ch : Int32} (hi : ¬ i = R) (hf : f = 24 ∨ f = 25) : mMake (u2 M f i v) R g m w by_ ch = u2 (mMake M R g m w by_ ch) f i v := by
  have hn : mNew (u2 M f i v) R g m w by_ ch = u2 (mNew M R g m w by_ ch) f i v := by
    have hg : ∀ q, q ≠ 24 → q ≠ 25 → f ≠ q := fun q a b => by omega
    have e : ∀ (q : Nat) (N : Nat → Nat → Int32) (z : Int32), u2 (u2 N f i v) q R z = u2 (u2 N q R z) f i v := by
      intro q N z
      by_cases hq : f = q
      · subst hq; exact u2_commk hi
      · exact u2_comm hq
    unfold mNew
    rw [u2_ne (Ne.symm (hg 29 (by decide) (by decide))), u2_comm (f := f) (f2 := 28) (hg 28 (by decide) (by decide)), e, u2_comm (f := f) (f2 := 29) (hg 29 (by decide) (by decide)), e, e, e, e, e, e, e, e, e, e, u2_comm (f := f) (f2 := 11) (hg 11 (by decide) (by decide))]
  rw [mMake_made, mMake_made, hn, mMade_u2 (by omega)]
theorem mLook_23 {g R i : Nat} (hv : ¬ v = 0) : ∀ (r j : Nat) (M : Nat → Nat → Int32), ¬ M 23 i = 0 → mLook g R r j (u2 M 23 i v) = u2 (mLook g R r j M) 23 i v
  | 0, _, _, _ => rfl
  | r + 1, j, M, h => by
    have e23 : ∀ q, (u2 M 23 i v 23 q = 0) ↔ (M 23 q = 0) := by
      intro q
      rw [u2_at]
      by_cases hq : q = i
      · subst hq; simp [hv, h]
      · simp [hq]
    have hm : ∀ (w : Int32) (r i' : Nat), mMany (u2 M 23 i v) (nI g) w r i' = mMany M (nI g) w r i' := by
      intro w r
      induction r with
      | zero => intro i'; rfl
      | succ r ih =>
        intro i'
        have hp : mP (u2 M 23 i v) (nI g) w i' ↔ mP M (nI g) w i' := by unfold mP; rw [e23, u2_ne (by decide)]
        by_cases hz : mP M (nI g) w i'
        · rw [mMany_t hz, mMany_t (hp.mpr hz), ih]
        · rw [mMany_f hz, mMany_f (fun q => hz (hp.mp q)), ih]
    have ha : ∀ (r i' : Nat), mAllR (u2 M 23 i v) g r i' = mAllR M g r i' := by
      intro r
      induction r with
      | zero => intro i'; rfl
      | succ r ih =>
        intro i'
        rw [mAllR, mAllR, ih, u2_ne (show (18 : Nat) ≠ 23 by decide), u2_ne (show (19 : Nat) ≠ 23 by decide), u2_ne (show (3 : Nat) ≠ 23 by decide)]
        have := e23 i'
        by_cases hz : M 23 i' = 0
        · simp [hz, this.mpr hz]
        · have hz' : ¬ u2 M 23 i v 23 i' = 0 := fun q => hz (this.mp q)
          simp [hz, hz']
    have hc : mLookC (u2 M 23 i v) g R j ↔ mLookC M g R j := by
      unfold mLookC
      rw [hm, ha, u2_ne (show (0 : Nat) ≠ 23 by decide), u2_ne (show (2 : Nat) ≠ 23 by decide), u2_ne (show (3 : Nat) ≠ 23 by decide), u2_ne (show (19 : Nat) ≠ 23 by decide), u2_ne (show (27 : Nat) ≠ 23 by decide)]
    by_cases hz : M 18 j = nI g ∧ M 23 j = 0 ∧ mLookC M g R j
    · have hji : ¬ j = i := fun e => by rw [e] at hz; exact h hz.2.1
      have hz' : u2 M 23 i v 18 j = nI g ∧ u2 M 23 i v 23 j = 0 ∧ mLookC (u2 M 23 i v) g R j := ⟨by rw [u2_ne (by decide)]; exact hz.1, (e23 j).mpr hz.2.1, hc.mpr hz.2.2⟩
      have hr : mReady (u2 M 23 i v) j = u2 (mReady M j) 23 i v := by
        unfold mReady
        rw [u2_ne (show (17 : Nat) ≠ 23 by decide), u2_commk (fun e => hji e.symm), mQueue_u2 (by decide) (by decide)]
      rw [mLook_t hz, mLook_t hz', hr, mLook_23 hv r (j + 1) _ (by rw [mReady_23, if_neg (fun e => hji e.symm)]; exact h)]
    · have hz' : ¬ (u2 M 23 i v 18 j = nI g ∧ u2 M 23 i v 23 j = 0 ∧ mLookC (u2 M 23 i v) g R j) := fun q => hz ⟨by have := q.1; rw [u2_ne (by decide)] at this; exact this, (e23 j).mp q.2.1, hc.mp q.2.2⟩
      rw [mLook_f hz, mLook_f hz', mLook_23 hv r (j + 1) M h]
theorem mMake_23 {R g i : Nat} {m w by_ ch : Int32} (hi : ¬ i = R) (hv : ¬ v = 0) (h : ¬ M 23 i = 0) : mMake (u2 M 23 i v) R g m w by_ ch = u2 (mMake M R g m w by_ ch) 23 i v := by
  have hn : mNew (u2 M 23 i v) R g m w by_ ch = u2 (mNew M R g m w by_ ch) 23 i v := by
    have e : ∀ (q : Nat) (N : Nat → Nat → Int32) (z : Int32), u2 (u2 N 23 i v) q R z = u2 (u2 N q R z) 23 i v := by
      intro q N z
      by_cases hq : 23 = q
      · subst hq; exact u2_commk hi
      · exact u2_comm hq
    unfold mNew
    rw [u2_ne (show (29 : Nat) ≠ 23 by decide), u2_comm (f := 23) (f2 := 28) (by decide), e, u2_comm (f := 23) (f2 := 29) (by decide), e, e, e, e, e, e, e, e, e, e, u2_comm (f := 23) (f2 := 11) (by decide)]
  have h' : ¬ mNew M R g m w by_ ch 23 i = 0 := by rw [mNew_row hi (by decide)]; exact h
  rw [mMake_made, mMake_made, hn]
  unfold mMade mLooked
  rw [u2_ne (show (8 : Nat) ≠ 23 by decide)]
  split
  · rw [u2_comm (f := 23) (f2 := 8) (by decide), mQueue_u2 (by decide) (by decide)]
  · split
    · rw [mLook_23 hv R.succ 0 _ h']
    · rfl
end CM
