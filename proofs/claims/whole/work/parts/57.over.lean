/-! ===== the reference: over ===== -/
theorem mFind_cases {M : Nat → Nat → Int32} {n : Int32} : ∀ (r i : Nat), mFind M n r i = -1 ∨ ∃ j, i ≤ j ∧ j < i + r ∧ M 17 j = n ∧ mFind M n r i = nI j
  | 0, _ => Or.inl rfl
  | r + 1, i => by
    rw [mFind]
    by_cases h : M 17 i = n
    · rw [if_pos h]
      exact Or.inr ⟨i, Nat.le_refl _, by omega, h, rfl⟩
    · rw [if_neg h]
      rcases mFind_cases (M := M) (n := n) r (i + 1) with z | ⟨j, h1, h2, h3, h4⟩
      · exact Or.inl z
      · exact Or.inr ⟨j, by omega, by omega, h3, h4⟩
def mTell (M : Nat → Nat → Int32) (by_ v code : Int32) : Nat → Nat → Int32 :=
  if by_ ≤ -2 ∧ M 32 (nn (-2 - by_)) = 0 then u2 (u2 M 32 (nn (-2 - by_)) (if 0 < code then 2 else 1)) 33 (nn (-2 - by_)) (if 0 < code then code else v) else M
theorem mTell_at {M : Nat → Nat → Int32} {by_ v code : Int32} {f : Nat} (h1 : f ≠ 32) (h2 : f ≠ 33) : mTell M by_ v code f = M f := by
  unfold mTell
  split
  · rw [u2_ne h2, u2_ne h1]
  · rfl
theorem mRemove_at {M : Nat → Nat → Int32} {i R f j : Nat} (h : f < 17 ∨ 28 < f) : mRemove M i R f j = M f j := by
  unfold mRemove mSh
  rw [if_neg (by omega), u2_ne (by omega)]
theorem mRemove_row {M : Nat → Nat → Int32} {i R f j : Nat} (h : 17 ≤ f ∧ f ≤ 27) : mRemove M i R f j = if i ≤ j ∧ j < R - 1 then M f (j + 1) else M f j := by
  unfold mRemove mSh
  rw [u2_ne (show f ≠ 28 by omega)]
  by_cases hj : i ≤ j ∧ j < R - 1
  · rw [if_pos hj, if_pos ⟨h.1, h.2, hj.1, hj.2⟩]
  · rw [if_neg hj, if_neg (fun z => hj ⟨z.2.2.1, z.2.2.2⟩)]
theorem mRemove_28 {M : Nat → Nat → Int32} {i R : Nat} : mRemove M i R 28 0 = nI (R - 1) := by
  unfold mRemove mSh
  rw [if_neg (by omega), u2_same]
theorem okM.remove {M : Nat → Nat → Int32} {R W K i : Nat} (h : okM M (R + 1) W (K + (if M 23 i = 1 then 0 else 1))) (hi : i < R + 1) (hK : K ≤ 62) : okM (mRemove M i (R + 1)) R W K := by
  obtain ⟨a1, a2, a3, a4, a5, a6, a7, a8⟩ := h
  have row : ∀ f j, 17 ≤ f ∧ f ≤ 27 → j < R → ∃ j', j' < R + 1 ∧ mRemove M i (R + 1) f j = M f j' ∧ j' = if i ≤ j then j + 1 else j := by
    intro f j hf hj
    rw [mRemove_row hf]
    by_cases hij : i ≤ j
    · exact ⟨j + 1, by omega, by rw [if_pos ⟨hij, by omega⟩], by rw [if_pos hij]⟩
    · exact ⟨j, by omega, by rw [if_neg (fun z => hij z.1)], by rw [if_neg hij]⟩
  have e8 : mRemove M i (R + 1) 8 = M 8 := by funext j; exact mRemove_at (by omega)
  refine ⟨mRemove_28, by omega, by rw [mRemove_at (by omega)]; exact a3, fun j hj => ?_, fun q hq => ?_, fun j hj hz => ?_, ?_, hK⟩
  · obtain ⟨j1, c1, c2, c3⟩ := row 18 j (by omega) hj
    obtain ⟨j2, d1, d2, d3⟩ := row 19 j (by omega) hj
    obtain ⟨j3, e1, e2, e3⟩ := row 22 j (by omega) hj
    obtain ⟨g, m, a, b1, b2, b3, b4, b5, b6⟩ := a4 j1 c1
    rw [c3] at b1 b3 b5 c2; rw [d3] at d2; rw [e3] at e2
    exact ⟨g, m, a, c2.trans b1, b2, d2.trans b3, b4, e2.trans b5, b6⟩
  · have e4 : mRemove M i (R + 1) 4 q = M 4 q := mRemove_at (by omega)
    rw [e4]; exact a5 q hq
  · obtain ⟨j1, c1, c2, c3⟩ := row 26 j (by omega) hj
    rw [c2] at hz ⊢
    exact a6 j1 c1 hz
  · have := cnt_cut (f := M 23) (g := mRemove M i (R + 1) 23) (x := 1) (k := i) R 0 (Nat.zero_le _) (by omega) (fun j h1 h2 => by rw [mRemove_row (by omega), if_neg (by omega)]) (fun j h1 h2 => by rw [mRemove_row (by omega), if_pos (by omega)])
    rw [e8]
    omega
/-- the row of request i goes: what is told, and to whom -/
def mOne (M : Nat → Nat → Int32) (R t i : Nat) (v code : Int32) : Nat → Nat → Int32 := mTell (mRemove (u2 (u2 M 43 t (M 18 i)) 44 0 (nI (t + 1))) i R) (M 26 i) v code
theorem okM.one {M : Nat → Nat → Int32} {R W K i t : Nat} {v code : Int32} (h : okM M (R + 1) W (K + (if M 23 i = 1 then 0 else 1))) (hi : i < R + 1) (hK : K ≤ 62) : okM (mOne M (R + 1) t i v code) R W K := by
  have h1 : okM (u2 (u2 M 43 t (M 18 i)) 44 0 (nI (t + 1))) (R + 1) W (K + (if M 23 i = 1 then 0 else 1)) := h.of (by simp [u2_ne]) (by simp [u2_ne, h.2.2.1]) (fun j _ => by simp [u2_ne]) (fun j _ => by simp [u2_ne]) (fun j _ => Or.inl (by simp [u2_ne])) (by simp [u2_ne]) (fun j _ => Or.inl (by simp [u2_ne])) (by simp only [u2_ne (show (23 : Nat) ≠ 44 by decide), u2_ne (show (23 : Nat) ≠ 43 by decide), u2_ne (show (8 : Nat) ≠ 44 by decide), u2_ne (show (8 : Nat) ≠ 43 by decide)]; exact h.2.2.2.2.2.2.1)
  have e23 : u2 (u2 M 43 t (M 18 i)) 44 0 (nI (t + 1)) 23 i = M 23 i := by simp [u2_ne]
  rw [← e23] at h1
  have h2 := h1.remove hi hK
  refine h2.of (by unfold mOne; rw [mTell_at (by decide) (by decide)]) (by unfold mOne; rw [mTell_at (by decide) (by decide)]; exact h2.2.2.1) (fun j _ => by unfold mOne; rw [mTell_at (by decide) (by decide)]) (fun j _ => by unfold mOne; rw [mTell_at (by decide) (by decide)]) (fun j _ => Or.inl (by unfold mOne; rw [mTell_at (by decide) (by decide)])) (by unfold mOne; rw [mTell_at (by decide) (by decide)]) (fun j _ => Or.inl (by unfold mOne; rw [mTell_at (by decide) (by decide)])) ?_
  unfold mOne
  rw [mTell_at (by decide) (by decide), mTell_at (by decide) (by decide)]
  exact h2.2.2.2.2.2.2.1
def mWho (N : Nat → Nat → Int32) (by_ : Int32) (R : Nat) : Int32 := if 0 ≤ by_ then mFind N by_ R 0 else -1
noncomputable def mOverL (v code : Int32) : Nat → (Nat → Nat → Int32) → Nat → Nat → (Nat → Nat → Int32)
  | 0, M, _, _ => M
  | R + 1, M, i, t =>
    if 0 ≤ mWho (mOne M (R + 1) t i v code) (M 26 i) R ∧ mOne M (R + 1) t i v code 23 (nn (mWho (mOne M (R + 1) t i v code) (M 26 i) R)) = 2 ∧ mOne M (R + 1) t i v code 24 (nn (mWho (mOne M (R + 1) t i v code) (M 26 i) R)) = M 17 i then
      (if 0 < code ∧ mCatch (mOne M (R + 1) t i v code) (nn (mWho (mOne M (R + 1) t i v code) (M 26 i) R)) = 0 then mOverL v code R (mOne M (R + 1) t i v code) (nn (mWho (mOne M (R + 1) t i v code) (M 26 i) R)) (t + 1) else mResume (mOne M (R + 1) t i v code) (nn (mWho (mOne M (R + 1) t i v code) (M 26 i) R)) v code)
    else mOne M (R + 1) t i v code
theorem mResume_at {M : Nat → Nat → Int32} {i f : Nat} {v code : Int32} (h : f ≠ 21 ∧ f ≠ 22 ∧ f ≠ 23 ∧ f ≠ 24 ∧ f ≠ 25 ∧ f ≠ 30 ∧ f ≠ 31) : mResume M i v code f = M f := by
  unfold mResume mQueue
  rw [u2_ne h.2.2.2.2.2.2, u2_ne h.2.2.2.2.2.1, u2_ne h.2.2.2.2.1, u2_ne h.2.2.2.1, u2_ne h.2.2.1]
  split
  · rw [u2_ne h.2.1, u2_ne h.1]
  · rw [u2_ne h.1]
theorem mResume_23 {M : Nat → Nat → Int32} {i : Nat} {v code : Int32} : mResume M i v code 23 = va_up (M 23) i 1 := by
  unfold mResume mQueue
  rw [u2_ne (by decide), u2_ne (by decide), u2_ne (by decide), u2_ne (by decide), u2_eq]
  split
  · rw [u2_ne (by decide), u2_ne (by decide)]
  · rw [u2_ne (by decide)]
theorem mResume_31 {M : Nat → Nat → Int32} {i : Nat} {v code : Int32} : mResume M i v code 31 0 = M 31 0 + 1 := by
  unfold mResume mQueue
  rw [u2_same, u2_ne (by decide), u2_ne (by decide), u2_ne (by decide)]
  split
  · rw [u2_ne (by decide), u2_ne (by decide)]
  · rw [u2_ne (by decide)]
theorem mResume_22 {M : Nat → Nat → Int32} {i j : Nat} {v code : Int32} : mResume M i v code 22 j = if 0 < code ∧ j = i then M 22 i + 1 else M 22 j := by
  unfold mResume mQueue
  rw [u2_ne (by decide), u2_ne (by decide), u2_ne (by decide), u2_ne (by decide), u2_ne (by decide)]
  by_cases h : 0 < code
  · rw [if_pos h, u2_at, u2_ne (by decide)]
    by_cases hj : j = i <;> simp [h, hj]
  · rw [if_neg h, u2_ne (by decide), if_neg (fun z => h z.1)]
theorem okM.resume {M : Nat → Nat → Int32} {R W K i : Nat} {v code : Int32} (h : okM M R W K) (hi : i < R) (h23 : ¬ M 23 i = 1) (hc : 0 < code → mCatch M i = 1) : okM (mResume M i v code) R (W + 1) K := by
  have hcap := h.2.2.2.2.2.2.1
  refine h.of (by rw [mResume_at (by decide)]) (by rw [mResume_31, h.2.2.1, nI_1]) (fun j _ => by rw [mResume_at (by decide)]) (fun j _ => by rw [mResume_at (by decide)]) (fun j hj => ?_) (mResume_at (by decide)) (fun j _ => Or.inl (by rw [mResume_at (by decide)])) ?_
  · rw [mResume_22]
    by_cases hz : 0 < code ∧ j = i
    · rw [if_pos hz]
      have hm := hc hz.1
      obtain ⟨g, m, a, b1, b2, b3, b4, b5, b6⟩ := h.2.2.2.1 i hi
      refine Or.inr ⟨a + 1, ?_, by rw [b5, nI_1]⟩
      unfold mCatch at hm
      split at hm
      · rename_i hw
        have hq : mMeth M i = 4 * (g / 8) + m := by unfold mMeth; rw [b1, b3, nn_nI (by omega), nn_nI (by omega)]
        obtain ⟨n, hn, hn8⟩ := h.2.2.2.2.1 (4 * (g / 8) + m) (by omega)
        rw [hq, hn, b5, nI_ltI (by omega) (by omega)] at hw
        omega
      · exact absurd hm (by decide)
    · rw [if_neg hz]; exact Or.inl rfl
  · have := cnt_up (f := M 23) (x := 1) (v := 1) (k := i) R 0 (Nat.zero_le _) (by omega)
    rw [if_neg h23, if_pos rfl] at this
    rw [mResume_23, mResume_at (by decide)]
    omega
