/-! ===== one step of a request, and a turn ===== -/
/-- the step: what becomes of it: 0 goes on, -1 the turn is over, a code it fails with -/
noncomputable def mDo1 (M : Nat → Nat → Int32) (R i g q o : Nat) : (Nat → Nat → Int32) × Int32 :=
  match o with
  | 0 => (u2 (mStep M i) 9 g (M 9 g + M 6 q), 0)
  | 1 => (u2 (mStep M i) 9 g (M 9 g + M 20 i), 0)
  | 2 => (u2 (mStep M i) 9 g (M 9 g + M 21 i), 0)
  | 3 => if R = 30 then (if mCatch (mStep M i) i = 1 then (mCaught (mStep M i) i, 0) else (mStep M i, 102)) else (mInvoke (mStep M i) R i g (nn (M 6 q)) (nn (M 7 q)), -1)
  | 4 => if R = 30 then (mStep M i, 102) else (mMake (mStep M i) R (nn (M 6 q)) (M 7 q) (M 9 g) (-1) 0, 0)
  | 5 => if M 42 0 = 0 then (mSave (mStep M i) g, 0) else (mWorked (mStep M i), 101)
  | 6 => (mQueue (mStep M i) (M 17 i), -1)
  | 7 => (mStep M i, M 6 q)
  | 8 => (u2 (mStep M i) 10 g (M 6 q), 0)
  | 9 => (u2 (u2 (mStep M i) 15 g (M 6 q)) 14 g (M 6 q), 0)
  | 10 => (u2 (mStep M i) 16 g 1, 0)
  | 11 => (mStep M i, 0)
  | 12 => (if M 21 i < 0 then u2 (mStep M i) 22 i (M 22 i + 1 + M 6 q) else mStep M i, 0)
  | 13 => (u2 (mStep M i) 21 i (M 9 g), 0)
  | _ => (u2 (mStep M i) 9 g (M 6 q), 0)
def mQ (M : Nat → Nat → Int32) (i : Nat) : Nat := 8 * (4 * (nn (M 18 i) / 8) + nn (M 19 i)) + nn (M 22 i)
noncomputable def mDo (M : Nat → Nat → Int32) (R i : Nat) : (Nat → Nat → Int32) × Int32 := mDo1 M R i (nn (M 18 i)) (mQ M i) (nn (M 5 (mQ M i)))
/-- the running request i: its row, its number -/
def runs (M : Nat → Nat → Int32) (R W i : Nat) (O Q : Nat) (y : Int32) : Prop := J M R W (R + 31) O Q y (-1) ∧ i < R ∧ M 17 i = y ∧ M 23 i = 1
theorem runs.here {M : Nat → Nat → Int32} {R W i O Q : Nat} {y : Int32} (h : runs M R W i O Q y) : M 8 (nn (M 18 i)) = 2 := by
  rcases h.1.s i h.2.1 with z | z
  · rw [h.2.2.2] at z; exact absurd z (by decide)
  · exact z.2
theorem JG.here {sta va ti id ev du le va2 ti2 id2 ev2 du2 le2 : Fn} {g : Nat} (h : JG sta va ti id ev du le) (h2 : sta g = 2) (e1 : ∀ k, ¬ k = g → va2 k = va k ∧ ti2 k = ti k ∧ id2 k = id k ∧ le2 k = le k ∧ ev2 k = ev k ∧ du2 k = du k) (hr : (ev2 g = 0 ∧ du2 g = 0) ∨ (0 < ev2 g ∧ 0 < du2 g)) : JG sta va2 ti2 id2 ev2 du2 le2 := by
  intro k hk
  by_cases hkg : k = g
  · subst hkg
    exact ⟨Or.inl h2, hr⟩
  · obtain ⟨a, b, c, e, f, q⟩ := e1 k hkg
    rw [a, b, c, e, f, q]
    exact h k hk
/-- behind a step that goes on -/
def goes (M N : Nat → Nat → Int32) (i O Q a : Nat) (y : Int32) : Prop := ∃ R' W', runs N R' W' i O (Q + 1) y ∧ N 18 i = M 18 i ∧ N 19 i = M 19 i ∧ N 4 = M 4 ∧ ∃ a' : Nat, N 22 i = nI a' ∧ a < a' ∧ a' ≤ 16
theorem mStep_at {M : Nat → Nat → Int32} {i f : Nat} (h : f ≠ 22) : mStep M i f = M f := by unfold mStep; rw [u2_ne h]
section DD
variable {M N : Nat → Nat → Int32} {R W O Q i a n g m : Nat} {y : Int32}
theorem runs.step (h : runs M R W i O Q y) (ha : M 22 i = nI a) (h8 : a < 8) : runs (mStep M i) R W i O Q y := by
  obtain ⟨h1, h2, h3, h4⟩ := h
  refine ⟨?_, h2, by rw [mStep_at (by decide)]; exact h3, by rw [mStep_at (by decide)]; exact h4⟩
  refine h1.upd (fun f hf => mStep_at (kF_ne hf rfl)) (fun j hj => ?_) ?_
  · unfold mStep
    rw [u2_at]
    by_cases hji : j = i
    · rw [if_pos hji, ha, nI_1]; exact Or.inr ⟨a + 1, by omega, rfl⟩
    · rw [if_neg hji]; exact Or.inl rfl
  · rw [mStep_at (by decide), mStep_at (by decide), mStep_at (by decide), mStep_at (by decide), mStep_at (by decide), mStep_at (by decide)]; exact h1.g
/-- a change of no weight goes on -/
theorem runs.goes (h : runs M R W i O Q y) (hQ : Q + 1 < 2 ^ 30) (ha : M 22 i = nI a) (h8 : a < 8) (e : ∀ f, kF f = true → N f = M f) (h22 : ∀ j, ¬ j = i → N 22 j = M 22 j) (h22i : ∃ a' : Nat, N 22 i = nI a' ∧ a < a' ∧ a' ≤ 16) (hg : JG (M 8) (N 9) (N 10) (N 11) (N 15) (N 14) (N 16)) : goes M N i O Q a y := by
  obtain ⟨h1, h2, h3, h4⟩ := h
  have h30 := h1.h30
  refine ⟨R, W, ⟨?_, h2, by rw [e 17 rfl]; exact h3, by rw [e 23 rfl]; exact h4⟩, by rw [e 18 rfl], by rw [e 19 rfl], e 4 rfl, h22i⟩
  refine (h1.upd e (fun j hj => ?_) hg).mono (Nat.le_refl _) (by omega) (by omega) hQ
  by_cases hji : j = i
  · obtain ⟨a', z1, z2, z3⟩ := h22i
    rw [hji]; exact Or.inr ⟨a', by omega, z1⟩
  · exact Or.inl (h22 j hji)
theorem stp22 (ha : M 22 i = nI a) : mStep M i 22 i = nI (a + 1) := by unfold mStep; rw [u2_same, ha, nI_1]
theorem stp22' {j : Nat} (h : ¬ j = i) : mStep M i 22 j = M 22 j := by unfold mStep; rw [u2_oth h]
theorem nI_int {v : Int32} {k : Nat} (hk : k < 2 ^ 31) (h : 0 ≤ v ∧ v < nI k) : ∃ j : Nat, j < k ∧ v = nI j := inN hk h
theorem d_9 (h : runs M R W i O Q y) (hQ : Q + 1 < 2 ^ 30) (hs : atS M i g m a n) (hn : a < n) {v : Int32} : goes M (u2 (mStep M i) 9 g v) i O Q a y := by
  obtain ⟨s1, s2, s3, s4, s5, s6, s7⟩ := hs
  have hh := h.here
  rw [s1, nn_nI (by omega)] at hh
  refine h.goes hQ s5 (by omega) (fun f hf => by rw [u2_ne (kF_ne hf rfl), mStep_at (kF_ne hf rfl)]) (fun j hj => by rw [u2_ne (by decide), stp22' hj]) ⟨a + 1, by rw [u2_ne (by decide), stp22 s5], by omega, by omega⟩ ?_
  refine h.1.g.here hh (fun k hk => ?_) ?_
  · simp only [u2_at, if_neg hk, u2_ne (show (9 : Nat) ≠ 10 by decide), u2_ne (show (10 : Nat) ≠ 9 by decide), u2_ne (show (16 : Nat) ≠ 9 by decide), u2_ne (show (11 : Nat) ≠ 9 by decide), u2_ne (show (15 : Nat) ≠ 9 by decide), u2_ne (show (14 : Nat) ≠ 9 by decide), mStep_at (show (9 : Nat) ≠ 22 by decide), mStep_at (show (10 : Nat) ≠ 22 by decide), mStep_at (show (11 : Nat) ≠ 22 by decide), mStep_at (show (15 : Nat) ≠ 22 by decide), mStep_at (show (14 : Nat) ≠ 22 by decide), mStep_at (show (16 : Nat) ≠ 22 by decide), and_self]
  · simp only [u2_ne (show (15 : Nat) ≠ 9 by decide), u2_ne (show (14 : Nat) ≠ 9 by decide), mStep_at (show (9 : Nat) ≠ 22 by decide), mStep_at (show (10 : Nat) ≠ 22 by decide), mStep_at (show (11 : Nat) ≠ 22 by decide), mStep_at (show (15 : Nat) ≠ 22 by decide), mStep_at (show (14 : Nat) ≠ 22 by decide), mStep_at (show (16 : Nat) ≠ 22 by decide)]
    exact (h.1.g g s2).2
theorem d_10 (h : runs M R W i O Q y) (hQ : Q + 1 < 2 ^ 30) (hs : atS M i g m a n) (hn : a < n) {v : Int32} : goes M (u2 (mStep M i) 10 g v) i O Q a y := by
  obtain ⟨s1, s2, s3, s4, s5, s6, s7⟩ := hs
  have hh := h.here
  rw [s1, nn_nI (by omega)] at hh
  refine h.goes hQ s5 (by omega) (fun f hf => by rw [u2_ne (kF_ne hf rfl), mStep_at (kF_ne hf rfl)]) (fun j hj => by rw [u2_ne (by decide), stp22' hj]) ⟨a + 1, by rw [u2_ne (by decide), stp22 s5], by omega, by omega⟩ ?_
  refine h.1.g.here hh (fun k hk => ?_) ?_
  · simp only [u2_at, if_neg hk, u2_ne (show (9 : Nat) ≠ 10 by decide), u2_ne (show (10 : Nat) ≠ 9 by decide), u2_ne (show (16 : Nat) ≠ 10 by decide), u2_ne (show (11 : Nat) ≠ 10 by decide), u2_ne (show (15 : Nat) ≠ 10 by decide), u2_ne (show (14 : Nat) ≠ 10 by decide), mStep_at (show (9 : Nat) ≠ 22 by decide), mStep_at (show (10 : Nat) ≠ 22 by decide), mStep_at (show (11 : Nat) ≠ 22 by decide), mStep_at (show (15 : Nat) ≠ 22 by decide), mStep_at (show (14 : Nat) ≠ 22 by decide), mStep_at (show (16 : Nat) ≠ 22 by decide), and_self]
  · simp only [u2_ne (show (15 : Nat) ≠ 10 by decide), u2_ne (show (14 : Nat) ≠ 10 by decide), mStep_at (show (9 : Nat) ≠ 22 by decide), mStep_at (show (10 : Nat) ≠ 22 by decide), mStep_at (show (11 : Nat) ≠ 22 by decide), mStep_at (show (15 : Nat) ≠ 22 by decide), mStep_at (show (14 : Nat) ≠ 22 by decide), mStep_at (show (16 : Nat) ≠ 22 by decide)]
    exact (h.1.g g s2).2
theorem d_16 (h : runs M R W i O Q y) (hQ : Q + 1 < 2 ^ 30) (hs : atS M i g m a n) (hn : a < n) {v : Int32} : goes M (u2 (mStep M i) 16 g v) i O Q a y := by
  obtain ⟨s1, s2, s3, s4, s5, s6, s7⟩ := hs
  have hh := h.here
  rw [s1, nn_nI (by omega)] at hh
  refine h.goes hQ s5 (by omega) (fun f hf => by rw [u2_ne (kF_ne hf rfl), mStep_at (kF_ne hf rfl)]) (fun j hj => by rw [u2_ne (by decide), stp22' hj]) ⟨a + 1, by rw [u2_ne (by decide), stp22 s5], by omega, by omega⟩ ?_
  refine h.1.g.here hh (fun k hk => ?_) ?_
  · simp only [u2_at, if_neg hk, u2_ne (show (9 : Nat) ≠ 16 by decide), u2_ne (show (10 : Nat) ≠ 16 by decide), u2_ne (show (16 : Nat) ≠ 9 by decide), u2_ne (show (11 : Nat) ≠ 16 by decide), u2_ne (show (15 : Nat) ≠ 16 by decide), u2_ne (show (14 : Nat) ≠ 16 by decide), mStep_at (show (9 : Nat) ≠ 22 by decide), mStep_at (show (10 : Nat) ≠ 22 by decide), mStep_at (show (11 : Nat) ≠ 22 by decide), mStep_at (show (15 : Nat) ≠ 22 by decide), mStep_at (show (14 : Nat) ≠ 22 by decide), mStep_at (show (16 : Nat) ≠ 22 by decide), and_self]
  · simp only [u2_ne (show (15 : Nat) ≠ 16 by decide), u2_ne (show (14 : Nat) ≠ 16 by decide), mStep_at (show (9 : Nat) ≠ 22 by decide), mStep_at (show (10 : Nat) ≠ 22 by decide), mStep_at (show (11 : Nat) ≠ 22 by decide), mStep_at (show (15 : Nat) ≠ 22 by decide), mStep_at (show (14 : Nat) ≠ 22 by decide), mStep_at (show (16 : Nat) ≠ 22 by decide)]
    exact (h.1.g g s2).2
theorem d_15 (h : runs M R W i O Q y) (hQ : Q + 1 < 2 ^ 30) (hs : atS M i g m a n) (hn : a < n) {v : Int32} (hv : 0 ≤ v) : goes M (u2 (u2 (mStep M i) 15 g v) 14 g v) i O Q a y := by
  obtain ⟨s1, s2, s3, s4, s5, s6, s7⟩ := hs
  have hh := h.here
  rw [s1, nn_nI (by omega)] at hh
  refine h.goes hQ s5 (by omega) (fun f hf => by rw [u2_ne (kF_ne hf rfl), u2_ne (kF_ne hf rfl), mStep_at (kF_ne hf rfl)]) (fun j hj => by rw [u2_ne (by decide), u2_ne (by decide), stp22' hj]) ⟨a + 1, by rw [u2_ne (by decide), u2_ne (by decide), stp22 s5], by omega, by omega⟩ ?_
  refine h.1.g.here hh (fun k hk => ?_) ?_
  · simp [u2_at, hk, u2_ne, mStep_at]
  · simp only [u2_same, u2_ne (show (15 : Nat) ≠ 14 by decide)]
    by_cases h0 : v = 0
    · exact Or.inl ⟨h0, h0⟩
    · have : 0 < v := by
        rcases Int32.lt_or_eq_of_le hv with z | z
        · exact z
        · exact absurd z.symm h0
      exact Or.inr ⟨this, this⟩
theorem d_11 (h : runs M R W i O Q y) (hQ : Q + 1 < 2 ^ 30) (hs : atS M i g m a n) (hn : a < n) : goes M (mStep M i) i O Q a y := by
  obtain ⟨s1, s2, s3, s4, s5, s6, s7⟩ := hs
  have hh := h.here
  rw [s1, nn_nI (by omega)] at hh
  refine h.goes hQ s5 (by omega) (fun f hf => mStep_at (kF_ne hf rfl)) (fun j hj => stp22' hj) ⟨a + 1, stp22 s5, by omega, by omega⟩ ?_
  rw [mStep_at (show (9 : Nat) ≠ 22 by decide), mStep_at (show (10 : Nat) ≠ 22 by decide), mStep_at (show (11 : Nat) ≠ 22 by decide), mStep_at (show (15 : Nat) ≠ 22 by decide), mStep_at (show (14 : Nat) ≠ 22 by decide), mStep_at (show (16 : Nat) ≠ 22 by decide)]
  exact h.1.g
theorem d_21 (h : runs M R W i O Q y) (hQ : Q + 1 < 2 ^ 30) (hs : atS M i g m a n) (hn : a < n) {v : Int32} : goes M (u2 (mStep M i) 21 i v) i O Q a y := by
  obtain ⟨s1, s2, s3, s4, s5, s6, s7⟩ := hs
  have hh := h.here
  rw [s1, nn_nI (by omega)] at hh
  refine h.goes hQ s5 (by omega) (fun f hf => by rw [u2_ne (kF_ne hf rfl), mStep_at (kF_ne hf rfl)]) (fun j hj => by rw [u2_ne (by decide), stp22' hj]) ⟨a + 1, by rw [u2_ne (by decide), stp22 s5], by omega, by omega⟩ ?_
  simp only [u2_ne (show (9 : Nat) ≠ 21 by decide), u2_ne (show (10 : Nat) ≠ 21 by decide), u2_ne (show (11 : Nat) ≠ 21 by decide), u2_ne (show (15 : Nat) ≠ 21 by decide), u2_ne (show (14 : Nat) ≠ 21 by decide), u2_ne (show (16 : Nat) ≠ 21 by decide), mStep_at (show (9 : Nat) ≠ 22 by decide), mStep_at (show (10 : Nat) ≠ 22 by decide), mStep_at (show (11 : Nat) ≠ 22 by decide), mStep_at (show (15 : Nat) ≠ 22 by decide), mStep_at (show (14 : Nat) ≠ 22 by decide), mStep_at (show (16 : Nat) ≠ 22 by decide)]
  exact h.1.g
theorem d_12 (h : runs M R W i O Q y) (hQ : Q + 1 < 2 ^ 30) (hs : atS M i g m a n) (hn : a < n) {k : Nat} (hk : k ≤ 7) : goes M (if M 21 i < 0 then u2 (mStep M i) 22 i (M 22 i + 1 + nI k) else mStep M i) i O Q a y := by
  split
  · obtain ⟨s1, s2, s3, s4, s5, s6, s7⟩ := hs
    refine h.goes hQ s5 (by omega) (fun f hf => by rw [u2_ne (kF_ne hf rfl), mStep_at (kF_ne hf rfl)]) (fun j hj => by rw [u2_oth hj, stp22' hj]) ⟨a + 1 + k, by rw [u2_same, s5, nI_1, nI_add], by omega, by omega⟩ ?_
    simp only [u2_ne (show (9 : Nat) ≠ 22 by decide), u2_ne (show (10 : Nat) ≠ 22 by decide), u2_ne (show (11 : Nat) ≠ 22 by decide), u2_ne (show (15 : Nat) ≠ 22 by decide), u2_ne (show (14 : Nat) ≠ 22 by decide), u2_ne (show (16 : Nat) ≠ 22 by decide), mStep_at (show (9 : Nat) ≠ 22 by decide), mStep_at (show (10 : Nat) ≠ 22 by decide), mStep_at (show (11 : Nat) ≠ 22 by decide), mStep_at (show (15 : Nat) ≠ 22 by decide), mStep_at (show (14 : Nat) ≠ 22 by decide), mStep_at (show (16 : Nat) ≠ 22 by decide)]
    exact h.1.g
  · exact d_11 h hQ hs hn
theorem mCatch_lt {M : Nat → Nat → Int32} {i : Nat} (hc : mCatch M i = 1) : M 22 i < M 4 (mMeth M i) := by
  unfold mCatch at hc
  split at hc
  · rename_i hz
    exact hz.1
  · exact absurd hc (by decide)
theorem d_3c (h : runs M R W i O Q y) (hQ : Q + 1 < 2 ^ 30) (hs : atS M i g m a n) (hn : a < n) (hc : mCatch (mStep M i) i = 1) : goes M (mCaught (mStep M i) i) i O Q a y := by
  obtain ⟨s1, s2, s3, s4, s5, s6, s7⟩ := hs
  have hh := h.here
  rw [s1, nn_nI (by omega)] at hh
  have hlt := mCatch_lt hc
  have hq : mMeth (mStep M i) i = 4 * (g / 8) + m := by unfold mMeth; rw [mStep_at (by decide), mStep_at (by decide), s1, s3, nn_nI (by omega), nn_nI (by omega)]
  rw [hq, stp22 s5, mStep_at (by decide), s6, nI_ltI (by omega) (by omega)] at hlt
  refine h.goes hQ s5 (by omega) (fun f hf => by unfold mCaught; rw [u2_ne (kF_ne hf rfl), u2_ne (kF_ne hf rfl), mStep_at (kF_ne hf rfl)]) (fun j hj => by unfold mCaught; rw [u2_oth hj, u2_ne (by decide), stp22' hj]) ⟨a + 2, by unfold mCaught; rw [u2_same, stp22 s5, nI_1], by omega, by omega⟩ ?_
  unfold mCaught
  simp only [u2_ne (show (9 : Nat) ≠ 22 by decide), u2_ne (show (10 : Nat) ≠ 22 by decide), u2_ne (show (11 : Nat) ≠ 22 by decide), u2_ne (show (15 : Nat) ≠ 22 by decide), u2_ne (show (14 : Nat) ≠ 22 by decide), u2_ne (show (16 : Nat) ≠ 22 by decide), u2_ne (show (9 : Nat) ≠ 21 by decide), u2_ne (show (10 : Nat) ≠ 21 by decide), u2_ne (show (11 : Nat) ≠ 21 by decide), u2_ne (show (15 : Nat) ≠ 21 by decide), u2_ne (show (14 : Nat) ≠ 21 by decide), u2_ne (show (16 : Nat) ≠ 21 by decide), mStep_at (show (9 : Nat) ≠ 22 by decide), mStep_at (show (10 : Nat) ≠ 22 by decide), mStep_at (show (11 : Nat) ≠ 22 by decide), mStep_at (show (15 : Nat) ≠ 22 by decide), mStep_at (show (14 : Nat) ≠ 22 by decide), mStep_at (show (16 : Nat) ≠ 22 by decide)]
  exact h.1.g
theorem d_5 (h : runs M R W i O Q y) (hQ : Q + 1 < 2 ^ 30) (hs : atS M i g m a n) (hn : a < n) : goes M (mSave (mStep M i) g) i O Q a y := by
  obtain ⟨s1, s2, s3, s4, s5, s6, s7⟩ := hs
  have hh := h.here
  rw [s1, nn_nI (by omega)] at hh
  refine h.goes hQ s5 (by omega) (fun f hf => by rw [mSave_at ⟨kF_ne hf rfl, kF_ne hf rfl⟩, mStep_at (kF_ne hf rfl)]) (fun j hj => by rw [mSave_at (by decide), stp22' hj]) ⟨a + 1, by rw [mSave_at (by decide), stp22 s5], by omega, by omega⟩ ?_
  rw [mSave_at (by decide), mSave_at (by decide), mSave_at (by decide), mSave_at (by decide), mSave_at (by decide), mSave_at (by decide), mStep_at (show (9 : Nat) ≠ 22 by decide), mStep_at (show (10 : Nat) ≠ 22 by decide), mStep_at (show (11 : Nat) ≠ 22 by decide), mStep_at (show (15 : Nat) ≠ 22 by decide), mStep_at (show (14 : Nat) ≠ 22 by decide), mStep_at (show (16 : Nat) ≠ 22 by decide)]
  exact h.1.g
theorem mMade_at {M : Nat → Nat → Int32} {R g f : Nat} (h1 : f ≠ 8) (h2 : f ≠ 30) (h3 : f ≠ 31) (h4 : f ≠ 23) : mMade M R g f = M f := by
  unfold mMade
  split
  · unfold mQueue; rw [u2_ne h3, u2_ne h2, u2_ne h1]
  · exact mLooked_at h2 h3 h4
theorem mLook_1 {g R j : Nat} : ∀ (r i : Nat) (M : Nat → Nat → Int32), M 23 j = 1 → mLook g R r i M 23 j = 1
  | 0, _, M, h => h
  | r + 1, i, M, h => by
    by_cases hz : M 18 i = nI g ∧ M 23 i = 0 ∧ mLookC M g R i
    · rw [mLook_t hz]
      refine mLook_1 r (i + 1) _ ?_
      rw [mReady_23]
      split
      · rfl
      · exact h
    · rw [mLook_f hz]; exact mLook_1 r (i + 1) M h
theorem mMade_1 {M : Nat → Nat → Int32} {R g j : Nat} (h : M 23 j = 1) : mMade M R g 23 j = 1 := by
  unfold mMade mLooked
  split
  · unfold mQueue; rw [u2_ne (by decide), u2_ne (by decide), u2_ne (by decide)]; exact h
  · split
    · exact mLook_1 R 0 M h
    · exact h
theorem mNew_row {M : Nat → Nat → Int32} {R g f j : Nat} {m v by_ ch : Int32} (hj : ¬ j = R) (h28 : f ≠ 28 ∧ f ≠ 29 ∧ f ≠ 11) : mNew M R g m v by_ ch f j = M f j := by
  unfold mNew
  have e : ∀ (q : Nat) (N : Nat → Nat → Int32) (z : Int32), u2 N q R z f j = N f j := by
    intro q N z
    by_cases hq : f = q
    · subst hq; rw [u2_oth hj]
    · rw [u2_ne hq]
  rw [u2_ne h28.2.2, e, e, e, e, e, e, e, e, e, e, u2_ne h28.2.1, e, u2_ne h28.1]
theorem d_4 (h : runs M R W i O Q y) (hQ : Q + 1 < 2 ^ 30) (hs : atS M i g m a n) (hn : a < n) {b c : Nat} {v : Int32} (hR : R < 30) (hb : b < 32) (hc : c < 4) : goes M (mMake (mStep M i) R b (nI c) v (-1) 0) i O Q a y := by
  obtain ⟨s1, s2, s3, s4, s5, s6, s7⟩ := hs
  have hh := h.here
  rw [s1, nn_nI (by omega)] at hh
  have hst := h.step s5 (by omega)
  have hyn : ¬ mStep M i 29 0 = y := fun z => h.1.n.ne h.2.1 (by rw [h.2.2.1, ← z, mStep_at (by decide)])
  have hy0 := (h.1.n.1 i h.2.1).1
  rw [h.2.2.1] at hy0
  obtain ⟨W', hJ⟩ := hst.1.make (v := v) (by_ := -1) (ch := 0) hR hb hc hyn (ng_ne hb hy0) rfl (by omega) hQ
  have hne : ¬ i = R := by have := h.2.1; omega
  refine ⟨R + 1, W', ⟨hJ, by have := h.2.1; omega, ?_, ?_⟩, ?_, ?_, ?_, a + 1, ?_, by omega, by omega⟩
  · rw [mMake_made, mMade_at (by decide) (by decide) (by decide) (by decide), mNew_row hne (by decide), mStep_at (by decide)]; exact h.2.2.1
  · rw [mMake_made]; exact mMade_1 (by rw [mNew_row hne (by decide), mStep_at (by decide)]; exact h.2.2.2)
  · rw [mMake_made, mMade_at (by decide) (by decide) (by decide) (by decide), mNew_row hne (by decide), mStep_at (by decide)]
  · rw [mMake_made, mMade_at (by decide) (by decide) (by decide) (by decide), mNew_row hne (by decide), mStep_at (by decide)]
  · rw [mMake_made, mMade_at (by decide) (by decide) (by decide) (by decide), mNew_at (by omega) (by decide), mStep_at (by decide)]
  · rw [mMake_made, mMade_at (by decide) (by decide) (by decide) (by decide), mNew_row hne (by decide), stp22 s5]
theorem d_6 (h : runs M R W i O Q y) (hQ : Q + 1 < 2 ^ 30) (hs : atS M i g m a n) (hn : a < n) : ∃ R' W', J (mQueue (mStep M i) (M 17 i)) R' W' (R' + 32) O (Q + 1) (-1) (-1) := by
  obtain ⟨s1, s2, s3, s4, s5, s6, s7⟩ := hs
  have hh := h.here
  rw [s1, nn_nI (by omega)] at hh
  have hst := h.step s5 (by omega)
  have h30 := h.1.h30
  have e : ∀ f, f ≠ 30 → f ≠ 31 → mQueue (mStep M i) (M 17 i) f = mStep M i f := fun f a b => by unfold mQueue; rw [u2_ne b, u2_ne a]
  have e30 : mQueue (mStep M i) (M 17 i) 30 = va_up (mStep M i 30) W (M 17 i) := by unfold mQueue; rw [u2_ne (by decide), u2_eq, hst.1.nW]
  have hx := hst.1.mono (K2 := R + 32) (Q2 := Q + 1) (by omega) (by omega) (by omega) hQ
  refine ⟨R, W + 1, ?_, ?_, ?_, ?_, ?_, ?_, ?_, ?_, ?_⟩
  · refine hx.ok.of (by rw [e 28 (by decide) (by decide)]) ?_ (fun j _ => by rw [e 18 (by decide) (by decide)]) (fun j _ => by rw [e 19 (by decide) (by decide)]) (fun j _ => Or.inl (by rw [e 22 (by decide) (by decide)])) (e 4 (by decide) (by decide)) (fun j _ => Or.inl (by rw [e 26 (by decide) (by decide)])) ?_
    · unfold mQueue; rw [u2_same, hst.1.hW, nI_1]
    · rw [e 23 (by decide) (by decide), e 8 (by decide) (by decide)]
      have := hst.1.ok.2.2.2.2.2.2.1
      omega
  · rw [e 17 (by decide) (by decide), e 29 (by decide) (by decide)]; exact hx.n
  · rw [e 18 (by decide) (by decide), e 23 (by decide) (by decide), e 8 (by decide) (by decide)]; exact hx.s
  · rw [e 17 (by decide) (by decide), e 23 (by decide) (by decide), e 8 (by decide) (by decide), e30]
    have hl := (hx.l.none hx.n)
    have h17 : mStep M i 17 = M 17 := mStep_at (by decide)
    have h23 : mStep M i 23 i = 1 := by rw [mStep_at (by decide)]; exact h.2.2.2
    have hyl : ∀ k, k < W → ¬ mStep M i 30 k = M 17 i := fun k hk => by rw [h.2.2.1]; exact (hx.l.1 k hk).1
    refine ⟨fun k hk => ?_, fun j k hjk hk => ?_, hl.2.2⟩
    · by_cases hkW : k = W
      · subst hkW
        simp only [va_up, if_true]
        exact ⟨p_m1 (h.1.n.1 i h.2.1).1, Or.inr ⟨i, h.2.1, by rw [h17], h23⟩⟩
      · simp only [va_up, if_neg hkW]
        exact hl.1 k (by omega)
    · by_cases hkW : k = W
      · subst hkW
        simp only [va_up, if_true, if_neg (show ¬ j = k by omega)]
        exact hyl j hjk
      · simp only [va_up, if_neg hkW, if_neg (show ¬ j = W by omega)]
        exact hl.2.1 j k hjk (by omega)
  · rw [e 17 (by decide) (by decide), e 23 (by decide) (by decide), e 24 (by decide) (by decide), e 25 (by decide) (by decide), e 26 (by decide) (by decide), e 32 (by decide) (by decide), e 34 (by decide) (by decide)]; exact hx.a
  · rw [e 36 (by decide) (by decide)]; exact hx.o
  · rw [e 34 (by decide) (by decide), e 29 (by decide) (by decide)]; exact hx.q
  · rw [e 8 (by decide) (by decide), e 9 (by decide) (by decide), e 10 (by decide) (by decide), e 11 (by decide) (by decide), e 15 (by decide) (by decide), e 14 (by decide) (by decide), e 16 (by decide) (by decide)]; exact hx.g
  · rw [e 4 (by decide) (by decide), e 5 (by decide) (by decide), e 6 (by decide) (by decide), e 7 (by decide) (by decide)]; exact hx.t
theorem d_3 (h : runs M R W i O Q y) (hQ : Q + 1 < 2 ^ 30) (hs : atS M i g m a n) (hn : a < n) {b c : Nat} (hR : R < 30) (hb : b < 32) (hc : c < 4) : ∃ R' W', J (mInvoke (mStep M i) R i g b c) R' W' (R' + 32) O (Q + 1) (-1) (-1) := by
  obtain ⟨s1, s2, s3, s4, s5, s6, s7⟩ := hs
  have hh := h.here
  rw [s1, nn_nI (by omega)] at hh
  have hst := h.step s5 (by omega)
  obtain ⟨W', hJ⟩ := hst.1.invoke (g := g) hR h.2.1 hst.2.2.1.symm hst.2.2.2 hb hc hQ
  exact ⟨R + 1, W', hJ⟩
/-- a request that runs ends -/
theorem runs.over (h : runs M R W i O Q y) {v code : Int32} : ∃ R' W', J (mOver M R i v code) R' W' (R' + 32) O Q (-1) (-1) := by
  obtain ⟨h1, h2, h3, h4⟩ := h
  obtain ⟨R0, rfl⟩ : ∃ q, R = q + 1 := ⟨R - 1, by omega⟩
  obtain ⟨R', W', q, -⟩ := J.over (v := v) (code := code) (i := i) (M := M) (R := R0) (W := W) (by rw [if_pos h4]; exact h1) h2 (Or.inr ⟨by rw [h4]; decide, rfl⟩) (fun k hk => by rw [h3]; exact (h1.l.1 k hk).1)
  exact ⟨R', W', q⟩
theorem runs.worked (h : runs M R W i O Q y) : runs (mWorked M) R W i O Q y := by
  obtain ⟨h1, h2, h3, h4⟩ := h
  refine ⟨?_, h2, by rw [mWorked_at (by decide)]; exact h3, by rw [mWorked_at (by decide)]; exact h4⟩
  refine h1.upd (fun f hf => mWorked_at (kF_ne hf rfl)) (fun j _ => Or.inl (by rw [mWorked_at (by decide)])) ?_
  rw [mWorked_at (by decide), mWorked_at (by decide), mWorked_at (by decide), mWorked_at (by decide), mWorked_at (by decide), mWorked_at (by decide)]; exact h1.g
end DD
