/-! ===== the class: noneAt, find, mayBegin, lookAt ===== -/
/-- both together: the class against M, and what stays right in M -/
def RJ (I : Nat → Nat → Int32) (P : Nat → Nat → Option Nat) (M : Nat → Nat → Int32) (ρ : Nat → Nat) (R W K O Q : Nat) (y x : Int32) : Prop := Rel I P M ρ R W x ∧ J M R W K O Q y x
section CL
variable {X : Nat × (Nat → Int32)} {d : Nat} {I : Nat → Nat → Int32} {P : Nat → Nat → Option Nat} {M N : Nat → Nat → Int32} {ρ : Nat → Nat} {R W K O Q : Nat} {y x : Int32}
theorem RJ.row (h : RJ I P M ρ R W K O Q y x) {j : Nat} (hj : j < R) : ∃ g m : Nat, g < 32 ∧ m < 4 ∧ M 18 j = nI g ∧ M 19 j = nI m ∧ ρ j < 30 ∧ P 10 j = some (7 + ρ j) ∧ P 0 (ρ j) = some (113 + g) ∧ P 1 (ρ j) = some (43 + 18 * (g / 8) + 4 * m) ∧ I 40 (ρ j) = M 17 j ∧ I 43 (ρ j) = M 23 j ∧ I 45 (ρ j) = M 22 j ∧ I 44 (ρ j) = M 21 j ∧ I 42 (ρ j) = M 20 j ∧ I 41 (ρ j) = M 19 j ∧ I 46 (ρ j) = chn (M 27 j) (nI g) ∧ I 47 (ρ j) = cbk (M 27 j) (nI g) := by
  obtain ⟨g, m, a, b1, b2, b3, b4, b5, b6⟩ := h.2.row hj
  have h30 := h.2.h30
  obtain ⟨p0, p1, p46, p47, p48⟩ := h.1.p j hj
  have hg : nn (M 18 j) = g := by rw [b1, nn_nI (by omega)]
  have hm : nn (M 19 j) = m := by rw [b3, nn_nI (by omega)]
  rw [hg] at p0 p1
  rw [hm] at p1
  rw [b1] at p46 p47
  exact ⟨g, m, b2, b4, b1, b3, (h.1.r.1 j (by omega)).2, (h.1.r.1 j (by omega)).1, p0, p1, h.1.q 40 j (by decide) hj, h.1.q 43 j (by decide) hj, h.1.q 45 j (by decide) hj, h.1.q 44 j (by decide) hj, h.1.q 42 j (by decide) hj, h.1.q 41 j (by decide) hj, p46, p47⟩
theorem RJ.size (h : RJ I P M ρ R W K O Q y x) : I 50 0 = nI R := by rw [h.1.s 50 (by decide)]; exact h.2.hR
theorem RJ.f8 (h : RJ I P M ρ R W K O Q y x) : I 30 = M 8 := h.1.s 30 (by decide)
theorem mEmpty_iff {g : Nat} : mEmpty M (nI g) R = 1 ↔ ∀ k, k < R → ¬ M 18 k = nI g := by
  constructor
  · exact mEmpty_no
  · intro h
    have key : ∀ (w : Int32) (r i : Nat), i + r ≤ R → mMany M (nI g) w r i = 0 := by
      intro w r
      induction r with
      | zero => intro i _; rfl
      | succ r ih =>
        intro i hi
        rw [mMany_f (fun z => h i (by omega) z.1)]
        exact ih (i + 1) (by omega)
    unfold mEmpty
    rw [if_pos (by rw [key 0 R 0 (by omega), key 1 R 0 (by omega)])]
theorem c42l (h : RJ I P M ρ R W K O Q y x) {g : Nat} (hg : g < 32) : ∀ (r i : Nat), i + r = R → (∀ k, k < i → ¬ M 18 k = nI g) → jl gw X d 42 2 [some (.ref 5), some (.ref (113 + g)), some (.int (nI i))] [] (he I P N) = some (some (.int (mEmpty M (nI g) R)), he I P N) := by
  intro r
  have hsz := h.size
  have h30 := h.2.h30
  induction r with
  | zero =>
    intro i hi hk
    have hi : i = R := by omega
    subst hi
    rw [mEmpty_iff.mpr hk, r42_2]
    simp (disch := first | decide | omega | assumption | (simp (disch := decide) only [u2_ne, u2_same, mQueue]; assumption)) only [kV_some, kI_some, kR_some, kR_any, kH_some, kC_none, kC_some, jv_rsv_ref, jv_rsv_rf, jv_nz_ref, jv_nz_null, jv_nz_rf0, jv_nz_rf1, jv_rq_r1, jv_rq_r0, n10, n11, n00, Nat.reduceEqDiff, Option.bind_some, Option.bind_none, jv_isr_ref, jv_isr_rf, jv_isr_null, va_rf_some, va_rf_none, jv_cat1_int, jv_cat1_ref, jv_cat1_rf, if_true, if_false, eq_self, Option.toList_some, Option.toList_none, List.cons_append, List.nil_append, Bool.and_self, Bool.and_true, i32_10, i32_01, i32_80, nI_div8, nI_mul4, nI_mul8, nI_mul32, nI_add, ↓reduceIte, u2_ne, u2_same, r42_0, r42_1, r42_3, r42_4, r42_7, r42_10, r42_11, r42_14, r42_15, r42_16, r42_19, r42_20, r42_23, r42_24, r42_25, r42_28, r42_31, r42_32, gt_5_1, hsz, Int32.le_refl, or_true]
  | succ r ih =>
    intro i hi hk
    have h1 : ¬ nI R ≤ nI i := nI_ge (by omega) (by omega)
    obtain ⟨g2, m, q1, q2, q3, q4, hρ, q6, q7, q8, -⟩ := h.row (show i < R by omega)
    rw [r42_2]
    by_cases he : g2 = g
    · subst he
      have hz : mEmpty M (nI g2) R = 0 := (mEmpty_01).resolve_right (fun z => mEmpty_iff.mp z i (by omega) q3)
      rw [hz]
      simp (disch := first | decide | omega | assumption | (simp (disch := decide) only [u2_ne, u2_same, mQueue]; assumption)) only [kV_some, kI_some, kR_some, kR_any, kH_some, kC_none, kC_some, jv_rsv_ref, jv_rsv_rf, jv_nz_ref, jv_nz_null, jv_nz_rf0, jv_nz_rf1, jv_rq_r1, jv_rq_r0, n10, n11, n00, Nat.reduceEqDiff, Option.bind_some, Option.bind_none, jv_isr_ref, jv_isr_rf, jv_isr_null, va_rf_some, va_rf_none, jv_cat1_int, jv_cat1_ref, jv_cat1_rf, if_true, if_false, eq_self, Option.toList_some, Option.toList_none, List.cons_append, List.nil_append, Bool.and_self, Bool.and_true, i32_10, i32_01, i32_80, nI_div8, nI_mul4, nI_mul8, nI_mul32, nI_add, ↓reduceIte, u2_ne, u2_same, r42_0, r42_1, r42_3, r42_4, r42_7, r42_10, r42_11, r42_14, r42_15, r42_16, r42_19, r42_20, r42_23, r42_24, r42_25, r42_28, r42_31, r42_32, gt_5_1, hsz, h1, gt_5_0, rl_6, q6, gt_rq_1, q7, true_or]
    · have he' : ¬ 113 + g2 = 113 + g := by omega
      simp (disch := first | decide | omega | assumption | (simp (disch := decide) only [u2_ne, u2_same, mQueue]; assumption)) only [kV_some, kI_some, kR_some, kR_any, kH_some, kC_none, kC_some, jv_rsv_ref, jv_rsv_rf, jv_nz_ref, jv_nz_null, jv_nz_rf0, jv_nz_rf1, jv_rq_r1, jv_rq_r0, n10, n11, n00, Nat.reduceEqDiff, Option.bind_some, Option.bind_none, jv_isr_ref, jv_isr_rf, jv_isr_null, va_rf_some, va_rf_none, jv_cat1_int, jv_cat1_ref, jv_cat1_rf, if_true, if_false, eq_self, Option.toList_some, Option.toList_none, List.cons_append, List.nil_append, Bool.and_self, Bool.and_true, i32_10, i32_01, i32_80, nI_div8, nI_mul4, nI_mul8, nI_mul32, nI_add, ↓reduceIte, u2_ne, u2_same, r42_0, r42_1, r42_3, r42_4, r42_7, r42_10, r42_11, r42_14, r42_15, r42_16, r42_19, r42_20, r42_23, r42_24, r42_25, r42_28, r42_31, r42_32, gt_5_1, hsz, h1, gt_5_0, rl_6, q6, gt_rq_1, q7, he', not_false_eq_true, nI_1]
      refine ih (i + 1) (by omega) (fun k hk2 => ?_)
      by_cases hki : k = i
      · subst hki
        rw [q3]
        exact fun z => he ((nI_eq (by omega) (by omega)).mp z)
      · exact hk k (by omega)
theorem c42 (h : RJ I P M ρ R W K O Q y x) {g : Nat} (hg : g < 32) (hd : 1 ≤ d) : jv_F gw X d 42 [.ref 5, .ref (113 + g)] (he I P N) = some (some (.int (mEmpty M (nI g) R)), he I P N) := by
  obtain ⟨d, rfl⟩ : ∃ q, d = q + 1 := ⟨d - 1, by omega⟩
  rw [e42 rfl]
  simp (disch := first | decide | omega | assumption | (simp (disch := decide) only [u2_ne, u2_same, mQueue]; assumption)) only [kV_some, kI_some, kR_some, kR_any, kH_some, kC_none, kC_some, jv_rsv_ref, jv_rsv_rf, jv_nz_ref, jv_nz_null, jv_nz_rf0, jv_nz_rf1, jv_rq_r1, jv_rq_r0, n10, n11, n00, Nat.reduceEqDiff, Option.bind_some, Option.bind_none, jv_isr_ref, jv_isr_rf, jv_isr_null, va_rf_some, va_rf_none, jv_cat1_int, jv_cat1_ref, jv_cat1_rf, if_true, if_false, eq_self, Option.toList_some, Option.toList_none, List.cons_append, List.nil_append, Bool.and_self, Bool.and_true, i32_10, i32_01, i32_80, nI_div8, nI_mul4, nI_mul8, nI_mul32, nI_add, ↓reduceIte, u2_ne, u2_same, r42_0, r42_1, r42_3, r42_4, r42_7, r42_10, r42_11, r42_14, r42_15, r42_16, r42_19, r42_20, r42_23, r42_24, r42_25, r42_28, r42_31, r42_32]
  exact c42l h hg R 0 (by omega) (fun k hk => by omega)
theorem c46l (h : RJ I P M ρ R W K O Q y x) {n : Int32} : ∀ (r i : Nat), i + r = R → jl gw X d 46 2 [some (.ref 5), some (.int n), some (.int (nI i))] [] (he I P N) = some (some (va_rf (if mFind M n r i < 0 then none else some (7 + ρ (nn (mFind M n r i))))), he I P N) := by
  intro r
  have hsz := h.size
  have h30 := h.2.h30
  induction r with
  | zero =>
    intro i hi
    have hi : i = R := by omega
    subst hi
    rw [mFind, if_pos (by decide), r46_2]
    simp (disch := first | decide | omega | assumption | (simp (disch := decide) only [u2_ne, u2_same, mQueue]; assumption)) only [kV_some, kI_some, kR_some, kR_any, kH_some, kC_none, kC_some, jv_rsv_ref, jv_rsv_rf, jv_nz_ref, jv_nz_null, jv_nz_rf0, jv_nz_rf1, jv_rq_r1, jv_rq_r0, n10, n11, n00, Nat.reduceEqDiff, Option.bind_some, Option.bind_none, jv_isr_ref, jv_isr_rf, jv_isr_null, va_rf_some, va_rf_none, jv_cat1_int, jv_cat1_ref, jv_cat1_rf, if_true, if_false, eq_self, Option.toList_some, Option.toList_none, List.cons_append, List.nil_append, Bool.and_self, Bool.and_true, i32_10, i32_01, i32_80, nI_div8, nI_mul4, nI_mul8, nI_mul32, nI_add, ↓reduceIte, u2_ne, u2_same, r46_0, r46_1, r46_3, r46_4, r46_7, r46_10, r46_11, r46_14, r46_15, r46_16, r46_19, r46_20, r46_23, r46_24, r46_27, r46_28, r46_29, r46_30, r46_33, r46_36, r46_37, gt_5_1, hsz, Int32.le_refl, or_true]
  | succ r ih =>
    intro i hi
    have h1 : ¬ nI R ≤ nI i := nI_ge (by omega) (by omega)
    obtain ⟨g2, m, q1, q2, q3, q4, hρ, q6, q7, q8, q9, -⟩ := h.row (show i < R by omega)
    rw [mFind, r46_2]
    by_cases he : M 17 i = n
    · have p1 : ¬ nI i < 0 := nI_pos (by omega)
      have hn : nn (nI i) = i := nn_nI (by omega)
      rw [if_pos he, if_neg p1, hn]
      simp (disch := first | decide | omega | assumption | (simp (disch := decide) only [u2_ne, u2_same, mQueue]; assumption)) only [kV_some, kI_some, kR_some, kR_any, kH_some, kC_none, kC_some, jv_rsv_ref, jv_rsv_rf, jv_nz_ref, jv_nz_null, jv_nz_rf0, jv_nz_rf1, jv_rq_r1, jv_rq_r0, n10, n11, n00, Nat.reduceEqDiff, Option.bind_some, Option.bind_none, jv_isr_ref, jv_isr_rf, jv_isr_null, va_rf_some, va_rf_none, jv_cat1_int, jv_cat1_ref, jv_cat1_rf, if_true, if_false, eq_self, Option.toList_some, Option.toList_none, List.cons_append, List.nil_append, Bool.and_self, Bool.and_true, i32_10, i32_01, i32_80, nI_div8, nI_mul4, nI_mul8, nI_mul32, nI_add, ↓reduceIte, u2_ne, u2_same, r46_0, r46_1, r46_3, r46_4, r46_7, r46_10, r46_11, r46_14, r46_15, r46_16, r46_19, r46_20, r46_23, r46_24, r46_27, r46_28, r46_29, r46_30, r46_33, r46_36, r46_37, gt_5_1, hsz, h1, gt_5_0, rl_6, q6, gt_rq_0, q9, he, true_or]
    · rw [if_neg he]
      simp (disch := first | decide | omega | assumption | (simp (disch := decide) only [u2_ne, u2_same, mQueue]; assumption)) only [kV_some, kI_some, kR_some, kR_any, kH_some, kC_none, kC_some, jv_rsv_ref, jv_rsv_rf, jv_nz_ref, jv_nz_null, jv_nz_rf0, jv_nz_rf1, jv_rq_r1, jv_rq_r0, n10, n11, n00, Nat.reduceEqDiff, Option.bind_some, Option.bind_none, jv_isr_ref, jv_isr_rf, jv_isr_null, va_rf_some, va_rf_none, jv_cat1_int, jv_cat1_ref, jv_cat1_rf, if_true, if_false, eq_self, Option.toList_some, Option.toList_none, List.cons_append, List.nil_append, Bool.and_self, Bool.and_true, i32_10, i32_01, i32_80, nI_div8, nI_mul4, nI_mul8, nI_mul32, nI_add, ↓reduceIte, u2_ne, u2_same, r46_0, r46_1, r46_3, r46_4, r46_7, r46_10, r46_11, r46_14, r46_15, r46_16, r46_19, r46_20, r46_23, r46_24, r46_27, r46_28, r46_29, r46_30, r46_33, r46_36, r46_37, gt_5_1, hsz, h1, gt_5_0, rl_6, q6, gt_rq_0, q9, he, nI_1]
      exact ih (i + 1) (by omega)
theorem c46 (h : RJ I P M ρ R W K O Q y x) {n : Int32} (hd : 1 ≤ d) : jv_F gw X d 46 [.ref 5, .int n] (he I P N) = some (some (va_rf (if mFind M n R 0 < 0 then none else some (7 + ρ (nn (mFind M n R 0))))), he I P N) := by
  obtain ⟨d, rfl⟩ : ∃ q, d = q + 1 := ⟨d - 1, by omega⟩
  rw [e46]
  simp (disch := first | decide | omega | assumption | (simp (disch := decide) only [u2_ne, u2_same, mQueue]; assumption)) only [kV_some, kI_some, kR_some, kR_any, kH_some, kC_none, kC_some, jv_rsv_ref, jv_rsv_rf, jv_nz_ref, jv_nz_null, jv_nz_rf0, jv_nz_rf1, jv_rq_r1, jv_rq_r0, n10, n11, n00, Nat.reduceEqDiff, Option.bind_some, Option.bind_none, jv_isr_ref, jv_isr_rf, jv_isr_null, va_rf_some, va_rf_none, jv_cat1_int, jv_cat1_ref, jv_cat1_rf, if_true, if_false, eq_self, Option.toList_some, Option.toList_none, List.cons_append, List.nil_append, Bool.and_self, Bool.and_true, i32_10, i32_01, i32_80, nI_div8, nI_mul4, nI_mul8, nI_mul32, nI_add, ↓reduceIte, u2_ne, u2_same, r46_0, r46_1, r46_3, r46_4, r46_7, r46_10, r46_11, r46_14, r46_15, r46_16, r46_19, r46_20, r46_23, r46_24, r46_27, r46_28, r46_29, r46_30, r46_33, r46_36, r46_37]
  exact c46l h R 0 (by omega)
/-- who stands in the way of request i at grain g with method number m -/
def inway (M : Nat → Nat → Int32) (g m k : Nat) : Prop := M 18 k = nI g ∧ ¬ M 23 k = 0 ∧ (M 3 (4 * (g / 8) + m) = 0 ∨ M 3 (4 * (g / 8) + nn (M 19 k)) = 0)
theorem mMany_none {g : Nat} (h : ∀ k, k < R → ¬ (M 18 k = nI g ∧ ¬ M 23 k = 0)) : mMany M (nI g) 1 R 0 = 0 := by
  have key : ∀ (r i : Nat), i + r ≤ R → mMany M (nI g) 1 r i = 0 := by
    intro r
    induction r with
    | zero => intro i _; rfl
    | succ r ih =>
      intro i hi
      rw [mMany_f (fun z => h i (by omega) ⟨z.1, fun e => absurd (z.2.mp e) (by decide)⟩)]
      exact ih (i + 1) (by omega)
  exact key R 0 (by omega)
theorem mAllR_iff {g : Nat} : mAllR M g R 0 = 1 ↔ ∀ k, k < R → ¬ (M 18 k = nI g ∧ ¬ M 23 k = 0 ∧ M 3 (4 * (g / 8) + nn (M 19 k)) = 0) := by
  have key : ∀ (r i : Nat), i + r = R → (mAllR M g r i = 1 ↔ ∀ k, i ≤ k → k < R → ¬ (M 18 k = nI g ∧ ¬ M 23 k = 0 ∧ M 3 (4 * (g / 8) + nn (M 19 k)) = 0)) := by
    intro r
    induction r with
    | zero => intro i hi; exact ⟨fun _ k h1 h2 => by omega, fun _ => rfl⟩
    | succ r ih =>
      intro i hi
      rw [mAllR]
      by_cases hz : M 18 i = nI g ∧ ¬ M 23 i = 0 ∧ M 3 (4 * (g / 8) + nn (M 19 i)) = 0
      · rw [if_pos hz]
        exact ⟨fun e => absurd e (by decide), fun e => absurd hz (e i (by omega) (by omega))⟩
      · rw [if_neg hz, ih (i + 1) (by omega)]
        constructor
        · intro e k h1 h2
          by_cases hk : k = i
          · subst hk; exact hz
          · exact e k (by omega) h2
        · intro e k h1 h2
          exact e k (by omega) h2
  rw [key R 0 (by omega)]
  exact ⟨fun e k hk => e k (by omega) hk, fun e k _ hk => e k hk⟩
theorem lookC_iff {g m i : Nat} (hm : nn (M 19 i) = m) : mLookC M g R i ↔ (¬ M 0 (g / 8) = 0 ∨ ¬ M 2 (4 * (g / 8) + m) = 0 ∨ (M 27 i >>> (nI g &&& 31)) &&& 1 = 1 ∨ ∀ k, k < R → ¬ inway M g m k) := by
  unfold mLookC inway
  rw [hm]
  constructor
  · rintro (h | h | h | h | h)
    · refine Or.inr (Or.inr (Or.inr (fun k hk z => ?_)))
      exact mMany_0 (M := M) (g := nI g) (w := 1) R 0 h k (by omega) (by omega) ⟨z.1, by simp [z.2.1]⟩
    · exact Or.inl h
    · exact Or.inr (Or.inl h)
    · refine Or.inr (Or.inr (Or.inr (fun k hk z => ?_)))
      rcases z.2.2 with e | e
      · exact h.1 e
      · exact mAllR_iff.mp h.2 k hk ⟨z.1, z.2.1, e⟩
    · exact Or.inr (Or.inr (Or.inl h))
  · rintro (h | h | h | h)
    · exact Or.inr (Or.inl h)
    · exact Or.inr (Or.inr (Or.inl h))
    · exact Or.inr (Or.inr (Or.inr (Or.inr h)))
    · by_cases h3 : M 3 (4 * (g / 8) + m) = 0
      · exact Or.inl (mMany_none (fun k hk z => h k hk ⟨z.1, z.2, Or.inl h3⟩))
      · exact Or.inr (Or.inr (Or.inr (Or.inl ⟨h3, mAllR_iff.mpr (fun k hk z => h k hk ⟨z.1, z.2.1, Or.inr z.2.2⟩)⟩)))
theorem c25l (h : RJ I P M ρ R W K O Q y x) {g m i : Nat} (hi : i < R) (hg : M 18 i = nI g) (hg2 : g < 32) (hm : M 19 i = nI m) (hm2 : m < 4) : ∀ (r j : Nat), j + r = R → (∀ k, k < j → ¬ inway M g m k) → ∀ (a4 a5 : Option Value), jl gw X d 25 36 [some (.ref 5), some (.ref (7 + ρ i)), some (.ref (43 + 18 * (g / 8) + 4 * m)), some (.int (nI j)), a4, a5] [] (he I P N) = some (some (.int (@ite _ (∀ k, k < R → ¬ inway M g m k) (Classical.propDecidable _) 1 0)), he I P N) := by
  intro r
  have hsz := h.size
  have h30 := h.2.h30
  have e14 : I 14 = M 3 := h.1.s 14 (by decide)
  obtain ⟨g1, m1, b1, b2, b3, b4, hρi, b6, b7, b8, -⟩ := h.row hi
  have eg : g1 = g := (nI_eq (by omega) (by omega)).mp (b3.symm.trans hg)
  subst eg
  have h8 : g1 / 8 < 4 := by omega
  induction r with
  | zero =>
    intro j hj hk a4 a5
    have hj : j = R := by omega
    subst hj
    rw [if_pos hk, r25_36]
    simp (disch := first | decide | omega | assumption | (simp (disch := decide) only [u2_ne, u2_same, mQueue]; assumption)) only [kV_some, kI_some, kR_some, kR_any, kH_some, kC_none, kC_some, jv_rsv_ref, jv_rsv_rf, jv_nz_ref, jv_nz_null, jv_nz_rf0, jv_nz_rf1, jv_rq_r1, jv_rq_r0, n10, n11, n00, Nat.reduceEqDiff, Option.bind_some, Option.bind_none, jv_isr_ref, jv_isr_rf, jv_isr_null, va_rf_some, va_rf_none, jv_cat1_int, jv_cat1_ref, jv_cat1_rf, if_true, if_false, eq_self, Option.toList_some, Option.toList_none, List.cons_append, List.nil_append, Bool.and_self, Bool.and_true, i32_10, i32_01, i32_80, nI_div8, nI_mul4, nI_mul8, nI_mul32, nI_add, ↓reduceIte, u2_ne, u2_same, r25_0, r25_1, r25_4, r25_5, r25_6, r25_9, r25_12, r25_15, r25_18, r25_19, r25_22, r25_25, r25_26, r25_29, r25_32, r25_33, r25_34, r25_35, r25_37, r25_38, r25_41, r25_44, r25_45, r25_48, r25_49, r25_50, r25_52, r25_54, r25_57, r25_58, r25_61, r25_64, r25_66, r25_69, r25_72, r25_73, r25_76, r25_77, r25_79, r25_81, r25_84, r25_85, r25_88, r25_91, r25_93, r25_96, r25_99, r25_102, r25_103, r25_104, r25_107, r25_110, r25_111, gt_5_1, hsz, Int32.le_refl, or_true]
  | succ r ih =>
    intro j hj hk a4 a5
    have h1 : ¬ nI R ≤ nI j := nI_ge (by omega) (by omega)
    obtain ⟨g2, m2, q1, q2, q3, q4, hρ, q6, q7, q8, q9, q10, -⟩ := h.row (show j < R by omega)
    have hm2' : nn (M 19 j) = m2 := by rw [q4, nn_nI (by omega)]
    have ihh := fun (hno : ¬ inway M g1 m j) => ih (j + 1) (by omega) (fun k hk2 => by
      by_cases hkj : k = j
      · subst hkj; exact hno
      · exact hk k (by omega))
    rw [r25_36]
    by_cases he : g2 = g1
    · subst he
      by_cases hst : M 23 j = 0
      · simp (disch := first | decide | omega | assumption | (simp (disch := decide) only [u2_ne, u2_same, mQueue]; assumption)) only [kV_some, kI_some, kR_some, kR_any, kH_some, kC_none, kC_some, jv_rsv_ref, jv_rsv_rf, jv_nz_ref, jv_nz_null, jv_nz_rf0, jv_nz_rf1, jv_rq_r1, jv_rq_r0, n10, n11, n00, Nat.reduceEqDiff, Option.bind_some, Option.bind_none, jv_isr_ref, jv_isr_rf, jv_isr_null, va_rf_some, va_rf_none, jv_cat1_int, jv_cat1_ref, jv_cat1_rf, if_true, if_false, eq_self, Option.toList_some, Option.toList_none, List.cons_append, List.nil_append, Bool.and_self, Bool.and_true, i32_10, i32_01, i32_80, nI_div8, nI_mul4, nI_mul8, nI_mul32, nI_add, ↓reduceIte, u2_ne, u2_same, r25_0, r25_1, r25_4, r25_5, r25_6, r25_9, r25_12, r25_15, r25_18, r25_19, r25_22, r25_25, r25_26, r25_29, r25_32, r25_33, r25_34, r25_35, r25_37, r25_38, r25_41, r25_44, r25_45, r25_48, r25_49, r25_50, r25_52, r25_54, r25_57, r25_58, r25_61, r25_64, r25_66, r25_69, r25_72, r25_73, r25_76, r25_77, r25_79, r25_81, r25_84, r25_85, r25_88, r25_91, r25_93, r25_96, r25_99, r25_102, r25_103, r25_104, r25_107, r25_110, r25_111, gt_5_1, hsz, h1, gt_5_0, rl_6, q6, gt_rq_1, q7, b7, gt_rq_5, q10, hst, nI_1]
        exact ihh (fun z => z.2.1 hst) _ _
      · by_cases hr1 : M 3 (4 * (g2 / 8) + m) = 0
        · rw [if_neg (fun z => z j (by omega) ⟨q3, hst, Or.inl hr1⟩)]
          simp (disch := first | decide | omega | assumption | (simp (disch := decide) only [u2_ne, u2_same, mQueue]; assumption)) only [kV_some, kI_some, kR_some, kR_any, kH_some, kC_none, kC_some, jv_rsv_ref, jv_rsv_rf, jv_nz_ref, jv_nz_null, jv_nz_rf0, jv_nz_rf1, jv_rq_r1, jv_rq_r0, n10, n11, n00, Nat.reduceEqDiff, Option.bind_some, Option.bind_none, jv_isr_ref, jv_isr_rf, jv_isr_null, va_rf_some, va_rf_none, jv_cat1_int, jv_cat1_ref, jv_cat1_rf, if_true, if_false, eq_self, Option.toList_some, Option.toList_none, List.cons_append, List.nil_append, Bool.and_self, Bool.and_true, i32_10, i32_01, i32_80, nI_div8, nI_mul4, nI_mul8, nI_mul32, nI_add, ↓reduceIte, u2_ne, u2_same, r25_0, r25_1, r25_4, r25_5, r25_6, r25_9, r25_12, r25_15, r25_18, r25_19, r25_22, r25_25, r25_26, r25_29, r25_32, r25_33, r25_34, r25_35, r25_37, r25_38, r25_41, r25_44, r25_45, r25_48, r25_49, r25_50, r25_52, r25_54, r25_57, r25_58, r25_61, r25_64, r25_66, r25_69, r25_72, r25_73, r25_76, r25_77, r25_79, r25_81, r25_84, r25_85, r25_88, r25_91, r25_93, r25_96, r25_99, r25_102, r25_103, r25_104, r25_107, r25_110, r25_111, gt_5_1, hsz, h1, gt_5_0, rl_6, q6, gt_rq_1, q7, b7, gt_rq_5, q10, hst, gt_mt_5, e14, hr1, true_or]
        · by_cases hr2 : M 3 (4 * (g2 / 8) + m2) = 0
          · rw [if_neg (fun z => z j (by omega) ⟨q3, hst, Or.inr (by rw [hm2']; exact hr2)⟩)]
            simp (disch := first | decide | omega | assumption | (simp (disch := decide) only [u2_ne, u2_same, mQueue]; assumption)) only [kV_some, kI_some, kR_some, kR_any, kH_some, kC_none, kC_some, jv_rsv_ref, jv_rsv_rf, jv_nz_ref, jv_nz_null, jv_nz_rf0, jv_nz_rf1, jv_rq_r1, jv_rq_r0, n10, n11, n00, Nat.reduceEqDiff, Option.bind_some, Option.bind_none, jv_isr_ref, jv_isr_rf, jv_isr_null, va_rf_some, va_rf_none, jv_cat1_int, jv_cat1_ref, jv_cat1_rf, if_true, if_false, eq_self, Option.toList_some, Option.toList_none, List.cons_append, List.nil_append, Bool.and_self, Bool.and_true, i32_10, i32_01, i32_80, nI_div8, nI_mul4, nI_mul8, nI_mul32, nI_add, ↓reduceIte, u2_ne, u2_same, r25_0, r25_1, r25_4, r25_5, r25_6, r25_9, r25_12, r25_15, r25_18, r25_19, r25_22, r25_25, r25_26, r25_29, r25_32, r25_33, r25_34, r25_35, r25_37, r25_38, r25_41, r25_44, r25_45, r25_48, r25_49, r25_50, r25_52, r25_54, r25_57, r25_58, r25_61, r25_64, r25_66, r25_69, r25_72, r25_73, r25_76, r25_77, r25_79, r25_81, r25_84, r25_85, r25_88, r25_91, r25_93, r25_96, r25_99, r25_102, r25_103, r25_104, r25_107, r25_110, r25_111, gt_5_1, hsz, h1, gt_5_0, rl_6, q6, gt_rq_1, q7, b7, gt_rq_5, q10, hst, gt_mt_5, e14, hr1, gt_rq_3, q8, hr2, true_or]
          · simp (disch := first | decide | omega | assumption | (simp (disch := decide) only [u2_ne, u2_same, mQueue]; assumption)) only [kV_some, kI_some, kR_some, kR_any, kH_some, kC_none, kC_some, jv_rsv_ref, jv_rsv_rf, jv_nz_ref, jv_nz_null, jv_nz_rf0, jv_nz_rf1, jv_rq_r1, jv_rq_r0, n10, n11, n00, Nat.reduceEqDiff, Option.bind_some, Option.bind_none, jv_isr_ref, jv_isr_rf, jv_isr_null, va_rf_some, va_rf_none, jv_cat1_int, jv_cat1_ref, jv_cat1_rf, if_true, if_false, eq_self, Option.toList_some, Option.toList_none, List.cons_append, List.nil_append, Bool.and_self, Bool.and_true, i32_10, i32_01, i32_80, nI_div8, nI_mul4, nI_mul8, nI_mul32, nI_add, ↓reduceIte, u2_ne, u2_same, r25_0, r25_1, r25_4, r25_5, r25_6, r25_9, r25_12, r25_15, r25_18, r25_19, r25_22, r25_25, r25_26, r25_29, r25_32, r25_33, r25_34, r25_35, r25_37, r25_38, r25_41, r25_44, r25_45, r25_48, r25_49, r25_50, r25_52, r25_54, r25_57, r25_58, r25_61, r25_64, r25_66, r25_69, r25_72, r25_73, r25_76, r25_77, r25_79, r25_81, r25_84, r25_85, r25_88, r25_91, r25_93, r25_96, r25_99, r25_102, r25_103, r25_104, r25_107, r25_110, r25_111, gt_5_1, hsz, h1, gt_5_0, rl_6, q6, gt_rq_1, q7, b7, gt_rq_5, q10, hst, gt_mt_5, e14, hr1, gt_rq_3, q8, hr2, nI_1]
            exact ihh (fun z => by rcases z.2.2 with e | e; exact hr1 e; rw [hm2'] at e; exact hr2 e) _ _
    · have he' : ¬ 113 + g2 = 113 + g1 := by omega
      simp (disch := first | decide | omega | assumption | (simp (disch := decide) only [u2_ne, u2_same, mQueue]; assumption)) only [kV_some, kI_some, kR_some, kR_any, kH_some, kC_none, kC_some, jv_rsv_ref, jv_rsv_rf, jv_nz_ref, jv_nz_null, jv_nz_rf0, jv_nz_rf1, jv_rq_r1, jv_rq_r0, n10, n11, n00, Nat.reduceEqDiff, Option.bind_some, Option.bind_none, jv_isr_ref, jv_isr_rf, jv_isr_null, va_rf_some, va_rf_none, jv_cat1_int, jv_cat1_ref, jv_cat1_rf, if_true, if_false, eq_self, Option.toList_some, Option.toList_none, List.cons_append, List.nil_append, Bool.and_self, Bool.and_true, i32_10, i32_01, i32_80, nI_div8, nI_mul4, nI_mul8, nI_mul32, nI_add, ↓reduceIte, u2_ne, u2_same, r25_0, r25_1, r25_4, r25_5, r25_6, r25_9, r25_12, r25_15, r25_18, r25_19, r25_22, r25_25, r25_26, r25_29, r25_32, r25_33, r25_34, r25_35, r25_37, r25_38, r25_41, r25_44, r25_45, r25_48, r25_49, r25_50, r25_52, r25_54, r25_57, r25_58, r25_61, r25_64, r25_66, r25_69, r25_72, r25_73, r25_76, r25_77, r25_79, r25_81, r25_84, r25_85, r25_88, r25_91, r25_93, r25_96, r25_99, r25_102, r25_103, r25_104, r25_107, r25_110, r25_111, gt_5_1, hsz, h1, gt_5_0, rl_6, q6, gt_rq_1, q7, b7, he', not_false_eq_true, nI_1]
      exact ihh (fun z => he ((nI_eq (by omega) (by omega)).mp (q3.symm.trans z.1))) _ _
theorem c25 (h : RJ I P M ρ R W K O Q y x) {g i : Nat} (hi : i < R) (hg : M 18 i = nI g) (hg2 : g < 32) (hd : 1 ≤ d) : jv_F gw X d 25 [.ref 5, .ref (7 + ρ i)] (he I P N) = some (some (.int (@ite _ (mLookC M g R i) (Classical.propDecidable _) 1 0)), he I P N) := by
  obtain ⟨d, rfl⟩ : ∃ q, d = q + 1 := ⟨d - 1, by omega⟩
  rw [e25 rfl]
  obtain ⟨g1, m, b1, b2, b3, b4, hρi, b6, b7, b8, -, -, -, -, -, -, -, b47⟩ := h.row hi
  have eg : g1 = g := (nI_eq (by omega) (by omega)).mp (b3.symm.trans hg)
  subst eg
  have h8 : g1 / 8 < 4 := by omega
  have hmn : nn (M 19 i) = m := by rw [b4, nn_nI (by omega)]
  have e10 : I 10 = M 0 := h.1.s 10 (by decide)
  have e13 : I 13 = M 2 := h.1.s 13 (by decide)
  have hiff := lookC_iff (M := M) (R := R) (g := g1) (i := i) hmn
  by_cases k1 : M 0 (g1 / 8) = 0
  rotate_left
  · rw [if_pos (hiff.mpr (Or.inl k1))]
    simp (disch := first | decide | omega | assumption | (simp (disch := decide) only [u2_ne, u2_same, mQueue]; assumption)) only [kV_some, kI_some, kR_some, kR_any, kH_some, kC_none, kC_some, jv_rsv_ref, jv_rsv_rf, jv_nz_ref, jv_nz_null, jv_nz_rf0, jv_nz_rf1, jv_rq_r1, jv_rq_r0, n10, n11, n00, Nat.reduceEqDiff, Option.bind_some, Option.bind_none, jv_isr_ref, jv_isr_rf, jv_isr_null, va_rf_some, va_rf_none, jv_cat1_int, jv_cat1_ref, jv_cat1_rf, if_true, if_false, eq_self, Option.toList_some, Option.toList_none, List.cons_append, List.nil_append, Bool.and_self, Bool.and_true, i32_10, i32_01, i32_80, nI_div8, nI_mul4, nI_mul8, nI_mul32, nI_add, ↓reduceIte, u2_ne, u2_same, r25_0, r25_1, r25_4, r25_5, r25_6, r25_9, r25_12, r25_15, r25_18, r25_19, r25_22, r25_25, r25_26, r25_29, r25_32, r25_33, r25_34, r25_35, r25_37, r25_38, r25_41, r25_44, r25_45, r25_48, r25_49, r25_50, r25_52, r25_54, r25_57, r25_58, r25_61, r25_64, r25_66, r25_69, r25_72, r25_73, r25_76, r25_77, r25_79, r25_81, r25_84, r25_85, r25_88, r25_91, r25_93, r25_96, r25_99, r25_102, r25_103, r25_104, r25_107, r25_110, r25_111, gt_rq_3, b8, gt_rq_1, b7, gt_gr_1, gt_kd_1, e10, k1, or_true]
  by_cases k2 : M 2 (4 * (g1 / 8) + m) = 0
  rotate_left
  · rw [if_pos (hiff.mpr (Or.inr (Or.inl k2)))]
    simp (disch := first | decide | omega | assumption | (simp (disch := decide) only [u2_ne, u2_same, mQueue]; assumption)) only [kV_some, kI_some, kR_some, kR_any, kH_some, kC_none, kC_some, jv_rsv_ref, jv_rsv_rf, jv_nz_ref, jv_nz_null, jv_nz_rf0, jv_nz_rf1, jv_rq_r1, jv_rq_r0, n10, n11, n00, Nat.reduceEqDiff, Option.bind_some, Option.bind_none, jv_isr_ref, jv_isr_rf, jv_isr_null, va_rf_some, va_rf_none, jv_cat1_int, jv_cat1_ref, jv_cat1_rf, if_true, if_false, eq_self, Option.toList_some, Option.toList_none, List.cons_append, List.nil_append, Bool.and_self, Bool.and_true, i32_10, i32_01, i32_80, nI_div8, nI_mul4, nI_mul8, nI_mul32, nI_add, ↓reduceIte, u2_ne, u2_same, r25_0, r25_1, r25_4, r25_5, r25_6, r25_9, r25_12, r25_15, r25_18, r25_19, r25_22, r25_25, r25_26, r25_29, r25_32, r25_33, r25_34, r25_35, r25_37, r25_38, r25_41, r25_44, r25_45, r25_48, r25_49, r25_50, r25_52, r25_54, r25_57, r25_58, r25_61, r25_64, r25_66, r25_69, r25_72, r25_73, r25_76, r25_77, r25_79, r25_81, r25_84, r25_85, r25_88, r25_91, r25_93, r25_96, r25_99, r25_102, r25_103, r25_104, r25_107, r25_110, r25_111, gt_rq_3, b8, gt_rq_1, b7, gt_gr_1, gt_kd_1, e10, k1, gt_mt_4, e13, k2, or_true]
  by_cases k3 : cbk (M 27 i) (nI g1) = 0
  rotate_left
  · rw [if_pos (hiff.mpr (Or.inr (Or.inr (Or.inl (Classical.not_not.mp (fun z => k3 ((cbk_bit b1).mpr z)))))))]
    simp (disch := first | decide | omega | assumption | (simp (disch := decide) only [u2_ne, u2_same, mQueue]; assumption)) only [kV_some, kI_some, kR_some, kR_any, kH_some, kC_none, kC_some, jv_rsv_ref, jv_rsv_rf, jv_nz_ref, jv_nz_null, jv_nz_rf0, jv_nz_rf1, jv_rq_r1, jv_rq_r0, n10, n11, n00, Nat.reduceEqDiff, Option.bind_some, Option.bind_none, jv_isr_ref, jv_isr_rf, jv_isr_null, va_rf_some, va_rf_none, jv_cat1_int, jv_cat1_ref, jv_cat1_rf, if_true, if_false, eq_self, Option.toList_some, Option.toList_none, List.cons_append, List.nil_append, Bool.and_self, Bool.and_true, i32_10, i32_01, i32_80, nI_div8, nI_mul4, nI_mul8, nI_mul32, nI_add, ↓reduceIte, u2_ne, u2_same, r25_0, r25_1, r25_4, r25_5, r25_6, r25_9, r25_12, r25_15, r25_18, r25_19, r25_22, r25_25, r25_26, r25_29, r25_32, r25_33, r25_34, r25_35, r25_37, r25_38, r25_41, r25_44, r25_45, r25_48, r25_49, r25_50, r25_52, r25_54, r25_57, r25_58, r25_61, r25_64, r25_66, r25_69, r25_72, r25_73, r25_76, r25_77, r25_79, r25_81, r25_84, r25_85, r25_88, r25_91, r25_93, r25_96, r25_99, r25_102, r25_103, r25_104, r25_107, r25_110, r25_111, gt_rq_3, b8, gt_rq_1, b7, gt_gr_1, gt_kd_1, e10, k1, gt_mt_4, e13, k2, gt_rq_9, b47, k3, or_true]
  have k4 := (cbk_bit b1).mp k3
  have hl := c25l (X := X) (d := d) (N := N) h hi hg hg2 b4 b2 R 0 (by omega) (fun k hk => by omega) none none
  have e : (@ite _ (mLookC M g1 R i) (Classical.propDecidable _) (1 : Int32) 0) = @ite _ (∀ k, k < R → ¬ inway M g1 m k) (Classical.propDecidable _) 1 0 := by
    by_cases hz : ∀ k, k < R → ¬ inway M g1 m k
    · rw [if_pos hz, if_pos (hiff.mpr (Or.inr (Or.inr (Or.inr hz))))]
    · rw [if_neg hz, if_neg (fun z => by rcases hiff.mp z with q | q | q | q <;> first | exact q k1 | exact q k2 | exact k4 q | exact hz q)]
  rw [e]
  simp (disch := first | decide | omega | assumption | (simp (disch := decide) only [u2_ne, u2_same, mQueue]; assumption)) only [kV_some, kI_some, kR_some, kR_any, kH_some, kC_none, kC_some, jv_rsv_ref, jv_rsv_rf, jv_nz_ref, jv_nz_null, jv_nz_rf0, jv_nz_rf1, jv_rq_r1, jv_rq_r0, n10, n11, n00, Nat.reduceEqDiff, Option.bind_some, Option.bind_none, jv_isr_ref, jv_isr_rf, jv_isr_null, va_rf_some, va_rf_none, jv_cat1_int, jv_cat1_ref, jv_cat1_rf, if_true, if_false, eq_self, Option.toList_some, Option.toList_none, List.cons_append, List.nil_append, Bool.and_self, Bool.and_true, i32_10, i32_01, i32_80, nI_div8, nI_mul4, nI_mul8, nI_mul32, nI_add, ↓reduceIte, u2_ne, u2_same, r25_0, r25_1, r25_4, r25_5, r25_6, r25_9, r25_12, r25_15, r25_18, r25_19, r25_22, r25_25, r25_26, r25_29, r25_32, r25_33, r25_34, r25_35, r25_37, r25_38, r25_41, r25_44, r25_45, r25_48, r25_49, r25_50, r25_52, r25_54, r25_57, r25_58, r25_61, r25_64, r25_66, r25_69, r25_72, r25_73, r25_76, r25_77, r25_79, r25_81, r25_84, r25_85, r25_88, r25_91, r25_93, r25_96, r25_99, r25_102, r25_103, r25_104, r25_107, r25_110, r25_111, gt_rq_3, b8, gt_rq_1, b7, gt_gr_1, gt_kd_1, e10, k1, gt_mt_4, e13, k2, gt_rq_9, b47, k3]
  exact hl
end CL
