/-! ===== the class: run ===== -/
section CL
variable {X : Nat × (Nat → Int32)} {d : Nat} {I : Nat → Nat → Int32} {P : Nat → Nat → Option Nat} {M N : Nat → Nat → Int32} {ρ : Nat → Nat} {R W K O Q : Nat} {y x : Int32}
def gF (b : Nat) : Bool := [9, 10, 11, 14, 15, 16, 22].contains b
theorem gF_ne {f q : Nat} (h : gF f = false) (hq : gF q = true) : q ≠ f := fun z => by rw [← z, hq] at h; exact absurd h (by decide)
theorem RJ.both (h : RJ I P M ρ R W K O Q y x) {a b k : Nat} {v : Int32} (hb : cl a = b) (h9 : b ≠ 99) (hb2 : b < 17 ∨ 31 < b) (ha : a < 40 ∨ 54 < a) (h37 : b ≠ 37) (hk : kF b = false) (hg : gF b = false) : RJ (u2 I a k v) P (u2 M b k v) ρ R W K O Q y x := by
  refine ⟨h.1.both hb h9 hb2 ha h37, h.2.upd (fun f hf => u2_ne (kF_ne hf hk)) (fun i _ => Or.inl (by rw [u2_ne (gF_ne hg rfl)])) ?_⟩
  rw [u2_ne (gF_ne hg (q := 9) rfl), u2_ne (gF_ne hg (q := 10) rfl), u2_ne (gF_ne hg (q := 11) rfl), u2_ne (gF_ne hg (q := 15) rfl), u2_ne (gF_ne hg (q := 14) rfl), u2_ne (gF_ne hg (q := 16) rfl)]
  exact h.2.g
theorem c28l {n : Nat} (hn : n ≤ 40) (hd : 7 ≤ d) : ∀ (r : Nat) (M I : Nat → Nat → Int32) (P : Nat → Nat → Option Nat) (ρ : Nat → Nat) (R W Q done : Nat), RJ I P M ρ R W (R + 32) O Q (-1) (-1) → Q + 9 * r < 2 ^ 30 → done + r = n → ∃ I' P' ρ' R' W', (∀ a3, jl gw X d 28 14 [some (.ref 1), some (.int (nI n)), some (.int (nI done)), a3] [] (he I P N) = some (some (.int (nI (done + mRunN r M))), he I' P' N)) ∧ RJ I' P' (u2 (mRunL r M) 40 0 (mRunL r M 40 0 + nI (done + mRunN r M))) ρ' R' W' (R' + 32) O (Q + 9 * r) (-1) (-1) := by
  intro r
  induction r with
  | zero =>
    intro M I P ρ R W Q done h hQ hr
    have : done = n := by omega
    subst this
    have e6 : I 6 = M 40 := h.1.s 6 (by decide)
    refine ⟨_, P, ρ, R, W, fun a3 => ?_, h.both (a := 6) (b := 40) rfl (by decide) (by omega) (by omega) (by decide) rfl rfl⟩
    rw [r28_14]
    simp (disch := first | decide | omega | assumption | (simp (disch := decide) only [u2_ne, u2_same, mQueue]; assumption)) only [kV_some, kI_some, kR_some, kR_any, kH_some, kC_none, kC_some, jv_rsv_ref, jv_rsv_rf, jv_nz_ref, jv_nz_null, jv_nz_rf0, jv_nz_rf1, jv_rq_r1, jv_rq_r0, n10, n11, n00, Nat.reduceEqDiff, Option.bind_some, Option.bind_none, jv_isr_ref, jv_isr_rf, jv_isr_null, va_rf_some, va_rf_none, jv_cat1_int, jv_cat1_ref, jv_cat1_rf, if_true, if_false, eq_self, Option.toList_some, Option.toList_none, List.cons_append, List.nil_append, Bool.and_self, Bool.and_true, i32_10, i32_01, i32_80, nI_div8, nI_mul4, nI_mul8, nI_mul32, nI_add, ↓reduceIte, u2_ne, u2_same, r28_0, r28_1, r28_2, r28_4, r28_7, r28_10, r28_11, r28_12, r28_13, r28_15, r28_16, r28_19, r28_20, r28_23, r28_26, r28_29, r28_30, r28_33, r28_36, r28_37, r28_38, r28_40, r28_43, r28_44, r28_45, r28_48, r28_50, r28_51, r28_52, r28_53, r28_56, r28_59, r28_60, r28_61, r28_64, r28_65, r28_68, r28_71, r28_74, r28_77, r28_78, r28_79, r28_82, r28_83, r28_84, r28_87, r28_88, Int32.le_refl, gt_1_12, pt_1_12, mRunL, mRunN, Nat.add_zero, e6]
  | succ r ih =>
    intro M I P ρ R W Q done h hQ hr
    have h1 : ¬ nI n ≤ nI done := nI_ge (by omega) (by omega)
    have h31 := h.2.hW
    have i53 : I 53 = M 31 := h.1.s 53 (by decide)
    by_cases hW : W = 0
    · subst hW
      have h0 : M 31 0 = 0 := h31
      have e6 : I 6 = M 40 := h.1.s 6 (by decide)
      have e1 : mRunL (r + 1) M = M := by rw [mRunL, if_pos h0]
      have e2 : done + mRunN (r + 1) M = done := by rw [mRunN, if_pos h0, Nat.add_zero]
      rw [e1, e2]
      refine ⟨_, P, ρ, R, 0, fun a3 => ?_, (h.both (a := 6) (b := 40) rfl (by decide) (by omega) (by omega) (by decide) rfl rfl).mono (by omega) hQ⟩
      rw [r28_14]
      simp (disch := first | decide | omega | assumption | (simp (disch := decide) only [u2_ne, u2_same, mQueue]; assumption)) only [kV_some, kI_some, kR_some, kR_any, kH_some, kC_none, kC_some, jv_rsv_ref, jv_rsv_rf, jv_nz_ref, jv_nz_null, jv_nz_rf0, jv_nz_rf1, jv_rq_r1, jv_rq_r0, n10, n11, n00, Nat.reduceEqDiff, Option.bind_some, Option.bind_none, jv_isr_ref, jv_isr_rf, jv_isr_null, va_rf_some, va_rf_none, jv_cat1_int, jv_cat1_ref, jv_cat1_rf, if_true, if_false, eq_self, Option.toList_some, Option.toList_none, List.cons_append, List.nil_append, Bool.and_self, Bool.and_true, i32_10, i32_01, i32_80, nI_div8, nI_mul4, nI_mul8, nI_mul32, nI_add, ↓reduceIte, u2_ne, u2_same, r28_0, r28_1, r28_2, r28_4, r28_7, r28_10, r28_11, r28_12, r28_13, r28_15, r28_16, r28_19, r28_20, r28_23, r28_26, r28_29, r28_30, r28_33, r28_36, r28_37, r28_38, r28_40, r28_43, r28_44, r28_45, r28_48, r28_50, r28_51, r28_52, r28_53, r28_56, r28_59, r28_60, r28_61, r28_64, r28_65, r28_68, r28_71, r28_74, r28_77, r28_78, r28_79, r28_82, r28_83, r28_84, r28_87, r28_88, h1, gt_1_4, gt_37_2, i53, h0, i32_le0, gt_1_12, pt_1_12, e6]
    · obtain ⟨V, rfl⟩ : ∃ q, W = q + 1 := ⟨W - 1, by omega⟩
      have hV := h.2.ok.W
      have h0 : ¬ nI (V + 1) ≤ 0 := nI_ge (b := V + 1) (a := 0) (by omega) (by omega)
      have h0' : ¬ M 31 0 = 0 := by rw [h31]; exact nI_ne0 (by omega) (by omega)
      obtain ⟨I1, P1, ρ1, R1, W1, k1, k2⟩ := c28o (X := X) (d := d) (N := N) h (by omega) hd
      obtain ⟨I', P', ρ', R', W', t1, t2⟩ := ih (mOneT M) I1 P1 ρ1 R1 W1 (Q + 9) (done + 1) k2 (by omega) (by omega)
      have e1 : mRunL (r + 1) M = mRunL r (mOneT M) := by rw [mRunL, if_neg h0']
      have e2 : done + mRunN (r + 1) M = done + 1 + mRunN r (mOneT M) := by rw [mRunN, if_neg h0']; omega
      rw [e1, e2]
      refine ⟨I', P', ρ', R', W', fun a3 => ?_, by rw [show Q + 9 * (r + 1) = Q + 9 + 9 * r by omega]; exact t2⟩
      rw [← t1 (some (.int (M 30 0))), ← k1 (some (.int (nI n))) done a3]
      conv => lhs; rw [r28_14]
      simp (disch := first | decide | omega | assumption | (simp (disch := decide) only [u2_ne, u2_same, mQueue]; assumption)) only [kV_some, kI_some, kR_some, kR_any, kH_some, kC_none, kC_some, jv_rsv_ref, jv_rsv_rf, jv_nz_ref, jv_nz_null, jv_nz_rf0, jv_nz_rf1, jv_rq_r1, jv_rq_r0, n10, n11, n00, Nat.reduceEqDiff, Option.bind_some, Option.bind_none, jv_isr_ref, jv_isr_rf, jv_isr_null, va_rf_some, va_rf_none, jv_cat1_int, jv_cat1_ref, jv_cat1_rf, if_true, if_false, eq_self, Option.toList_some, Option.toList_none, List.cons_append, List.nil_append, Bool.and_self, Bool.and_true, i32_10, i32_01, i32_80, nI_div8, nI_mul4, nI_mul8, nI_mul32, nI_add, ↓reduceIte, u2_ne, u2_same, r28_0, r28_1, r28_2, r28_4, r28_7, r28_10, r28_11, r28_12, r28_13, r28_15, r28_16, r28_19, r28_20, r28_23, r28_26, r28_30, r28_33, r28_36, r28_37, r28_38, r28_40, r28_43, r28_44, r28_45, r28_48, r28_50, r28_51, r28_52, r28_53, r28_56, r28_59, r28_60, r28_61, r28_64, r28_65, r28_68, r28_71, r28_74, r28_77, r28_78, r28_79, r28_82, r28_83, r28_84, r28_87, r28_88, h1, gt_1_4, gt_37_2, i53, h31, h0]
theorem c28 {n : Nat} (h : RJ I P M ρ R W (R + 32) O Q (-1) (-1)) (hn : 0 < n ∧ n ≤ 40) (hQ : Q + 360 < 2 ^ 30) (hd : 8 ≤ d) : ∃ I' P' ρ' R' W', jv_F gw X d 28 [.ref 1, .int (nI n)] (he I P N) = some (some (.int (nI (mRunN n M))), he I' P' N) ∧ RJ I' P' (mRun M n) ρ' R' W' (R' + 32) O (Q + 360) (-1) (-1) := by
  obtain ⟨d, rfl⟩ : ∃ q, d = q + 1 := ⟨d - 1, by omega⟩
  obtain ⟨I', P', ρ', R', W', t1, t2⟩ := c28l (X := X) (d := d) (N := N) (n := n) (by omega) (by omega) n M I P ρ R W Q 0 h (by omega) (by omega)
  rw [Nat.zero_add] at t1 t2
  refine ⟨I', P', ρ', R', W', ?_, t2.mono (by omega) hQ⟩
  obtain ⟨d, rfl⟩ : ∃ q, d = q + 1 := ⟨d - 1, by omega⟩
  have h1 : (1 : Int32) ≤ nI n := nI_le (a := 1) (by omega) (by omega)
  have h2 : nI n ≤ (40 : Int32) := nI_le (b := 40) (by omega) (by omega)
  rw [e28]
  simp (disch := first | decide | omega | assumption | (simp (disch := decide) only [u2_ne, u2_same, mQueue]; assumption)) only [kV_some, kI_some, kR_some, kR_any, kH_some, kC_none, kC_some, jv_rsv_ref, jv_rsv_rf, jv_nz_ref, jv_nz_null, jv_nz_rf0, jv_nz_rf1, jv_rq_r1, jv_rq_r0, n10, n11, n00, Nat.reduceEqDiff, Option.bind_some, Option.bind_none, jv_isr_ref, jv_isr_rf, jv_isr_null, va_rf_some, va_rf_none, jv_cat1_int, jv_cat1_ref, jv_cat1_rf, if_true, if_false, eq_self, Option.toList_some, Option.toList_none, List.cons_append, List.nil_append, Bool.and_self, Bool.and_true, i32_10, i32_01, i32_80, nI_div8, nI_mul4, nI_mul8, nI_mul32, nI_add, ↓reduceIte, u2_ne, u2_same, r28_0, r28_1, r28_2, r28_4, r28_7, r28_10, r28_11, r28_12, r28_13, r28_15, r28_16, r28_19, r28_20, r28_23, r28_26, r28_29, r28_30, r28_33, r28_36, r28_37, r28_38, r28_40, r28_43, r28_44, r28_45, r28_48, r28_50, r28_51, r28_52, r28_53, r28_56, r28_59, r28_60, r28_61, r28_64, r28_65, r28_68, r28_71, r28_74, r28_77, r28_78, r28_79, r28_82, r28_83, r28_84, r28_87, r28_88, s9, h1, h2, and_self]
  exact t1 none
theorem in1 {n : Int32} {k : Nat} (hk : k < 2 ^ 30) : (1 ≤ n ∧ n ≤ nI k) ↔ (0 ≤ n - 1 ∧ n - 1 < nI k) := by
  constructor
  · intro ⟨a, b⟩
    obtain ⟨j, hj, rfl⟩ := nI_of (Int32.not_lt.mpr (Int32.le_trans (show (0 : Int32) ≤ 1 by decide) a))
    cases j with
    | zero => exact absurd a (by decide)
    | succ j =>
      rw [nI_pred]
      have : ¬ k < j + 1 := fun z => absurd b (nI_ge z hj)
      exact ⟨nI_pos' (by omega), nI_lt (by omega) (by omega)⟩
  · intro ⟨a, b⟩
    obtain ⟨j, hj, e⟩ := inN (n := k) (by omega) ⟨a, b⟩
    have e2 : n = nI (j + 1) := by rw [← nI_1, ← e]; exact (Int32.sub_add_cancel _ _).symm
    rw [e2]
    exact ⟨nI_le (a := 1) (by omega) (by omega), nI_le (by omega) (by omega)⟩
theorem c28x {n : Int32} (h : ¬ (0 ≤ n - 1 ∧ n - 1 < 40)) (hd : 2 ≤ d) : jv_F gw X d 28 [.ref 1, .int n] (he I P N) = some (some (.int (-1)), he I P N) := by
  obtain ⟨d, rfl⟩ : ∃ q, d = q + 2 := ⟨d - 2, by omega⟩
  have h1 : ¬ (1 ≤ n ∧ n ≤ 40) := fun z => h ((in1 (k := 40) (by decide)).mp z)
  rw [e28]
  simp (disch := first | decide | omega | assumption | (simp (disch := decide) only [u2_ne, u2_same, mQueue]; assumption)) only [kV_some, kI_some, kR_some, kR_any, kH_some, kC_none, kC_some, jv_rsv_ref, jv_rsv_rf, jv_nz_ref, jv_nz_null, jv_nz_rf0, jv_nz_rf1, jv_rq_r1, jv_rq_r0, n10, n11, n00, Nat.reduceEqDiff, Option.bind_some, Option.bind_none, jv_isr_ref, jv_isr_rf, jv_isr_null, va_rf_some, va_rf_none, jv_cat1_int, jv_cat1_ref, jv_cat1_rf, if_true, if_false, eq_self, Option.toList_some, Option.toList_none, List.cons_append, List.nil_append, Bool.and_self, Bool.and_true, i32_10, i32_01, i32_80, nI_div8, nI_mul4, nI_mul8, nI_mul32, nI_add, ↓reduceIte, u2_ne, u2_same, r28_0, r28_1, r28_2, r28_4, r28_7, r28_10, r28_11, r28_12, r28_13, r28_15, r28_16, r28_19, r28_20, r28_23, r28_26, r28_29, r28_30, r28_33, r28_36, r28_37, r28_38, r28_40, r28_43, r28_44, r28_45, r28_48, r28_50, r28_51, r28_52, r28_53, r28_56, r28_59, r28_60, r28_61, r28_64, r28_65, r28_68, r28_71, r28_74, r28_77, r28_78, r28_79, r28_82, r28_83, r28_84, r28_87, r28_88, s9, h1]
end CL
