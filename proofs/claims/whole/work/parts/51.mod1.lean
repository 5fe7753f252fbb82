/-! ===== THE REFERENCE as functions on its numbers M (fields by their order) ===== -/
def nn (x : Int32) : Nat := x.toNatClampNeg
theorem nn_nI {n : Nat} (h : n < 2 ^ 31) : nn (nI n) = n := nI_clamp h
theorem s78 {X : Nat × (Nat → Int32)} {d : Nat} {h : jv_H} {x t : Int32} : jv_F gw X (d + 1) 78 [.int x, .int t] h = some (some (.int (if 0 ≤ x ∧ x < t then 1 else 0)), h) := by
  rw [e78]
  by_cases h1 : x < 0
  · have h1' : ¬ 0 ≤ x := Int32.not_le.mpr h1
    simp only [r78_0, r78_1, r78_4, r78_5, r78_6, r78_9, r78_10, r78_13, r78_14, kV_some, kI_some, kR_some, kR_any, kH_some, kC_none, kC_some, jv_rsv_ref, jv_rsv_rf, jv_nz_ref, jv_nz_null, jv_nz_rf0, jv_nz_rf1, jv_rq_r1, jv_rq_r0, n10, n11, n00, Option.bind_some, Option.bind_none, jv_isr_ref, jv_isr_rf, jv_isr_null, va_rf_some, va_rf_none, jv_cat1_int, jv_cat1_ref, jv_cat1_rf, if_true, if_false, eq_self, Option.toList_some, Option.toList_none, List.cons_append, List.nil_append, Bool.and_self, Bool.and_true, i32_10, i32_01, i32_80, nI_div8, nI_mul4, nI_mul8, nI_mul32, nI_add, ↓reduceIte, h1, h1', false_and]
    rfl
  · have h1' : 0 ≤ x := Int32.not_lt.mp h1
    by_cases h2 : t ≤ x
    · have h2' : ¬ x < t := Int32.not_lt.mpr h2
      simp only [r78_0, r78_1, r78_4, r78_5, r78_6, r78_9, r78_10, r78_13, r78_14, kV_some, kI_some, kR_some, kR_any, kH_some, kC_none, kC_some, jv_rsv_ref, jv_rsv_rf, jv_nz_ref, jv_nz_null, jv_nz_rf0, jv_nz_rf1, jv_rq_r1, jv_rq_r0, n10, n11, n00, Option.bind_some, Option.bind_none, jv_isr_ref, jv_isr_rf, jv_isr_null, va_rf_some, va_rf_none, jv_cat1_int, jv_cat1_ref, jv_cat1_rf, if_true, if_false, eq_self, Option.toList_some, Option.toList_none, List.cons_append, List.nil_append, Bool.and_self, Bool.and_true, i32_10, i32_01, i32_80, nI_div8, nI_mul4, nI_mul8, nI_mul32, nI_add, ↓reduceIte, h1, h1', h2, h2', and_false]
      rfl
    · have h2' : x < t := Int32.not_le.mp h2
      simp only [r78_0, r78_1, r78_4, r78_5, r78_6, r78_9, r78_10, r78_13, r78_14, kV_some, kI_some, kR_some, kR_any, kH_some, kC_none, kC_some, jv_rsv_ref, jv_rsv_rf, jv_nz_ref, jv_nz_null, jv_nz_rf0, jv_nz_rf1, jv_rq_r1, jv_rq_r0, n10, n11, n00, Option.bind_some, Option.bind_none, jv_isr_ref, jv_isr_rf, jv_isr_null, va_rf_some, va_rf_none, jv_cat1_int, jv_cat1_ref, jv_cat1_rf, if_true, if_false, eq_self, Option.toList_some, Option.toList_none, List.cons_append, List.nil_append, Bool.and_self, Bool.and_true, i32_10, i32_01, i32_80, nI_div8, nI_mul4, nI_mul8, nI_mul32, nI_add, ↓reduceIte, h1, h1', h2, h2', and_self]
      rfl
/-- works(): does the store work; it counts what fails -/
def mWorks (M : Nat → Nat → Int32) : Int32 := if M 42 0 = 0 then 1 else 0
def mWorked (M : Nat → Nat → Int32) : Nat → Nat → Int32 := if M 42 0 = 0 then M else u2 M 42 0 (M 42 0 - 1)
theorem s85 {X : Nat × (Nat → Int32)} {d : Nat} {I : Nat → Nat → Int32} {P : Nat → Nat → Option Nat} {M : Nat → Nat → Int32} : jv_F gw X (d + 1) 85 [.ref 157] (he I P M) = some (some (.int (mWorks M)), he I P (mWorked M)) := by
  rw [e85]
  unfold mWorks mWorked
  by_cases h1 : M 42 0 = 0
  · simp only [r85_0, r85_1, r85_4, r85_7, r85_8, r85_9, r85_10, r85_11, r85_14, r85_15, r85_16, r85_19, r85_20, kV_some, kI_some, kR_some, kR_any, kH_some, kC_none, kC_some, jv_rsv_ref, jv_rsv_rf, jv_nz_ref, jv_nz_null, jv_nz_rf0, jv_nz_rf1, jv_rq_r1, jv_rq_r0, n10, n11, n00, Option.bind_some, Option.bind_none, jv_isr_ref, jv_isr_rf, jv_isr_null, va_rf_some, va_rf_none, jv_cat1_int, jv_cat1_ref, jv_cat1_rf, if_true, if_false, eq_self, Option.toList_some, Option.toList_none, List.cons_append, List.nil_append, Bool.and_self, Bool.and_true, i32_10, i32_01, i32_80, nI_div8, nI_mul4, nI_mul8, nI_mul32, nI_add, ↓reduceIte, gt_157_42, pt_157_42, h1]
    rfl
  · simp only [r85_0, r85_1, r85_4, r85_7, r85_8, r85_9, r85_10, r85_11, r85_14, r85_15, r85_16, r85_19, r85_20, kV_some, kI_some, kR_some, kR_any, kH_some, kC_none, kC_some, jv_rsv_ref, jv_rsv_rf, jv_nz_ref, jv_nz_null, jv_nz_rf0, jv_nz_rf1, jv_rq_r1, jv_rq_r0, n10, n11, n00, Option.bind_some, Option.bind_none, jv_isr_ref, jv_isr_rf, jv_isr_null, va_rf_some, va_rf_none, jv_cat1_int, jv_cat1_ref, jv_cat1_rf, if_true, if_false, eq_self, Option.toList_some, Option.toList_none, List.cons_append, List.nil_append, Bool.and_self, Bool.and_true, i32_10, i32_01, i32_80, nI_div8, nI_mul4, nI_mul8, nI_mul32, nI_add, ↓reduceIte, gt_157_42, pt_157_42, h1]
    rfl
/-- find(n) -/
def mFind (M : Nat → Nat → Int32) (n : Int32) : Nat → Nat → Int32
  | 0, _ => -1
  | r + 1, i => if M 17 i = n then nI i else mFind M n r (i + 1)
theorem s94l {X : Nat × (Nat → Int32)} {d : Nat} {I : Nat → Nat → Int32} {P : Nat → Nat → Option Nat} {M : Nat → Nat → Int32} {n : Int32} {R : Nat} (hR : M 28 0 = nI R) (h30 : R ≤ 30) : ∀ (r i : Nat), i + r = R → jl gw X d 94 2 [some (.ref 157), some (.int n), some (.int (nI i))] [] (he I P M) = some (some (.int (mFind M n r i)), he I P M) := by
  intro r
  induction r with
  | zero =>
    intro i hi
    have hi : i = R := by omega
    subst hi
    rw [r94_2]
    simp only [r94_0, r94_1, r94_3, r94_4, r94_7, r94_10, r94_11, r94_14, r94_15, r94_16, r94_17, r94_20, r94_21, r94_22, r94_25, r94_28, r94_29, kV_some, kI_some, kR_some, kR_any, kH_some, kC_none, kC_some, jv_rsv_ref, jv_rsv_rf, jv_nz_ref, jv_nz_null, jv_nz_rf0, jv_nz_rf1, jv_rq_r1, jv_rq_r0, n10, n11, n00, Option.bind_some, Option.bind_none, jv_isr_ref, jv_isr_rf, jv_isr_null, va_rf_some, va_rf_none, jv_cat1_int, jv_cat1_ref, jv_cat1_rf, if_true, if_false, eq_self, Option.toList_some, Option.toList_none, List.cons_append, List.nil_append, Bool.and_self, Bool.and_true, i32_10, i32_01, i32_80, nI_div8, nI_mul4, nI_mul8, nI_mul32, nI_add, ↓reduceIte, gt_157_28, hR, Int32.le_refl, mFind]
  | succ r ih =>
    intro i hi
    have h1 : ¬ nI R ≤ nI i := nI_ge (by omega) (by omega)
    have h3 : i < 30 := by omega
    rw [r94_2]
    simp only [r94_0, r94_1, r94_3, r94_4, r94_7, r94_10, r94_11, r94_14, r94_15, r94_16, r94_17, r94_20, r94_21, r94_22, r94_25, r94_28, r94_29, kV_some, kI_some, kR_some, kR_any, kH_some, kC_none, kC_some, jv_rsv_ref, jv_rsv_rf, jv_nz_ref, jv_nz_null, jv_nz_rf0, jv_nz_rf1, jv_rq_r1, jv_rq_r0, n10, n11, n00, Option.bind_some, Option.bind_none, jv_isr_ref, jv_isr_rf, jv_isr_null, va_rf_some, va_rf_none, jv_cat1_int, jv_cat1_ref, jv_cat1_rf, if_true, if_false, eq_self, Option.toList_some, Option.toList_none, List.cons_append, List.nil_append, Bool.and_self, Bool.and_true, i32_10, i32_01, i32_80, nI_div8, nI_mul4, nI_mul8, nI_mul32, nI_add, ↓reduceIte, gt_157_28, gt_157_17, hR, h1, rd_175 h3, mFind]
    by_cases h2 : M 17 i = n
    · simp only [h2, kV_some, kI_some, kR_some, kR_any, kH_some, kC_none, kC_some, jv_rsv_ref, jv_rsv_rf, jv_nz_ref, jv_nz_null, jv_nz_rf0, jv_nz_rf1, jv_rq_r1, jv_rq_r0, n10, n11, n00, Option.bind_some, Option.bind_none, jv_isr_ref, jv_isr_rf, jv_isr_null, va_rf_some, va_rf_none, jv_cat1_int, jv_cat1_ref, jv_cat1_rf, if_true, if_false, eq_self, Option.toList_some, Option.toList_none, List.cons_append, List.nil_append, Bool.and_self, Bool.and_true, i32_10, i32_01, i32_80, nI_div8, nI_mul4, nI_mul8, nI_mul32, nI_add, ↓reduceIte]
    · simp only [h2, kV_some, kI_some, kR_some, kR_any, kH_some, kC_none, kC_some, jv_rsv_ref, jv_rsv_rf, jv_nz_ref, jv_nz_null, jv_nz_rf0, jv_nz_rf1, jv_rq_r1, jv_rq_r0, n10, n11, n00, Option.bind_some, Option.bind_none, jv_isr_ref, jv_isr_rf, jv_isr_null, va_rf_some, va_rf_none, jv_cat1_int, jv_cat1_ref, jv_cat1_rf, if_true, if_false, eq_self, Option.toList_some, Option.toList_none, List.cons_append, List.nil_append, Bool.and_self, Bool.and_true, i32_10, i32_01, i32_80, nI_div8, nI_mul4, nI_mul8, nI_mul32, nI_add, ↓reduceIte, nI_1]
      exact ih (i + 1) (by omega)
theorem s94 {X : Nat × (Nat → Int32)} {d : Nat} {I : Nat → Nat → Int32} {P : Nat → Nat → Option Nat} {M : Nat → Nat → Int32} {n : Int32} {R : Nat} (hR : M 28 0 = nI R) (h30 : R ≤ 30) : jv_F gw X (d + 1) 94 [.ref 157, .int n] (he I P M) = some (some (.int (mFind M n R 0)), he I P M) := by
  rw [e94]
  simp only [r94_0, r94_1, r94_3, r94_4, r94_7, r94_10, r94_11, r94_14, r94_15, r94_16, r94_17, r94_20, r94_21, r94_22, r94_25, r94_28, r94_29, kV_some, kI_some, kR_some, kR_any, kH_some, kC_none, kC_some, jv_rsv_ref, jv_rsv_rf, jv_nz_ref, jv_nz_null, jv_nz_rf0, jv_nz_rf1, jv_rq_r1, jv_rq_r0, n10, n11, n00, Option.bind_some, Option.bind_none, jv_isr_ref, jv_isr_rf, jv_isr_null, va_rf_some, va_rf_none, jv_cat1_int, jv_cat1_ref, jv_cat1_rf, if_true, if_false, eq_self, Option.toList_some, Option.toList_none, List.cons_append, List.nil_append, Bool.and_self, Bool.and_true, i32_10, i32_01, i32_80, nI_div8, nI_mul4, nI_mul8, nI_mul32, nI_add, ↓reduceIte]
  exact s94l hR h30 R 0 (by omega)
/-- queue(what) -/
def mQueue (M : Nat → Nat → Int32) (x : Int32) : Nat → Nat → Int32 := u2 (u2 M 30 (nn (M 31 0)) x) 31 0 (M 31 0 + 1)
theorem s90 {X : Nat × (Nat → Int32)} {d : Nat} {I : Nat → Nat → Int32} {P : Nat → Nat → Option Nat} {M : Nat → Nat → Int32} {x : Int32} {W : Nat} (hW : M 31 0 = nI W) (h64 : W < 64) : jv_F gw X (d + 1) 90 [.ref 157, .int x] (he I P M) = some (none, he I P (mQueue M x)) := by
  rw [e90]
  simp (disch := first | decide | omega | assumption | (simp (disch := decide) only [u2_ne, u2_same, mQueue]; assumption)) only [kV_some, kI_some, kR_some, kR_any, kH_some, kC_none, kC_some, jv_rsv_ref, jv_rsv_rf, jv_nz_ref, jv_nz_null, jv_nz_rf0, jv_nz_rf1, jv_rq_r1, jv_rq_r0, n10, n11, n00, Option.bind_some, Option.bind_none, jv_isr_ref, jv_isr_rf, jv_isr_null, va_rf_some, va_rf_none, jv_cat1_int, jv_cat1_ref, jv_cat1_rf, if_true, if_false, eq_self, Option.toList_some, Option.toList_none, List.cons_append, List.nil_append, Bool.and_self, Bool.and_true, i32_10, i32_01, i32_80, nI_div8, nI_mul4, nI_mul8, nI_mul32, nI_add, ↓reduceIte, u2_ne, u2_same, r90_0, r90_1, r90_4, r90_5, r90_8, r90_9, r90_10, r90_11, r90_12, r90_15, r90_16, r90_17, r90_20, gt_157_30, gt_157_31, hW, wr_186 h64, pt_157_31]
  rw [mQueue, hW, nn_nI (by omega)]
/-- many(g, what) -/
def mP (M : Nat → Nat → Int32) (g w : Int32) (i : Nat) : Prop := M 18 i = g ∧ (M 23 i = 0 ↔ w = 0)
noncomputable def mMany (M : Nat → Nat → Int32) (g w : Int32) : Nat → Nat → Nat
  | 0, _ => 0
  | r + 1, i => (@ite _ (mP M g w i) (Classical.propDecidable _) 1 0) + mMany M g w r (i + 1)
theorem mMany_t {M : Nat → Nat → Int32} {g w : Int32} {r i : Nat} (h : mP M g w i) : mMany M g w (r + 1) i = 1 + mMany M g w r (i + 1) := by rw [mMany, if_pos h]
theorem mMany_f {M : Nat → Nat → Int32} {g w : Int32} {r i : Nat} (h : ¬ mP M g w i) : mMany M g w (r + 1) i = mMany M g w r (i + 1) := by rw [mMany, if_neg h, Nat.zero_add]
theorem s88l {X : Nat × (Nat → Int32)} {d : Nat} {I : Nat → Nat → Int32} {P : Nat → Nat → Option Nat} {M : Nat → Nat → Int32} {g w : Int32} {R : Nat} (hR : M 28 0 = nI R) (h30 : R ≤ 30) : ∀ (r i n : Nat), i + r = R → jl gw X d 88 5 [some (.ref 157), some (.int g), some (.int w), some (.int (nI n)), some (.int (nI i))] [] (he I P M) = some (some (.int (nI (n + mMany M g w r i))), he I P M) := by
  intro r
  induction r with
  | zero =>
    intro i n hi
    have hi : i = R := by omega
    subst hi
    rw [r88_5]
    simp (disch := first | decide | omega | assumption | (simp (disch := decide) only [u2_ne, u2_same, mQueue]; assumption)) only [kV_some, kI_some, kR_some, kR_any, kH_some, kC_none, kC_some, jv_rsv_ref, jv_rsv_rf, jv_nz_ref, jv_nz_null, jv_nz_rf0, jv_nz_rf1, jv_rq_r1, jv_rq_r0, n10, n11, n00, Option.bind_some, Option.bind_none, jv_isr_ref, jv_isr_rf, jv_isr_null, va_rf_some, va_rf_none, jv_cat1_int, jv_cat1_ref, jv_cat1_rf, if_true, if_false, eq_self, Option.toList_some, Option.toList_none, List.cons_append, List.nil_append, Bool.and_self, Bool.and_true, i32_10, i32_01, i32_80, nI_div8, nI_mul4, nI_mul8, nI_mul32, nI_add, ↓reduceIte, u2_ne, u2_same, r88_0, r88_1, r88_2, r88_3, r88_7, r88_8, r88_11, r88_14, r88_15, r88_18, r88_20, r88_21, r88_22, r88_25, r88_26, r88_29, r88_31, r88_32, r88_35, r88_36, r88_39, r88_40, r88_41, r88_44, r88_45, r88_48, r88_49, r88_52, r88_55, r88_58, r88_61, r88_62, gt_157_28, hR, Int32.le_refl, mMany, Nat.add_zero]
  | succ r ih =>
    intro i n hi
    have h1 : ¬ nI R ≤ nI i := nI_ge (by omega) (by omega)
    rw [r88_5]
    by_cases ha : M 18 i = g
    · by_cases hb : M 23 i = 0
      · by_cases hc : w = 0
        · subst hc
          simp (disch := first | decide | omega | assumption | (simp (disch := decide) only [u2_ne, u2_same, mQueue]; assumption)) only [kV_some, kI_some, kR_some, kR_any, kH_some, kC_none, kC_some, jv_rsv_ref, jv_rsv_rf, jv_nz_ref, jv_nz_null, jv_nz_rf0, jv_nz_rf1, jv_rq_r1, jv_rq_r0, n10, n11, n00, Option.bind_some, Option.bind_none, jv_isr_ref, jv_isr_rf, jv_isr_null, va_rf_some, va_rf_none, jv_cat1_int, jv_cat1_ref, jv_cat1_rf, if_true, if_false, eq_self, Option.toList_some, Option.toList_none, List.cons_append, List.nil_append, Bool.and_self, Bool.and_true, i32_10, i32_01, i32_80, nI_div8, nI_mul4, nI_mul8, nI_mul32, nI_add, ↓reduceIte, u2_ne, u2_same, r88_0, r88_1, r88_2, r88_3, r88_7, r88_8, r88_11, r88_14, r88_15, r88_18, r88_20, r88_21, r88_22, r88_25, r88_26, r88_29, r88_31, r88_32, r88_35, r88_36, r88_39, r88_40, r88_41, r88_44, r88_45, r88_48, r88_49, r88_52, r88_55, r88_58, r88_61, r88_62, gt_157_28, gt_157_18, gt_157_23, hR, h1, rd_176, rd_181, ha, hb, nI_1]
          rw [ih (i + 1) (n + 1) (by omega), mMany_t ⟨ha, by simp [hb]⟩, Nat.add_assoc]
        · simp (disch := first | decide | omega | assumption | (simp (disch := decide) only [u2_ne, u2_same, mQueue]; assumption)) only [kV_some, kI_some, kR_some, kR_any, kH_some, kC_none, kC_some, jv_rsv_ref, jv_rsv_rf, jv_nz_ref, jv_nz_null, jv_nz_rf0, jv_nz_rf1, jv_rq_r1, jv_rq_r0, n10, n11, n00, Option.bind_some, Option.bind_none, jv_isr_ref, jv_isr_rf, jv_isr_null, va_rf_some, va_rf_none, jv_cat1_int, jv_cat1_ref, jv_cat1_rf, if_true, if_false, eq_self, Option.toList_some, Option.toList_none, List.cons_append, List.nil_append, Bool.and_self, Bool.and_true, i32_10, i32_01, i32_80, nI_div8, nI_mul4, nI_mul8, nI_mul32, nI_add, ↓reduceIte, u2_ne, u2_same, r88_0, r88_1, r88_2, r88_3, r88_7, r88_8, r88_11, r88_14, r88_15, r88_18, r88_20, r88_21, r88_22, r88_25, r88_26, r88_29, r88_31, r88_32, r88_35, r88_36, r88_39, r88_40, r88_41, r88_44, r88_45, r88_48, r88_49, r88_52, r88_55, r88_58, r88_61, r88_62, gt_157_28, gt_157_18, gt_157_23, hR, h1, rd_176, rd_181, ha, hb, hc, nI_1]
          rw [ih (i + 1) n (by omega), mMany_f (fun z => hc (z.2.mp hb))]
      · by_cases hc : w = 0
        · subst hc
          simp (disch := first | decide | omega | assumption | (simp (disch := decide) only [u2_ne, u2_same, mQueue]; assumption)) only [kV_some, kI_some, kR_some, kR_any, kH_some, kC_none, kC_some, jv_rsv_ref, jv_rsv_rf, jv_nz_ref, jv_nz_null, jv_nz_rf0, jv_nz_rf1, jv_rq_r1, jv_rq_r0, n10, n11, n00, Option.bind_some, Option.bind_none, jv_isr_ref, jv_isr_rf, jv_isr_null, va_rf_some, va_rf_none, jv_cat1_int, jv_cat1_ref, jv_cat1_rf, if_true, if_false, eq_self, Option.toList_some, Option.toList_none, List.cons_append, List.nil_append, Bool.and_self, Bool.and_true, i32_10, i32_01, i32_80, nI_div8, nI_mul4, nI_mul8, nI_mul32, nI_add, ↓reduceIte, u2_ne, u2_same, r88_0, r88_1, r88_2, r88_3, r88_7, r88_8, r88_11, r88_14, r88_15, r88_18, r88_20, r88_21, r88_22, r88_25, r88_26, r88_29, r88_31, r88_32, r88_35, r88_36, r88_39, r88_40, r88_41, r88_44, r88_45, r88_48, r88_49, r88_52, r88_55, r88_58, r88_61, r88_62, gt_157_28, gt_157_18, gt_157_23, hR, h1, rd_176, rd_181, ha, hb, nI_1]
          rw [ih (i + 1) n (by omega), mMany_f (fun z => hb (z.2.mpr rfl))]
        · simp (disch := first | decide | omega | assumption | (simp (disch := decide) only [u2_ne, u2_same, mQueue]; assumption)) only [kV_some, kI_some, kR_some, kR_any, kH_some, kC_none, kC_some, jv_rsv_ref, jv_rsv_rf, jv_nz_ref, jv_nz_null, jv_nz_rf0, jv_nz_rf1, jv_rq_r1, jv_rq_r0, n10, n11, n00, Option.bind_some, Option.bind_none, jv_isr_ref, jv_isr_rf, jv_isr_null, va_rf_some, va_rf_none, jv_cat1_int, jv_cat1_ref, jv_cat1_rf, if_true, if_false, eq_self, Option.toList_some, Option.toList_none, List.cons_append, List.nil_append, Bool.and_self, Bool.and_true, i32_10, i32_01, i32_80, nI_div8, nI_mul4, nI_mul8, nI_mul32, nI_add, ↓reduceIte, u2_ne, u2_same, r88_0, r88_1, r88_2, r88_3, r88_7, r88_8, r88_11, r88_14, r88_15, r88_18, r88_20, r88_21, r88_22, r88_25, r88_26, r88_29, r88_31, r88_32, r88_35, r88_36, r88_39, r88_40, r88_41, r88_44, r88_45, r88_48, r88_49, r88_52, r88_55, r88_58, r88_61, r88_62, gt_157_28, gt_157_18, gt_157_23, hR, h1, rd_176, rd_181, ha, hb, hc, nI_1]
          rw [ih (i + 1) (n + 1) (by omega), mMany_t ⟨ha, by simp [hb, hc]⟩, Nat.add_assoc]
    · simp (disch := first | decide | omega | assumption | (simp (disch := decide) only [u2_ne, u2_same, mQueue]; assumption)) only [kV_some, kI_some, kR_some, kR_any, kH_some, kC_none, kC_some, jv_rsv_ref, jv_rsv_rf, jv_nz_ref, jv_nz_null, jv_nz_rf0, jv_nz_rf1, jv_rq_r1, jv_rq_r0, n10, n11, n00, Option.bind_some, Option.bind_none, jv_isr_ref, jv_isr_rf, jv_isr_null, va_rf_some, va_rf_none, jv_cat1_int, jv_cat1_ref, jv_cat1_rf, if_true, if_false, eq_self, Option.toList_some, Option.toList_none, List.cons_append, List.nil_append, Bool.and_self, Bool.and_true, i32_10, i32_01, i32_80, nI_div8, nI_mul4, nI_mul8, nI_mul32, nI_add, ↓reduceIte, u2_ne, u2_same, r88_0, r88_1, r88_2, r88_3, r88_7, r88_8, r88_11, r88_14, r88_15, r88_18, r88_20, r88_21, r88_22, r88_25, r88_26, r88_29, r88_31, r88_32, r88_35, r88_36, r88_39, r88_40, r88_41, r88_44, r88_45, r88_48, r88_49, r88_52, r88_55, r88_58, r88_61, r88_62, gt_157_28, gt_157_18, gt_157_23, hR, h1, rd_176, rd_181, ha, nI_1]
      rw [ih (i + 1) n (by omega), mMany_f (fun z => ha z.1)]
theorem s88 {X : Nat × (Nat → Int32)} {d : Nat} {I : Nat → Nat → Int32} {P : Nat → Nat → Option Nat} {M : Nat → Nat → Int32} {g w : Int32} {R : Nat} (hR : M 28 0 = nI R) (h30 : R ≤ 30) : jv_F gw X (d + 1) 88 [.ref 157, .int g, .int w] (he I P M) = some (some (.int (nI (mMany M g w R 0))), he I P M) := by
  rw [e88]
  simp (disch := first | decide | omega | assumption | (simp (disch := decide) only [u2_ne, u2_same, mQueue]; assumption)) only [kV_some, kI_some, kR_some, kR_any, kH_some, kC_none, kC_some, jv_rsv_ref, jv_rsv_rf, jv_nz_ref, jv_nz_null, jv_nz_rf0, jv_nz_rf1, jv_rq_r1, jv_rq_r0, n10, n11, n00, Option.bind_some, Option.bind_none, jv_isr_ref, jv_isr_rf, jv_isr_null, va_rf_some, va_rf_none, jv_cat1_int, jv_cat1_ref, jv_cat1_rf, if_true, if_false, eq_self, Option.toList_some, Option.toList_none, List.cons_append, List.nil_append, Bool.and_self, Bool.and_true, i32_10, i32_01, i32_80, nI_div8, nI_mul4, nI_mul8, nI_mul32, nI_add, ↓reduceIte, u2_ne, u2_same, r88_0, r88_1, r88_2, r88_3, r88_7, r88_8, r88_11, r88_14, r88_15, r88_18, r88_20, r88_21, r88_22, r88_25, r88_26, r88_29, r88_31, r88_32, r88_35, r88_36, r88_39, r88_40, r88_41, r88_44, r88_45, r88_48, r88_49, r88_52, r88_55, r88_58, r88_61, r88_62]
  have h := s88l (X := X) (d := d) (I := I) (P := P) (g := g) (w := w) hR h30 R 0 0 (by omega)
  rw [Nat.zero_add] at h
  exact h
/-- firstAt(g), behindOf(n) -/
def mFirst (M : Nat → Nat → Int32) (g : Int32) : Nat → Nat → Int32
  | 0, _ => -1
  | r + 1, i => if M 18 i = g then nI i else mFirst M g r (i + 1)
theorem s91l {X : Nat × (Nat → Int32)} {d : Nat} {I : Nat → Nat → Int32} {P : Nat → Nat → Option Nat} {M : Nat → Nat → Int32} {g : Int32} {R : Nat} (hR : M 28 0 = nI R) (h30 : R ≤ 30) : ∀ (r i : Nat), i + r = R → jl gw X d 91 2 [some (.ref 157), some (.int g), some (.int (nI i))] [] (he I P M) = some (some (.int (mFirst M g r i)), he I P M) := by
  intro r
  induction r with
  | zero =>
    intro i hi
    have hi : i = R := by omega
    subst hi
    rw [r91_2]
    simp (disch := first | decide | omega | assumption | (simp (disch := decide) only [u2_ne, u2_same, mQueue]; assumption)) only [kV_some, kI_some, kR_some, kR_any, kH_some, kC_none, kC_some, jv_rsv_ref, jv_rsv_rf, jv_nz_ref, jv_nz_null, jv_nz_rf0, jv_nz_rf1, jv_rq_r1, jv_rq_r0, n10, n11, n00, Option.bind_some, Option.bind_none, jv_isr_ref, jv_isr_rf, jv_isr_null, va_rf_some, va_rf_none, jv_cat1_int, jv_cat1_ref, jv_cat1_rf, if_true, if_false, eq_self, Option.toList_some, Option.toList_none, List.cons_append, List.nil_append, Bool.and_self, Bool.and_true, i32_10, i32_01, i32_80, nI_div8, nI_mul4, nI_mul8, nI_mul32, nI_add, ↓reduceIte, u2_ne, u2_same, r91_0, r91_1, r91_3, r91_4, r91_7, r91_10, r91_11, r91_14, r91_15, r91_16, r91_17, r91_20, r91_21, r91_22, r91_25, r91_28, r91_29, gt_157_28, hR, Int32.le_refl, mFirst]
  | succ r ih =>
    intro i hi
    have h1 : ¬ nI R ≤ nI i := nI_ge (by omega) (by omega)
    rw [r91_2]
    simp (disch := first | decide | omega | assumption | (simp (disch := decide) only [u2_ne, u2_same, mQueue]; assumption)) only [kV_some, kI_some, kR_some, kR_any, kH_some, kC_none, kC_some, jv_rsv_ref, jv_rsv_rf, jv_nz_ref, jv_nz_null, jv_nz_rf0, jv_nz_rf1, jv_rq_r1, jv_rq_r0, n10, n11, n00, Option.bind_some, Option.bind_none, jv_isr_ref, jv_isr_rf, jv_isr_null, va_rf_some, va_rf_none, jv_cat1_int, jv_cat1_ref, jv_cat1_rf, if_true, if_false, eq_self, Option.toList_some, Option.toList_none, List.cons_append, List.nil_append, Bool.and_self, Bool.and_true, i32_10, i32_01, i32_80, nI_div8, nI_mul4, nI_mul8, nI_mul32, nI_add, ↓reduceIte, u2_ne, u2_same, r91_0, r91_1, r91_3, r91_4, r91_7, r91_10, r91_11, r91_14, r91_15, r91_16, r91_17, r91_20, r91_21, r91_22, r91_25, r91_28, r91_29, gt_157_28, gt_157_18, hR, h1, rd_176, mFirst, nI_1]
    by_cases h2 : M 18 i = g
    · simp (disch := first | decide | omega | assumption | (simp (disch := decide) only [u2_ne, u2_same, mQueue]; assumption)) only [kV_some, kI_some, kR_some, kR_any, kH_some, kC_none, kC_some, jv_rsv_ref, jv_rsv_rf, jv_nz_ref, jv_nz_null, jv_nz_rf0, jv_nz_rf1, jv_rq_r1, jv_rq_r0, n10, n11, n00, Option.bind_some, Option.bind_none, jv_isr_ref, jv_isr_rf, jv_isr_null, va_rf_some, va_rf_none, jv_cat1_int, jv_cat1_ref, jv_cat1_rf, if_true, if_false, eq_self, Option.toList_some, Option.toList_none, List.cons_append, List.nil_append, Bool.and_self, Bool.and_true, i32_10, i32_01, i32_80, nI_div8, nI_mul4, nI_mul8, nI_mul32, nI_add, ↓reduceIte, u2_ne, u2_same, h2]
    · simp (disch := first | decide | omega | assumption | (simp (disch := decide) only [u2_ne, u2_same, mQueue]; assumption)) only [kV_some, kI_some, kR_some, kR_any, kH_some, kC_none, kC_some, jv_rsv_ref, jv_rsv_rf, jv_nz_ref, jv_nz_null, jv_nz_rf0, jv_nz_rf1, jv_rq_r1, jv_rq_r0, n10, n11, n00, Option.bind_some, Option.bind_none, jv_isr_ref, jv_isr_rf, jv_isr_null, va_rf_some, va_rf_none, jv_cat1_int, jv_cat1_ref, jv_cat1_rf, if_true, if_false, eq_self, Option.toList_some, Option.toList_none, List.cons_append, List.nil_append, Bool.and_self, Bool.and_true, i32_10, i32_01, i32_80, nI_div8, nI_mul4, nI_mul8, nI_mul32, nI_add, ↓reduceIte, u2_ne, u2_same, h2]
      exact ih (i + 1) (by omega)
theorem s91 {X : Nat × (Nat → Int32)} {d : Nat} {I : Nat → Nat → Int32} {P : Nat → Nat → Option Nat} {M : Nat → Nat → Int32} {g : Int32} {R : Nat} (hR : M 28 0 = nI R) (h30 : R ≤ 30) : jv_F gw X (d + 1) 91 [.ref 157, .int g] (he I P M) = some (some (.int (mFirst M g R 0)), he I P M) := by
  rw [e91]
  simp (disch := first | decide | omega | assumption | (simp (disch := decide) only [u2_ne, u2_same, mQueue]; assumption)) only [kV_some, kI_some, kR_some, kR_any, kH_some, kC_none, kC_some, jv_rsv_ref, jv_rsv_rf, jv_nz_ref, jv_nz_null, jv_nz_rf0, jv_nz_rf1, jv_rq_r1, jv_rq_r0, n10, n11, n00, Option.bind_some, Option.bind_none, jv_isr_ref, jv_isr_rf, jv_isr_null, va_rf_some, va_rf_none, jv_cat1_int, jv_cat1_ref, jv_cat1_rf, if_true, if_false, eq_self, Option.toList_some, Option.toList_none, List.cons_append, List.nil_append, Bool.and_self, Bool.and_true, i32_10, i32_01, i32_80, nI_div8, nI_mul4, nI_mul8, nI_mul32, nI_add, ↓reduceIte, u2_ne, u2_same, r91_0, r91_1, r91_3, r91_4, r91_7, r91_10, r91_11, r91_14, r91_15, r91_16, r91_17, r91_20, r91_21, r91_22, r91_25, r91_28, r91_29]
  exact s91l hR h30 R 0 (by omega)
def mBehind (M : Nat → Nat → Int32) (n : Int32) : Nat → Nat → Int32
  | 0, _ => -1
  | r + 1, i => if n < M 17 i then nI i else mBehind M n r (i + 1)
theorem s105l {X : Nat × (Nat → Int32)} {d : Nat} {I : Nat → Nat → Int32} {P : Nat → Nat → Option Nat} {M : Nat → Nat → Int32} {n : Int32} {R : Nat} (hR : M 28 0 = nI R) (h30 : R ≤ 30) : ∀ (r i : Nat), i + r = R → jl gw X d 105 2 [some (.ref 157), some (.int n), some (.int (nI i))] [] (he I P M) = some (some (.int (mBehind M n r i)), he I P M) := by
  intro r
  induction r with
  | zero =>
    intro i hi
    have hi : i = R := by omega
    subst hi
    rw [r105_2]
    simp (disch := first | decide | omega | assumption | (simp (disch := decide) only [u2_ne, u2_same, mQueue]; assumption)) only [kV_some, kI_some, kR_some, kR_any, kH_some, kC_none, kC_some, jv_rsv_ref, jv_rsv_rf, jv_nz_ref, jv_nz_null, jv_nz_rf0, jv_nz_rf1, jv_rq_r1, jv_rq_r0, n10, n11, n00, Option.bind_some, Option.bind_none, jv_isr_ref, jv_isr_rf, jv_isr_null, va_rf_some, va_rf_none, jv_cat1_int, jv_cat1_ref, jv_cat1_rf, if_true, if_false, eq_self, Option.toList_some, Option.toList_none, List.cons_append, List.nil_append, Bool.and_self, Bool.and_true, i32_10, i32_01, i32_80, nI_div8, nI_mul4, nI_mul8, nI_mul32, nI_add, ↓reduceIte, u2_ne, u2_same, r105_0, r105_1, r105_3, r105_4, r105_7, r105_10, r105_11, r105_14, r105_15, r105_16, r105_17, r105_20, r105_21, r105_22, r105_25, r105_28, r105_29, gt_157_28, hR, Int32.le_refl, mBehind]
  | succ r ih =>
    intro i hi
    have h1 : ¬ nI R ≤ nI i := nI_ge (by omega) (by omega)
    rw [r105_2]
    simp (disch := first | decide | omega | assumption | (simp (disch := decide) only [u2_ne, u2_same, mQueue]; assumption)) only [kV_some, kI_some, kR_some, kR_any, kH_some, kC_none, kC_some, jv_rsv_ref, jv_rsv_rf, jv_nz_ref, jv_nz_null, jv_nz_rf0, jv_nz_rf1, jv_rq_r1, jv_rq_r0, n10, n11, n00, Option.bind_some, Option.bind_none, jv_isr_ref, jv_isr_rf, jv_isr_null, va_rf_some, va_rf_none, jv_cat1_int, jv_cat1_ref, jv_cat1_rf, if_true, if_false, eq_self, Option.toList_some, Option.toList_none, List.cons_append, List.nil_append, Bool.and_self, Bool.and_true, i32_10, i32_01, i32_80, nI_div8, nI_mul4, nI_mul8, nI_mul32, nI_add, ↓reduceIte, u2_ne, u2_same, r105_0, r105_1, r105_3, r105_4, r105_7, r105_10, r105_11, r105_14, r105_15, r105_16, r105_17, r105_20, r105_21, r105_22, r105_25, r105_28, r105_29, gt_157_28, gt_157_17, hR, h1, rd_175, mBehind, nI_1]
    by_cases h2 : n < M 17 i
    · have h2' : ¬ M 17 i ≤ n := Int32.not_le.mpr h2
      simp (disch := first | decide | omega | assumption | (simp (disch := decide) only [u2_ne, u2_same, mQueue]; assumption)) only [kV_some, kI_some, kR_some, kR_any, kH_some, kC_none, kC_some, jv_rsv_ref, jv_rsv_rf, jv_nz_ref, jv_nz_null, jv_nz_rf0, jv_nz_rf1, jv_rq_r1, jv_rq_r0, n10, n11, n00, Option.bind_some, Option.bind_none, jv_isr_ref, jv_isr_rf, jv_isr_null, va_rf_some, va_rf_none, jv_cat1_int, jv_cat1_ref, jv_cat1_rf, if_true, if_false, eq_self, Option.toList_some, Option.toList_none, List.cons_append, List.nil_append, Bool.and_self, Bool.and_true, i32_10, i32_01, i32_80, nI_div8, nI_mul4, nI_mul8, nI_mul32, nI_add, ↓reduceIte, u2_ne, u2_same, h2, h2']
    · have h2' : M 17 i ≤ n := Int32.not_lt.mp h2
      simp (disch := first | decide | omega | assumption | (simp (disch := decide) only [u2_ne, u2_same, mQueue]; assumption)) only [kV_some, kI_some, kR_some, kR_any, kH_some, kC_none, kC_some, jv_rsv_ref, jv_rsv_rf, jv_nz_ref, jv_nz_null, jv_nz_rf0, jv_nz_rf1, jv_rq_r1, jv_rq_r0, n10, n11, n00, Option.bind_some, Option.bind_none, jv_isr_ref, jv_isr_rf, jv_isr_null, va_rf_some, va_rf_none, jv_cat1_int, jv_cat1_ref, jv_cat1_rf, if_true, if_false, eq_self, Option.toList_some, Option.toList_none, List.cons_append, List.nil_append, Bool.and_self, Bool.and_true, i32_10, i32_01, i32_80, nI_div8, nI_mul4, nI_mul8, nI_mul32, nI_add, ↓reduceIte, u2_ne, u2_same, h2, h2']
      exact ih (i + 1) (by omega)
theorem s105 {X : Nat × (Nat → Int32)} {d : Nat} {I : Nat → Nat → Int32} {P : Nat → Nat → Option Nat} {M : Nat → Nat → Int32} {n : Int32} {R : Nat} (hR : M 28 0 = nI R) (h30 : R ≤ 30) : jv_F gw X (d + 1) 105 [.ref 157, .int n] (he I P M) = some (some (.int (mBehind M n R 0)), he I P M) := by
  rw [e105]
  simp (disch := first | decide | omega | assumption | (simp (disch := decide) only [u2_ne, u2_same, mQueue]; assumption)) only [kV_some, kI_some, kR_some, kR_any, kH_some, kC_none, kC_some, jv_rsv_ref, jv_rsv_rf, jv_nz_ref, jv_nz_null, jv_nz_rf0, jv_nz_rf1, jv_rq_r1, jv_rq_r0, n10, n11, n00, Option.bind_some, Option.bind_none, jv_isr_ref, jv_isr_rf, jv_isr_null, va_rf_some, va_rf_none, jv_cat1_int, jv_cat1_ref, jv_cat1_rf, if_true, if_false, eq_self, Option.toList_some, Option.toList_none, List.cons_append, List.nil_append, Bool.and_self, Bool.and_true, i32_10, i32_01, i32_80, nI_div8, nI_mul4, nI_mul8, nI_mul32, nI_add, ↓reduceIte, u2_ne, u2_same, r105_0, r105_1, r105_3, r105_4, r105_7, r105_10, r105_11, r105_14, r105_15, r105_16, r105_17, r105_20, r105_21, r105_22, r105_25, r105_28, r105_29]
  exact s105l hR h30 R 0 (by omega)
/-- leave(g), save(g), isEmpty(g), go(g) -/
def mLeave (M : Nat → Nat → Int32) (g : Nat) : Nat → Nat → Int32 := u2 (u2 (u2 (u2 (u2 M 8 g 0) 16 g 0) 10 g 0) 9 g 0) 11 g 0
theorem s86 {X : Nat × (Nat → Int32)} {d : Nat} {I : Nat → Nat → Int32} {P : Nat → Nat → Option Nat} {M : Nat → Nat → Int32} {g : Nat} (hg : g < 32) : jv_F gw X (d + 1) 86 [.ref 157, .int (nI g)] (he I P M) = some (none, he I P (mLeave M g)) := by
  rw [e86]
  simp (disch := first | decide | omega | assumption | (simp (disch := decide) only [u2_ne, u2_same, mQueue]; assumption)) only [kV_some, kI_some, kR_some, kR_any, kH_some, kC_none, kC_some, jv_rsv_ref, jv_rsv_rf, jv_nz_ref, jv_nz_null, jv_nz_rf0, jv_nz_rf1, jv_rq_r1, jv_rq_r0, n10, n11, n00, Option.bind_some, Option.bind_none, jv_isr_ref, jv_isr_rf, jv_isr_null, va_rf_some, va_rf_none, jv_cat1_int, jv_cat1_ref, jv_cat1_rf, if_true, if_false, eq_self, Option.toList_some, Option.toList_none, List.cons_append, List.nil_append, Bool.and_self, Bool.and_true, i32_10, i32_01, i32_80, nI_div8, nI_mul4, nI_mul8, nI_mul32, nI_add, ↓reduceIte, u2_ne, u2_same, r86_0, r86_1, r86_4, r86_5, r86_6, r86_7, r86_8, r86_11, r86_12, r86_13, r86_14, r86_15, r86_18, r86_19, r86_20, r86_21, r86_22, r86_25, r86_26, r86_27, r86_28, r86_29, r86_32, r86_33, r86_34, r86_35, gt_157_8, gt_157_16, gt_157_10, gt_157_9, gt_157_11, wr_166, wr_174, wr_168, wr_167, wr_169, true_or]
  rfl
def mSave (M : Nat → Nat → Int32) (g : Nat) : Nat → Nat → Int32 := u2 (u2 M 12 g (M 9 g)) 13 g (M 13 g + 1)
theorem s99 {X : Nat × (Nat → Int32)} {d : Nat} {I : Nat → Nat → Int32} {P : Nat → Nat → Option Nat} {M : Nat → Nat → Int32} {g : Nat} (hg : g < 32) : jv_F gw X (d + 1) 99 [.ref 157, .int (nI g)] (he I P M) = some (none, he I P (mSave M g)) := by
  rw [e99]
  simp (disch := first | decide | omega | assumption | (simp (disch := decide) only [u2_ne, u2_same, mQueue]; assumption)) only [kV_some, kI_some, kR_some, kR_any, kH_some, kC_none, kC_some, jv_rsv_ref, jv_rsv_rf, jv_nz_ref, jv_nz_null, jv_nz_rf0, jv_nz_rf1, jv_rq_r1, jv_rq_r0, n10, n11, n00, Option.bind_some, Option.bind_none, jv_isr_ref, jv_isr_rf, jv_isr_null, va_rf_some, va_rf_none, jv_cat1_int, jv_cat1_ref, jv_cat1_rf, if_true, if_false, eq_self, Option.toList_some, Option.toList_none, List.cons_append, List.nil_append, Bool.and_self, Bool.and_true, i32_10, i32_01, i32_80, nI_div8, nI_mul4, nI_mul8, nI_mul32, nI_add, ↓reduceIte, u2_ne, u2_same, r99_0, r99_1, r99_4, r99_5, r99_6, r99_9, r99_10, r99_11, r99_12, r99_13, r99_16, r99_17, r99_18, r99_19, r99_20, r99_21, r99_22, gt_157_12, gt_157_9, gt_157_13, rd_167, wr_170, rd_171, wr_171]
  rfl
noncomputable def mEmpty (M : Nat → Nat → Int32) (g : Int32) (R : Nat) : Int32 := if mMany M g 0 R 0 + mMany M g 1 R 0 = 0 then 1 else 0
