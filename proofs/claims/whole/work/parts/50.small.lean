/-! ===== small methods ===== -/
theorem i32_10 : ((1 : Int32) = 0) = False := eq_false (by decide)
theorem i32_01 : ((0 : Int32) = 1) = False := eq_false (by decide)
theorem i32_le0 : ((0 : Int32) ≤ 0) = True := eq_true (by decide)
theorem i32_80 : ((8 : Int32) = 0) = False := eq_false (by decide)
theorem nI_div8 {a : Nat} (h : a < 2 ^ 31) : nI a / 8 = nI (a / 8) := pk_div (d := 8) h (by decide) (by decide)
theorem nI_mul4 (a : Nat) : 4 * nI a = nI (4 * a) := pk_mul 4 a
theorem nI_mul8 (a : Nat) : 8 * nI a = nI (8 * a) := pk_mul 8 a
theorem nI_mul32 (a : Nat) : 32 * nI a = nI (32 * a) := pk_mul 32 a
theorem i32_nle {x y : Int32} : ¬ x ≤ y ↔ y < x := Int32.not_le
theorem s9 {X : Nat × (Nat → Int32)} {d : Nat} {h : jv_H} {x a b : Int32} : jv_F gw X (d + 1) 9 [.int x, .int a, .int b] h = some (some (.int (if a ≤ x ∧ x ≤ b then 1 else 0)), h) := by
  rw [e9]
  by_cases h1 : x < a
  · have h1' : ¬ a ≤ x := Int32.not_le.mpr h1
    simp only [r9_0, r9_1, r9_2, r9_5, r9_6, r9_7, r9_10, r9_11, r9_14, r9_15, kV_some, kI_some, kR_some, kR_any, kH_some, kC_none, kC_some, jv_rsv_ref, jv_rsv_rf, jv_nz_ref, jv_nz_null, jv_nz_rf0, jv_nz_rf1, jv_rq_r1, jv_rq_r0, n10, n11, n00, Option.bind_some, Option.bind_none, jv_isr_ref, jv_isr_rf, jv_isr_null, va_rf_some, va_rf_none, jv_cat1_int, jv_cat1_ref, jv_cat1_rf, if_true, if_false, eq_self, Option.toList_some, Option.toList_none, List.cons_append, List.nil_append, Bool.and_self, Bool.and_true, i32_10, i32_01, i32_80, nI_div8, nI_mul4, nI_mul8, nI_mul32, nI_add, ↓reduceIte, h1, h1', false_and]
    rfl
  · have h1' : a ≤ x := Int32.not_lt.mp h1
    by_cases h2 : b < x
    · have h2' : ¬ x ≤ b := Int32.not_le.mpr h2
      simp only [r9_0, r9_1, r9_2, r9_5, r9_6, r9_7, r9_10, r9_11, r9_14, r9_15, kV_some, kI_some, kR_some, kR_any, kH_some, kC_none, kC_some, jv_rsv_ref, jv_rsv_rf, jv_nz_ref, jv_nz_null, jv_nz_rf0, jv_nz_rf1, jv_rq_r1, jv_rq_r0, n10, n11, n00, Option.bind_some, Option.bind_none, jv_isr_ref, jv_isr_rf, jv_isr_null, va_rf_some, va_rf_none, jv_cat1_int, jv_cat1_ref, jv_cat1_rf, if_true, if_false, eq_self, Option.toList_some, Option.toList_none, List.cons_append, List.nil_append, Bool.and_self, Bool.and_true, i32_10, i32_01, i32_80, nI_div8, nI_mul4, nI_mul8, nI_mul32, nI_add, ↓reduceIte, h1, h1', h2, h2', and_false]
      rfl
    · have h2' : x ≤ b := Int32.not_lt.mp h2
      simp only [r9_0, r9_1, r9_2, r9_5, r9_6, r9_7, r9_10, r9_11, r9_14, r9_15, kV_some, kI_some, kR_some, kR_any, kH_some, kC_none, kC_some, jv_rsv_ref, jv_rsv_rf, jv_nz_ref, jv_nz_null, jv_nz_rf0, jv_nz_rf1, jv_rq_r1, jv_rq_r0, n10, n11, n00, Option.bind_some, Option.bind_none, jv_isr_ref, jv_isr_rf, jv_isr_null, va_rf_some, va_rf_none, jv_cat1_int, jv_cat1_ref, jv_cat1_rf, if_true, if_false, eq_self, Option.toList_some, Option.toList_none, List.cons_append, List.nil_append, Bool.and_self, Bool.and_true, i32_10, i32_01, i32_80, nI_div8, nI_mul4, nI_mul8, nI_mul32, nI_add, ↓reduceIte, h1, h1', h2, h2', and_self]
      rfl
