/-! ===== the reference, on: with the depth as a premise ===== -/
theorem t9 {X : Nat × (Nat → Int32)} {d : Nat} {h : jv_H} {x a b : Int32} (hd : 1 ≤ d) : jv_F gw X d 9 [.int x, .int a, .int b] h = some (some (.int (if a ≤ x ∧ x ≤ b then 1 else 0)), h) := by obtain ⟨d, rfl⟩ : ∃ q, d = q + 1 := ⟨d - 1, by omega⟩; exact s9
theorem t78 {X : Nat × (Nat → Int32)} {d : Nat} {h : jv_H} {x t : Int32} (hd : 1 ≤ d) : jv_F gw X d 78 [.int x, .int t] h = some (some (.int (if 0 ≤ x ∧ x < t then 1 else 0)), h) := by obtain ⟨d, rfl⟩ : ∃ q, d = q + 1 := ⟨d - 1, by omega⟩; exact s78
theorem t85 {X : Nat × (Nat → Int32)} {d : Nat} {I : Nat → Nat → Int32} {P : Nat → Nat → Option Nat} {M : Nat → Nat → Int32} (hd : 1 ≤ d) : jv_F gw X d 85 [.ref 157] (he I P M) = some (some (.int (mWorks M)), he I P (mWorked M)) := by obtain ⟨d, rfl⟩ : ∃ q, d = q + 1 := ⟨d - 1, by omega⟩; exact s85
theorem t94 {X : Nat × (Nat → Int32)} {d : Nat} {I : Nat → Nat → Int32} {P : Nat → Nat → Option Nat} {M : Nat → Nat → Int32} {n : Int32} {R : Nat} (hR : M 28 0 = nI R) (h30 : R ≤ 30) (hd : 1 ≤ d) : jv_F gw X d 94 [.ref 157, .int n] (he I P M) = some (some (.int (mFind M n R 0)), he I P M) := by obtain ⟨d, rfl⟩ : ∃ q, d = q + 1 := ⟨d - 1, by omega⟩; exact s94 hR h30
theorem t90 {X : Nat × (Nat → Int32)} {d : Nat} {I : Nat → Nat → Int32} {P : Nat → Nat → Option Nat} {M : Nat → Nat → Int32} {x : Int32} {W : Nat} (hW : M 31 0 = nI W) (h64 : W < 64) (hd : 1 ≤ d) : jv_F gw X d 90 [.ref 157, .int x] (he I P M) = some (none, he I P (mQueue M x)) := by obtain ⟨d, rfl⟩ : ∃ q, d = q + 1 := ⟨d - 1, by omega⟩; exact s90 hW h64
theorem t88 {X : Nat × (Nat → Int32)} {d : Nat} {I : Nat → Nat → Int32} {P : Nat → Nat → Option Nat} {M : Nat → Nat → Int32} {g w : Int32} {R : Nat} (hR : M 28 0 = nI R) (h30 : R ≤ 30) (hd : 1 ≤ d) : jv_F gw X d 88 [.ref 157, .int g, .int w] (he I P M) = some (some (.int (nI (mMany M g w R 0))), he I P M) := by obtain ⟨d, rfl⟩ : ∃ q, d = q + 1 := ⟨d - 1, by omega⟩; exact s88 hR h30
theorem t91 {X : Nat × (Nat → Int32)} {d : Nat} {I : Nat → Nat → Int32} {P : Nat → Nat → Option Nat} {M : Nat → Nat → Int32} {g : Int32} {R : Nat} (hR : M 28 0 = nI R) (h30 : R ≤ 30) (hd : 1 ≤ d) : jv_F gw X d 91 [.ref 157, .int g] (he I P M) = some (some (.int (mFirst M g R 0)), he I P M) := by obtain ⟨d, rfl⟩ : ∃ q, d = q + 1 := ⟨d - 1, by omega⟩; exact s91 hR h30
theorem t105 {X : Nat × (Nat → Int32)} {d : Nat} {I : Nat → Nat → Int32} {P : Nat → Nat → Option Nat} {M : Nat → Nat → Int32} {n : Int32} {R : Nat} (hR : M 28 0 = nI R) (h30 : R ≤ 30) (hd : 1 ≤ d) : jv_F gw X d 105 [.ref 157, .int n] (he I P M) = some (some (.int (mBehind M n R 0)), he I P M) := by obtain ⟨d, rfl⟩ : ∃ q, d = q + 1 := ⟨d - 1, by omega⟩; exact s105 hR h30
theorem t86 {X : Nat × (Nat → Int32)} {d : Nat} {I : Nat → Nat → Int32} {P : Nat → Nat → Option Nat} {M : Nat → Nat → Int32} {g : Nat} (hg : g < 32) (hd : 1 ≤ d) : jv_F gw X d 86 [.ref 157, .int (nI g)] (he I P M) = some (none, he I P (mLeave M g)) := by obtain ⟨d, rfl⟩ : ∃ q, d = q + 1 := ⟨d - 1, by omega⟩; exact s86 hg
theorem t99 {X : Nat × (Nat → Int32)} {d : Nat} {I : Nat → Nat → Int32} {P : Nat → Nat → Option Nat} {M : Nat → Nat → Int32} {g : Nat} (hg : g < 32) (hd : 1 ≤ d) : jv_F gw X d 99 [.ref 157, .int (nI g)] (he I P M) = some (none, he I P (mSave M g)) := by obtain ⟨d, rfl⟩ : ∃ q, d = q + 1 := ⟨d - 1, by omega⟩; exact s99 hg
theorem mMany_le {M : Nat → Nat → Int32} {g w : Int32} : ∀ (r i : Nat), mMany M g w r i ≤ r
  | 0, _ => by rw [mMany]; omega
  | r + 1, i => by
    have := mMany_le (M := M) (g := g) (w := w) r (i + 1)
    by_cases h : mP M g w i
    · rw [mMany_t h]; omega
    · rw [mMany_f h]; omega
theorem t97 {X : Nat × (Nat → Int32)} {d : Nat} {I : Nat → Nat → Int32} {P : Nat → Nat → Option Nat} {M : Nat → Nat → Int32} {g : Int32} {R : Nat} (hR : M 28 0 = nI R) (h30 : R ≤ 30) (hd : 2 ≤ d) : jv_F gw X d 97 [.ref 157, .int g] (he I P M) = some (some (.int (mEmpty M g R)), he I P M) := by
  obtain ⟨d, rfl⟩ : ∃ q, d = q + 1 := ⟨d - 1, by omega⟩
  rw [e97]
  have h0 := mMany_le (M := M) (g := g) (w := 0) R 0
  have h1 := mMany_le (M := M) (g := g) (w := 1) R 0
  simp (disch := first | decide | omega) only [Option.bind_some, Option.bind_none, jv_isr_ref, jv_isr_rf, jv_isr_null, va_rf_some, va_rf_none, jv_cat1_int, jv_cat1_ref, jv_cat1_rf, if_true, if_false, eq_self, Option.toList_some, Option.toList_none, List.cons_append, List.nil_append, jv_nl_ref, jv_nl_null, jv_nl_rf, jv_rv_rf, Bool.and_self, Bool.and_true, i32_10, i32_01, i32_80, nI_div8, nI_mul4, nI_mul8, nI_mul32, nI_add, ↓reduceIte, u2_ne, u2_same, r97_0, r97_1, r97_2, r97_3, r97_6, r97_7, r97_8, r97_9, r97_12, r97_13, r97_16, r97_17, r97_20, r97_21, ic_157, t88 hR h30, mEmpty]
  by_cases h2 : mMany M g 0 R 0 + mMany M g 1 R 0 = 0
  · simp (disch := first | decide | omega) only [Option.bind_some, Option.bind_none, jv_isr_ref, jv_isr_rf, jv_isr_null, va_rf_some, va_rf_none, jv_cat1_int, jv_cat1_ref, jv_cat1_rf, if_true, if_false, eq_self, Option.toList_some, Option.toList_none, List.cons_append, List.nil_append, jv_nl_ref, jv_nl_null, jv_nl_rf, jv_rv_rf, Bool.and_self, Bool.and_true, i32_10, i32_01, i32_80, nI_div8, nI_mul4, nI_mul8, nI_mul32, nI_add, ↓reduceIte, u2_ne, u2_same, h2, nI_0]
    rfl
  · have h3 : ¬ nI (mMany M g 0 R 0 + mMany M g 1 R 0) = 0 := nI_ne0 (by omega) (by omega)
    simp (disch := first | decide | omega) only [Option.bind_some, Option.bind_none, jv_isr_ref, jv_isr_rf, jv_isr_null, va_rf_some, va_rf_none, jv_cat1_int, jv_cat1_ref, jv_cat1_rf, if_true, if_false, eq_self, Option.toList_some, Option.toList_none, List.cons_append, List.nil_append, jv_nl_ref, jv_nl_null, jv_nl_rf, jv_rv_rf, Bool.and_self, Bool.and_true, i32_10, i32_01, i32_80, nI_div8, nI_mul4, nI_mul8, nI_mul32, nI_add, ↓reduceIte, u2_ne, u2_same, h2, h3]
    rfl
def mGo (M : Nat → Nat → Int32) (g : Nat) : Nat → Nat → Int32 := if M 1 (g / 8) = 0 then mLeave M g else if M 42 0 = 0 then mLeave (mSave M g) g else mLeave (mWorked M) g
theorem t98 {X : Nat × (Nat → Int32)} {d : Nat} {I : Nat → Nat → Int32} {P : Nat → Nat → Option Nat} {M : Nat → Nat → Int32} {g : Nat} (hg : g < 32) (hd : 2 ≤ d) : jv_F gw X d 98 [.ref 157, .int (nI g)] (he I P M) = some (none, he I P (mGo M g)) := by
  obtain ⟨d, rfl⟩ : ∃ q, d = q + 1 := ⟨d - 1, by omega⟩
  rw [e98]
  unfold mGo
  by_cases h1 : M 1 (g / 8) = 0
  · simp (disch := first | decide | omega) only [Option.bind_some, Option.bind_none, jv_isr_ref, jv_isr_rf, jv_isr_null, va_rf_some, va_rf_none, jv_cat1_int, jv_cat1_ref, jv_cat1_rf, if_true, if_false, eq_self, Option.toList_some, Option.toList_none, List.cons_append, List.nil_append, jv_nl_ref, jv_nl_null, jv_nl_rf, jv_rv_rf, Bool.and_self, Bool.and_true, i32_10, i32_01, i32_80, nI_div8, nI_mul4, nI_mul8, nI_mul32, nI_add, ↓reduceIte, u2_ne, u2_same, r98_0, r98_1, r98_4, r98_5, r98_7, r98_8, r98_9, r98_12, r98_13, r98_16, r98_19, r98_20, r98_21, r98_24, r98_25, r98_26, r98_29, ic_157, gt_157_1, rd_159, h1, t86 hg]
  · by_cases h2 : M 42 0 = 0
    · have hw : mWorked M = M := by unfold mWorked; rw [if_pos h2]
      simp (disch := first | decide | omega) only [Option.bind_some, Option.bind_none, jv_isr_ref, jv_isr_rf, jv_isr_null, va_rf_some, va_rf_none, jv_cat1_int, jv_cat1_ref, jv_cat1_rf, if_true, if_false, eq_self, Option.toList_some, Option.toList_none, List.cons_append, List.nil_append, jv_nl_ref, jv_nl_null, jv_nl_rf, jv_rv_rf, Bool.and_self, Bool.and_true, i32_10, i32_01, i32_80, nI_div8, nI_mul4, nI_mul8, nI_mul32, nI_add, ↓reduceIte, u2_ne, u2_same, r98_0, r98_1, r98_4, r98_5, r98_7, r98_8, r98_9, r98_12, r98_13, r98_16, r98_19, r98_20, r98_21, r98_24, r98_25, r98_26, r98_29, ic_157, gt_157_1, rd_159, h1, h2, t85, mWorks, hw, t99 hg, t86 hg]
    · simp (disch := first | decide | omega) only [Option.bind_some, Option.bind_none, jv_isr_ref, jv_isr_rf, jv_isr_null, va_rf_some, va_rf_none, jv_cat1_int, jv_cat1_ref, jv_cat1_rf, if_true, if_false, eq_self, Option.toList_some, Option.toList_none, List.cons_append, List.nil_append, jv_nl_ref, jv_nl_null, jv_nl_rf, jv_rv_rf, Bool.and_self, Bool.and_true, i32_10, i32_01, i32_80, nI_div8, nI_mul4, nI_mul8, nI_mul32, nI_add, ↓reduceIte, u2_ne, u2_same, r98_0, r98_1, r98_4, r98_5, r98_7, r98_8, r98_9, r98_12, r98_13, r98_16, r98_19, r98_20, r98_21, r98_24, r98_25, r98_26, r98_29, ic_157, gt_157_1, rd_159, h1, h2, t85, mWorks, t99 hg, t86 hg]
/-- isCatch(i): does a catch stand where request i goes on -/
def mMeth (M : Nat → Nat → Int32) (i : Nat) : Nat := 4 * (nn (M 18 i) / 8) + nn (M 19 i)
def mCatch (M : Nat → Nat → Int32) (i : Nat) : Int32 := if M 22 i < M 4 (mMeth M i) ∧ M 5 (8 * mMeth M i + nn (M 22 i)) = 11 then 1 else 0
/-- what stands in the row of request i -/
def okR (M : Nat → Nat → Int32) (i : Nat) : Prop := ∃ g m a : Nat, M 18 i = nI g ∧ g < 32 ∧ M 19 i = nI m ∧ m < 4 ∧ M 22 i = nI a ∧ a < 100
def okL (M : Nat → Nat → Int32) : Prop := ∀ q, q < 16 → ∃ n : Nat, M 4 q = nI n ∧ n ≤ 8
theorem t96 {X : Nat × (Nat → Int32)} {d : Nat} {I : Nat → Nat → Int32} {P : Nat → Nat → Option Nat} {M : Nat → Nat → Int32} {i : Nat} (hi : i < 30) (hr : okR M i) (hl : okL M) (hd : 1 ≤ d) : jv_F gw X d 96 [.ref 157, .int (nI i)] (he I P M) = some (some (.int (mCatch M i)), he I P M) := by
  obtain ⟨d, rfl⟩ : ∃ q, d = q + 1 := ⟨d - 1, by omega⟩
  rw [e96]
  obtain ⟨g, m, a, hg, hg2, hm, hm2, ha, ha2⟩ := hr
  have hq : mMeth M i = 4 * (g / 8) + m := by unfold mMeth; rw [hg, hm, nn_nI (by omega), nn_nI (by omega)]
  obtain ⟨n, hn, hn8⟩ := hl (4 * (g / 8) + m) (by omega)
  unfold mCatch
  rw [hq, hn, ha, nn_nI (by omega)]
  by_cases h1 : a < n
  · have h1a : ¬ nI n ≤ nI a := nI_ge h1 (by omega)
    have h1b : nI a < nI n := nI_lt h1 (by omega)
    by_cases h2 : M 5 (8 * (4 * (g / 8) + m) + a) = 11
    · simp (disch := first | decide | omega) only [Option.bind_some, Option.bind_none, jv_isr_ref, jv_isr_rf, jv_isr_null, va_rf_some, va_rf_none, jv_cat1_int, jv_cat1_ref, jv_cat1_rf, if_true, if_false, eq_self, Option.toList_some, Option.toList_none, List.cons_append, List.nil_append, jv_nl_ref, jv_nl_null, jv_nl_rf, jv_rv_rf, Bool.and_self, Bool.and_true, i32_10, i32_01, i32_80, nI_div8, nI_mul4, nI_mul8, nI_mul32, nI_add, ↓reduceIte, u2_ne, u2_same, r96_0, r96_1, r96_2, r96_5, r96_6, r96_7, r96_9, r96_10, r96_11, r96_12, r96_15, r96_16, r96_17, r96_18, r96_19, r96_20, r96_23, r96_24, r96_25, r96_26, r96_29, r96_30, r96_31, r96_34, r96_35, r96_38, r96_40, r96_41, r96_42, r96_43, r96_46, r96_47, r96_48, r96_49, r96_50, r96_52, r96_55, r96_56, r96_59, r96_60, gt_157_18, gt_157_19, gt_157_22, gt_157_4, gt_157_5, rd_176, rd_177, rd_180, rd_162, rd_163, hg, hm, ha, hn, h1a, h1b, h2, and_self]
      rfl
    · simp (disch := first | decide | omega) only [Option.bind_some, Option.bind_none, jv_isr_ref, jv_isr_rf, jv_isr_null, va_rf_some, va_rf_none, jv_cat1_int, jv_cat1_ref, jv_cat1_rf, if_true, if_false, eq_self, Option.toList_some, Option.toList_none, List.cons_append, List.nil_append, jv_nl_ref, jv_nl_null, jv_nl_rf, jv_rv_rf, Bool.and_self, Bool.and_true, i32_10, i32_01, i32_80, nI_div8, nI_mul4, nI_mul8, nI_mul32, nI_add, ↓reduceIte, u2_ne, u2_same, r96_0, r96_1, r96_2, r96_5, r96_6, r96_7, r96_9, r96_10, r96_11, r96_12, r96_15, r96_16, r96_17, r96_18, r96_19, r96_20, r96_23, r96_24, r96_25, r96_26, r96_29, r96_30, r96_31, r96_34, r96_35, r96_38, r96_40, r96_41, r96_42, r96_43, r96_46, r96_47, r96_48, r96_49, r96_50, r96_52, r96_55, r96_56, r96_59, r96_60, gt_157_18, gt_157_19, gt_157_22, gt_157_4, gt_157_5, rd_176, rd_177, rd_180, rd_162, rd_163, hg, hm, ha, hn, h1a, h1b, h2, and_false]
      rfl
  · have h1a : nI n ≤ nI a := nI_le (by omega) (by omega)
    have h1b : ¬ nI a < nI n := nI_nlt (by omega) (by omega)
    simp (disch := first | decide | omega) only [Option.bind_some, Option.bind_none, jv_isr_ref, jv_isr_rf, jv_isr_null, va_rf_some, va_rf_none, jv_cat1_int, jv_cat1_ref, jv_cat1_rf, if_true, if_false, eq_self, Option.toList_some, Option.toList_none, List.cons_append, List.nil_append, jv_nl_ref, jv_nl_null, jv_nl_rf, jv_rv_rf, Bool.and_self, Bool.and_true, i32_10, i32_01, i32_80, nI_div8, nI_mul4, nI_mul8, nI_mul32, nI_add, ↓reduceIte, u2_ne, u2_same, r96_0, r96_1, r96_2, r96_5, r96_6, r96_7, r96_9, r96_10, r96_11, r96_12, r96_15, r96_16, r96_17, r96_18, r96_19, r96_20, r96_23, r96_24, r96_25, r96_26, r96_29, r96_30, r96_31, r96_34, r96_35, r96_38, r96_40, r96_41, r96_42, r96_43, r96_46, r96_47, r96_48, r96_49, r96_50, r96_52, r96_55, r96_56, r96_59, r96_60, gt_157_18, gt_157_19, gt_157_22, gt_157_4, gt_157_5, rd_176, rd_177, rd_180, rd_162, rd_163, hg, hm, ha, hn, h1a, h1b, false_and]
    rfl
