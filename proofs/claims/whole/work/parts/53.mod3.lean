/-! ===== the reference: resume, remove, allRead ===== -/
theorem mCatch_01 (M : Nat → Nat → Int32) (i : Nat) : mCatch M i = 0 ∨ mCatch M i = 1 := by
  unfold mCatch
  split
  · exact Or.inr rfl
  · exact Or.inl rfl
def mResume (M : Nat → Nat → Int32) (i : Nat) (v code : Int32) : Nat → Nat → Int32 :=
  mQueue (u2 (u2 (u2 (if 0 < code then u2 (u2 M 21 i (-code)) 22 i (M 22 i + 1) else u2 M 21 i v) 23 i 1) 24 i (-1)) 25 i 0) (M 17 i)
theorem t95f {X : Nat × (Nat → Int32)} {d : Nat} {I : Nat → Nat → Int32} {P : Nat → Nat → Option Nat} {M : Nat → Nat → Int32} {i : Nat} {v code : Int32} (hi : i < 30) (hr : okR M i) (hl : okL M) (h0 : 0 < code) (hc : mCatch M i = 0) (hd : 2 ≤ d) : jv_F gw X d 95 [.ref 157, .int (nI i), .int v, .int code] (he I P M) = some (some (.int 0), he I P M) := by
  obtain ⟨d, rfl⟩ : ∃ q, d = q + 1 := ⟨d - 1, by omega⟩
  rw [e95]
  have h0' : ¬ code ≤ 0 := Int32.not_le.mpr h0
  simp (disch := first | decide | omega | assumption | (simp (disch := decide) only [u2_ne, u2_same, mQueue]; assumption)) only [kV_some, kI_some, kR_some, kR_any, kH_some, kC_none, kC_some, jv_rsv_ref, jv_rsv_rf, jv_nz_ref, jv_nz_null, jv_nz_rf0, jv_nz_rf1, jv_rq_r1, jv_rq_r0, n10, n11, n00, Option.bind_some, Option.bind_none, jv_isr_ref, jv_isr_rf, jv_isr_null, va_rf_some, va_rf_none, jv_cat1_int, jv_cat1_ref, jv_cat1_rf, if_true, if_false, eq_self, Option.toList_some, Option.toList_none, List.cons_append, List.nil_append, Bool.and_self, Bool.and_true, i32_10, i32_01, i32_80, nI_div8, nI_mul4, nI_mul8, nI_mul32, nI_add, ↓reduceIte, u2_ne, u2_same, r95_0, r95_1, r95_4, r95_5, r95_6, r95_9, r95_12, r95_13, r95_14, r95_15, r95_18, r95_19, r95_20, r95_23, r95_24, r95_25, r95_28, r95_29, r95_30, r95_31, r95_34, r95_35, r95_38, r95_39, r95_40, r95_41, r95_42, r95_43, r95_44, r95_45, r95_48, r95_49, r95_50, r95_51, r95_52, r95_55, r95_56, r95_57, r95_58, r95_59, r95_62, r95_63, r95_64, r95_65, r95_66, r95_67, r95_70, r95_71, r95_72, r95_75, r95_76, ic_157, t96 hi hr hl, h0', hc, or_false, true_or]
theorem t95t {X : Nat × (Nat → Int32)} {d : Nat} {I : Nat → Nat → Int32} {P : Nat → Nat → Option Nat} {M : Nat → Nat → Int32} {i W : Nat} {v code : Int32} (hi : i < 30) (hr : okR M i) (hl : okL M) (hW : M 31 0 = nI W) (h64 : W < 64) (h0 : 0 < code → mCatch M i = 1) (hd : 2 ≤ d) : jv_F gw X d 95 [.ref 157, .int (nI i), .int v, .int code] (he I P M) = some (some (.int 1), he I P (mResume M i v code)) := by
  obtain ⟨d, rfl⟩ : ∃ q, d = q + 1 := ⟨d - 1, by omega⟩
  rw [e95]
  have hq : ∀ (M2 : Nat → Nat → Int32) (x : Int32), M2 31 0 = nI W → jv_F gw X d 90 [.ref 157, .int x] (he I P M2) = some (none, he I P (mQueue M2 x)) := fun M2 x h => t90 h h64 (by omega)
  unfold mResume
  by_cases h1 : 0 < code
  · have h1' : ¬ code ≤ 0 := Int32.not_le.mpr h1
    have hc := h0 h1
    simp (disch := first | decide | omega | assumption | (simp (disch := decide) only [u2_ne, u2_same, mQueue]; assumption)) only [kV_some, kI_some, kR_some, kR_any, kH_some, kC_none, kC_some, jv_rsv_ref, jv_rsv_rf, jv_nz_ref, jv_nz_null, jv_nz_rf0, jv_nz_rf1, jv_rq_r1, jv_rq_r0, n10, n11, n00, Option.bind_some, Option.bind_none, jv_isr_ref, jv_isr_rf, jv_isr_null, va_rf_some, va_rf_none, jv_cat1_int, jv_cat1_ref, jv_cat1_rf, if_true, if_false, eq_self, Option.toList_some, Option.toList_none, List.cons_append, List.nil_append, Bool.and_self, Bool.and_true, i32_10, i32_01, i32_80, nI_div8, nI_mul4, nI_mul8, nI_mul32, nI_add, ↓reduceIte, u2_ne, u2_same, r95_0, r95_1, r95_4, r95_5, r95_6, r95_9, r95_12, r95_13, r95_14, r95_15, r95_18, r95_19, r95_20, r95_23, r95_24, r95_25, r95_28, r95_29, r95_30, r95_31, r95_34, r95_35, r95_38, r95_39, r95_40, r95_41, r95_42, r95_43, r95_44, r95_45, r95_48, r95_49, r95_50, r95_51, r95_52, r95_55, r95_56, r95_57, r95_58, r95_59, r95_62, r95_63, r95_64, r95_65, r95_66, r95_67, r95_70, r95_71, r95_72, r95_75, r95_76, ic_157, t96 hi hr hl, h1, h1', hc, gt_157_21, gt_157_22, gt_157_23, gt_157_24, gt_157_25, gt_157_17, rd_180, rd_175, wr_179, wr_180, wr_181, wr_182, wr_183, hq, hW, or_true]
  · have h1' : code ≤ 0 := Int32.not_lt.mp h1
    simp (disch := first | decide | omega | assumption | (simp (disch := decide) only [u2_ne, u2_same, mQueue]; assumption)) only [kV_some, kI_some, kR_some, kR_any, kH_some, kC_none, kC_some, jv_rsv_ref, jv_rsv_rf, jv_nz_ref, jv_nz_null, jv_nz_rf0, jv_nz_rf1, jv_rq_r1, jv_rq_r0, n10, n11, n00, Option.bind_some, Option.bind_none, jv_isr_ref, jv_isr_rf, jv_isr_null, va_rf_some, va_rf_none, jv_cat1_int, jv_cat1_ref, jv_cat1_rf, if_true, if_false, eq_self, Option.toList_some, Option.toList_none, List.cons_append, List.nil_append, Bool.and_self, Bool.and_true, i32_10, i32_01, i32_80, nI_div8, nI_mul4, nI_mul8, nI_mul32, nI_add, ↓reduceIte, u2_ne, u2_same, r95_0, r95_1, r95_4, r95_5, r95_6, r95_9, r95_12, r95_13, r95_14, r95_15, r95_18, r95_19, r95_20, r95_23, r95_24, r95_25, r95_28, r95_29, r95_30, r95_31, r95_34, r95_35, r95_38, r95_39, r95_40, r95_41, r95_42, r95_43, r95_44, r95_45, r95_48, r95_49, r95_50, r95_51, r95_52, r95_55, r95_56, r95_57, r95_58, r95_59, r95_62, r95_63, r95_64, r95_65, r95_66, r95_67, r95_70, r95_71, r95_72, r95_75, r95_76, ic_157, h1, h1', gt_157_21, gt_157_22, gt_157_23, gt_157_24, gt_157_25, gt_157_17, rd_180, rd_175, wr_179, wr_180, wr_181, wr_182, wr_183, hq, hW, or_true]
/-- remove(i): the rows of requests behind i move up -/
def mSh (M : Nat → Nat → Int32) (i k : Nat) : Nat → Nat → Int32 := fun f j => if 17 ≤ f ∧ f ≤ 27 ∧ i ≤ j ∧ j < k then M f (j + 1) else M f j
theorem mSh_0 (M : Nat → Nat → Int32) (i : Nat) : mSh M i i = M := by
  funext f j
  unfold mSh
  rw [if_neg (by omega)]
theorem mSh_hi {M : Nat → Nat → Int32} {i k f j : Nat} (h : k ≤ j) : mSh M i k f j = M f j := by
  unfold mSh
  rw [if_neg (by omega)]
theorem mSh_28 {M : Nat → Nat → Int32} {i k f j : Nat} (h : 27 < f) : mSh M i k f j = M f j := by
  unfold mSh
  rw [if_neg (by omega)]
theorem mSh_s {M : Nat → Nat → Int32} {i k : Nat} (h : i ≤ k) : u2 (u2 (u2 (u2 (u2 (u2 (u2 (u2 (u2 (u2 (u2 (mSh M i k) 17 k (M 17 (k + 1))) 18 k (M 18 (k + 1))) 19 k (M 19 (k + 1))) 20 k (M 20 (k + 1))) 21 k (M 21 (k + 1))) 22 k (M 22 (k + 1))) 23 k (M 23 (k + 1))) 24 k (M 24 (k + 1))) 25 k (M 25 (k + 1))) 26 k (M 26 (k + 1))) 27 k (M 27 (k + 1)) = mSh M i (k + 1) := by
  funext f j
  by_cases hf : 17 ≤ f ∧ f ≤ 27
  · have hf2 : f = 17 ∨ f = 18 ∨ f = 19 ∨ f = 20 ∨ f = 21 ∨ f = 22 ∨ f = 23 ∨ f = 24 ∨ f = 25 ∨ f = 26 ∨ f = 27 := by omega
    by_cases hj : j = k
    · subst hj
      rcases hf2 with rfl | rfl | rfl | rfl | rfl | rfl | rfl | rfl | rfl | rfl | rfl <;> simp [u2_ne, u2_same, mSh, h]
    · have e : (i ≤ j ∧ j < k + 1) ↔ (i ≤ j ∧ j < k) := by omega
      rcases hf2 with rfl | rfl | rfl | rfl | rfl | rfl | rfl | rfl | rfl | rfl | rfl <;> simp [u2_ne, u2_at, hj, mSh, e]
  · have g : ∀ q, 17 ≤ q → q ≤ 27 → f ≠ q := by omega
    have e1 : ¬ (17 ≤ f ∧ f ≤ 27 ∧ i ≤ j ∧ j < k + 1) := by omega
    have e2 : ¬ (17 ≤ f ∧ f ≤ 27 ∧ i ≤ j ∧ j < k) := by omega
    rw [u2_ne (g 27 (by omega) (by omega)), u2_ne (g 26 (by omega) (by omega)), u2_ne (g 25 (by omega) (by omega)), u2_ne (g 24 (by omega) (by omega)), u2_ne (g 23 (by omega) (by omega)), u2_ne (g 22 (by omega) (by omega)), u2_ne (g 21 (by omega) (by omega)), u2_ne (g 20 (by omega) (by omega)), u2_ne (g 19 (by omega) (by omega)), u2_ne (g 18 (by omega) (by omega)), u2_ne (g 17 (by omega) (by omega))]
    unfold mSh
    rw [if_neg e1, if_neg e2]
def mRemove (M : Nat → Nat → Int32) (i R : Nat) : Nat → Nat → Int32 := mSh (u2 M 28 0 (nI (R - 1))) i (R - 1)
set_option maxHeartbeats 4000000 in
theorem s93l {X : Nat × (Nat → Int32)} {d : Nat} {I : Nat → Nat → Int32} {P : Nat → Nat → Option Nat} {M : Nat → Nat → Int32} {i R : Nat} (hR : M 28 0 = nI R) (h30 : R < 30) : ∀ (r k : Nat), i ≤ k → k + r = R → jl gw X d 93 12 [some (.ref 157), some (.int (nI i)), some (.int (nI k))] [] (he I P (mSh M i k)) = some (none, he I P (mSh M i R)) := by
  intro r
  induction r with
  | zero =>
    intro k hik hk
    have hk : k = R := by omega
    subst hk
    rw [r93_12]
    simp (disch := first | decide | omega | assumption | (simp (disch := decide) only [u2_ne, u2_same, mQueue]; assumption)) only [kV_some, kI_some, kR_some, kR_any, kH_some, kC_none, kC_some, jv_rsv_ref, jv_rsv_rf, jv_nz_ref, jv_nz_null, jv_nz_rf0, jv_nz_rf1, jv_rq_r1, jv_rq_r0, n10, n11, n00, Option.bind_some, Option.bind_none, jv_isr_ref, jv_isr_rf, jv_isr_null, va_rf_some, va_rf_none, jv_cat1_int, jv_cat1_ref, jv_cat1_rf, if_true, if_false, eq_self, Option.toList_some, Option.toList_none, List.cons_append, List.nil_append, Bool.and_self, Bool.and_true, i32_10, i32_01, i32_80, nI_div8, nI_mul4, nI_mul8, nI_mul32, nI_add, ↓reduceIte, u2_ne, u2_same, r93_0, r93_1, r93_2, r93_5, r93_6, r93_7, r93_10, r93_11, r93_13, r93_14, r93_17, r93_20, r93_21, r93_24, r93_25, r93_26, r93_29, r93_30, r93_31, r93_32, r93_33, r93_34, r93_35, r93_38, r93_39, r93_40, r93_43, r93_44, r93_45, r93_46, r93_47, r93_48, r93_49, r93_52, r93_53, r93_54, r93_57, r93_58, r93_59, r93_60, r93_61, r93_62, r93_63, r93_66, r93_67, r93_68, r93_71, r93_72, r93_73, r93_74, r93_75, r93_76, r93_77, r93_80, r93_81, r93_82, r93_85, r93_86, r93_87, r93_88, r93_89, r93_90, r93_91, r93_94, r93_95, r93_96, r93_99, r93_100, r93_101, r93_102, r93_103, r93_104, r93_105, r93_108, r93_109, r93_110, r93_113, r93_114, r93_115, r93_116, r93_117, r93_118, r93_119, r93_122, r93_123, r93_124, r93_127, r93_128, r93_129, r93_130, r93_131, r93_132, r93_133, r93_136, r93_137, r93_138, r93_141, r93_142, r93_143, r93_144, r93_145, r93_146, r93_147, r93_150, r93_151, r93_152, r93_155, r93_156, r93_157, r93_158, r93_159, r93_160, r93_161, r93_164, r93_165, r93_166, r93_169, r93_170, r93_171, r93_172, r93_173, r93_174, r93_177, r93_180, gt_157_28, mSh_28, hR, Int32.le_refl]
  | succ r ih =>
    intro k hik hk
    have h1 : ¬ nI R ≤ nI k := nI_ge (by omega) (by omega)
    have hh : ∀ f, mSh M i k f (k + 1) = M f (k + 1) := fun f => mSh_hi (by omega)
    rw [r93_12]
    simp (disch := first | decide | omega | assumption | (simp (disch := decide) only [u2_ne, u2_same, mQueue]; assumption)) only [kV_some, kI_some, kR_some, kR_any, kH_some, kC_none, kC_some, jv_rsv_ref, jv_rsv_rf, jv_nz_ref, jv_nz_null, jv_nz_rf0, jv_nz_rf1, jv_rq_r1, jv_rq_r0, n10, n11, n00, Option.bind_some, Option.bind_none, jv_isr_ref, jv_isr_rf, jv_isr_null, va_rf_some, va_rf_none, jv_cat1_int, jv_cat1_ref, jv_cat1_rf, if_true, if_false, eq_self, Option.toList_some, Option.toList_none, List.cons_append, List.nil_append, Bool.and_self, Bool.and_true, i32_10, i32_01, i32_80, nI_div8, nI_mul4, nI_mul8, nI_mul32, nI_add, ↓reduceIte, u2_ne, u2_same, r93_0, r93_1, r93_2, r93_5, r93_6, r93_7, r93_10, r93_11, r93_13, r93_14, r93_17, r93_20, r93_21, r93_24, r93_25, r93_26, r93_29, r93_30, r93_31, r93_32, r93_33, r93_34, r93_35, r93_38, r93_39, r93_40, r93_43, r93_44, r93_45, r93_46, r93_47, r93_48, r93_49, r93_52, r93_53, r93_54, r93_57, r93_58, r93_59, r93_60, r93_61, r93_62, r93_63, r93_66, r93_67, r93_68, r93_71, r93_72, r93_73, r93_74, r93_75, r93_76, r93_77, r93_80, r93_81, r93_82, r93_85, r93_86, r93_87, r93_88, r93_89, r93_90, r93_91, r93_94, r93_95, r93_96, r93_99, r93_100, r93_101, r93_102, r93_103, r93_104, r93_105, r93_108, r93_109, r93_110, r93_113, r93_114, r93_115, r93_116, r93_117, r93_118, r93_119, r93_122, r93_123, r93_124, r93_127, r93_128, r93_129, r93_130, r93_131, r93_132, r93_133, r93_136, r93_137, r93_138, r93_141, r93_142, r93_143, r93_144, r93_145, r93_146, r93_147, r93_150, r93_151, r93_152, r93_155, r93_156, r93_157, r93_158, r93_159, r93_160, r93_161, r93_164, r93_165, r93_166, r93_169, r93_170, r93_171, r93_172, r93_173, r93_174, r93_177, r93_180, gt_157_28, mSh_28, hR, h1, gt_157_17, gt_157_18, gt_157_19, gt_157_20, gt_157_21, gt_157_22, gt_157_23, gt_157_24, gt_157_25, gt_157_26, gt_157_27, rd_175, rd_176, rd_177, rd_178, rd_179, rd_180, rd_181, rd_182, rd_183, rd_184, rd_185, wr_175, wr_176, wr_177, wr_178, wr_179, wr_180, wr_181, wr_182, wr_183, wr_184, wr_185, nI_1, hh]
    rw [mSh_s hik]
    exact ih (k + 1) (by omega) (by omega)
theorem t93 {X : Nat × (Nat → Int32)} {d : Nat} {I : Nat → Nat → Int32} {P : Nat → Nat → Option Nat} {M : Nat → Nat → Int32} {i R : Nat} (hR : M 28 0 = nI R) (h30 : R ≤ 30) (hi : i < R) (hd : 1 ≤ d) : jv_F gw X d 93 [.ref 157, .int (nI i)] (he I P M) = some (none, he I P (mRemove M i R)) := by
  obtain ⟨d, rfl⟩ : ∃ q, d = q + 1 := ⟨d - 1, by omega⟩
  rw [e93]
  have hp : nI R - 1 = nI (R - 1) := by
    obtain ⟨q, rfl⟩ : ∃ q, R = q + 1 := ⟨R - 1, by omega⟩
    exact nI_pred q
  simp (disch := first | decide | omega | assumption | (simp (disch := decide) only [u2_ne, u2_same, mQueue]; assumption)) only [kV_some, kI_some, kR_some, kR_any, kH_some, kC_none, kC_some, jv_rsv_ref, jv_rsv_rf, jv_nz_ref, jv_nz_null, jv_nz_rf0, jv_nz_rf1, jv_rq_r1, jv_rq_r0, n10, n11, n00, Option.bind_some, Option.bind_none, jv_isr_ref, jv_isr_rf, jv_isr_null, va_rf_some, va_rf_none, jv_cat1_int, jv_cat1_ref, jv_cat1_rf, if_true, if_false, eq_self, Option.toList_some, Option.toList_none, List.cons_append, List.nil_append, Bool.and_self, Bool.and_true, i32_10, i32_01, i32_80, nI_div8, nI_mul4, nI_mul8, nI_mul32, nI_add, ↓reduceIte, u2_ne, u2_same, r93_0, r93_1, r93_2, r93_5, r93_6, r93_7, r93_10, r93_11, r93_13, r93_14, r93_17, r93_20, r93_21, r93_24, r93_25, r93_26, r93_29, r93_30, r93_31, r93_32, r93_33, r93_34, r93_35, r93_38, r93_39, r93_40, r93_43, r93_44, r93_45, r93_46, r93_47, r93_48, r93_49, r93_52, r93_53, r93_54, r93_57, r93_58, r93_59, r93_60, r93_61, r93_62, r93_63, r93_66, r93_67, r93_68, r93_71, r93_72, r93_73, r93_74, r93_75, r93_76, r93_77, r93_80, r93_81, r93_82, r93_85, r93_86, r93_87, r93_88, r93_89, r93_90, r93_91, r93_94, r93_95, r93_96, r93_99, r93_100, r93_101, r93_102, r93_103, r93_104, r93_105, r93_108, r93_109, r93_110, r93_113, r93_114, r93_115, r93_116, r93_117, r93_118, r93_119, r93_122, r93_123, r93_124, r93_127, r93_128, r93_129, r93_130, r93_131, r93_132, r93_133, r93_136, r93_137, r93_138, r93_141, r93_142, r93_143, r93_144, r93_145, r93_146, r93_147, r93_150, r93_151, r93_152, r93_155, r93_156, r93_157, r93_158, r93_159, r93_160, r93_161, r93_164, r93_165, r93_166, r93_169, r93_170, r93_171, r93_172, r93_173, r93_174, r93_177, r93_180, gt_157_28, hR, pt_157_28, hp]
  have h := s93l (X := X) (d := d) (I := I) (P := P) (M := u2 M 28 0 (nI (R - 1))) (i := i) (R := R - 1) u2_same (by omega) (R - 1 - i) i (Nat.le_refl _) (by omega)
  rw [mSh_0] at h
  exact h
/-- allRead(g) -/
def mAllR (M : Nat → Nat → Int32) (g : Nat) : Nat → Nat → Int32
  | 0, _ => 1
  | r + 1, i => if M 18 i = nI g ∧ ¬ M 23 i = 0 ∧ M 3 (4 * (g / 8) + nn (M 19 i)) = 0 then 0 else mAllR M g r (i + 1)
def okA (M : Nat → Nat → Int32) (R : Nat) : Prop := ∀ i, i < R → okR M i
theorem s89l {X : Nat × (Nat → Int32)} {d : Nat} {I : Nat → Nat → Int32} {P : Nat → Nat → Option Nat} {M : Nat → Nat → Int32} {g R : Nat} (hg : g < 32) (hR : M 28 0 = nI R) (h30 : R ≤ 30) (hA : okA M R) : ∀ (r i : Nat), i + r = R → jl gw X d 89 2 [some (.ref 157), some (.int (nI g)), some (.int (nI i))] [] (he I P M) = some (some (.int (mAllR M g r i)), he I P M) := by
  intro r
  induction r with
  | zero =>
    intro i hi
    have hi : i = R := by omega
    subst hi
    rw [r89_2]
    simp (disch := first | decide | omega | assumption | (simp (disch := decide) only [u2_ne, u2_same, mQueue]; assumption)) only [kV_some, kI_some, kR_some, kR_any, kH_some, kC_none, kC_some, jv_rsv_ref, jv_rsv_rf, jv_nz_ref, jv_nz_null, jv_nz_rf0, jv_nz_rf1, jv_rq_r1, jv_rq_r0, n10, n11, n00, Option.bind_some, Option.bind_none, jv_isr_ref, jv_isr_rf, jv_isr_null, va_rf_some, va_rf_none, jv_cat1_int, jv_cat1_ref, jv_cat1_rf, if_true, if_false, eq_self, Option.toList_some, Option.toList_none, List.cons_append, List.nil_append, Bool.and_self, Bool.and_true, i32_10, i32_01, i32_80, nI_div8, nI_mul4, nI_mul8, nI_mul32, nI_add, ↓reduceIte, u2_ne, u2_same, r89_0, r89_1, r89_3, r89_4, r89_7, r89_10, r89_11, r89_14, r89_15, r89_16, r89_17, r89_20, r89_21, r89_24, r89_25, r89_26, r89_29, r89_30, r89_33, r89_34, r89_35, r89_37, r89_38, r89_39, r89_40, r89_43, r89_44, r89_45, r89_46, r89_47, r89_50, r89_51, r89_52, r89_55, r89_58, r89_59, gt_157_28, hR, Int32.le_refl, mAllR, or_true]
  | succ r ih =>
    intro i hi
    have h1 : ¬ nI R ≤ nI i := nI_ge (by omega) (by omega)
    obtain ⟨g2, m, a, hg2, hg22, hm, hm2, ha, ha2⟩ := hA i (by omega)
    have hmn : nn (M 19 i) = m := by rw [hm, nn_nI (by omega)]
    rw [r89_2]
    by_cases c1 : M 18 i = nI g
    · by_cases c2 : M 23 i = 0
      · simp (disch := first | decide | omega | assumption | (simp (disch := decide) only [u2_ne, u2_same, mQueue]; assumption)) only [kV_some, kI_some, kR_some, kR_any, kH_some, kC_none, kC_some, jv_rsv_ref, jv_rsv_rf, jv_nz_ref, jv_nz_null, jv_nz_rf0, jv_nz_rf1, jv_rq_r1, jv_rq_r0, n10, n11, n00, Option.bind_some, Option.bind_none, jv_isr_ref, jv_isr_rf, jv_isr_null, va_rf_some, va_rf_none, jv_cat1_int, jv_cat1_ref, jv_cat1_rf, if_true, if_false, eq_self, Option.toList_some, Option.toList_none, List.cons_append, List.nil_append, Bool.and_self, Bool.and_true, i32_10, i32_01, i32_80, nI_div8, nI_mul4, nI_mul8, nI_mul32, nI_add, ↓reduceIte, u2_ne, u2_same, r89_0, r89_1, r89_3, r89_4, r89_7, r89_10, r89_11, r89_14, r89_15, r89_16, r89_17, r89_20, r89_21, r89_24, r89_25, r89_26, r89_29, r89_30, r89_33, r89_34, r89_35, r89_37, r89_38, r89_39, r89_40, r89_43, r89_44, r89_45, r89_46, r89_47, r89_50, r89_51, r89_52, r89_55, r89_58, r89_59, gt_157_28, hR, h1, gt_157_18, gt_157_23, rd_176, rd_181, c1, c2, nI_1, mAllR, true_and, not_true_eq_false, false_and]
        exact ih (i + 1) (by omega)
      · by_cases c3 : M 3 (4 * (g / 8) + m) = 0
        · simp (disch := first | decide | omega | assumption | (simp (disch := decide) only [u2_ne, u2_same, mQueue]; assumption)) only [kV_some, kI_some, kR_some, kR_any, kH_some, kC_none, kC_some, jv_rsv_ref, jv_rsv_rf, jv_nz_ref, jv_nz_null, jv_nz_rf0, jv_nz_rf1, jv_rq_r1, jv_rq_r0, n10, n11, n00, Option.bind_some, Option.bind_none, jv_isr_ref, jv_isr_rf, jv_isr_null, va_rf_some, va_rf_none, jv_cat1_int, jv_cat1_ref, jv_cat1_rf, if_true, if_false, eq_self, Option.toList_some, Option.toList_none, List.cons_append, List.nil_append, Bool.and_self, Bool.and_true, i32_10, i32_01, i32_80, nI_div8, nI_mul4, nI_mul8, nI_mul32, nI_add, ↓reduceIte, u2_ne, u2_same, r89_0, r89_1, r89_3, r89_4, r89_7, r89_10, r89_11, r89_14, r89_15, r89_16, r89_17, r89_20, r89_21, r89_24, r89_25, r89_26, r89_29, r89_30, r89_33, r89_34, r89_35, r89_37, r89_38, r89_39, r89_40, r89_43, r89_44, r89_45, r89_46, r89_47, r89_50, r89_51, r89_52, r89_55, r89_58, r89_59, gt_157_28, hR, h1, gt_157_18, gt_157_23, gt_157_3, gt_157_19, rd_176, rd_181, rd_161, rd_177, hm, c1, c2, c3, nI_1, mAllR, hmn, true_and, not_false_eq_true, and_self, true_or]
          simp [nn_nI (show m < 2 ^ 31 by omega), c3]
        · simp (disch := first | decide | omega | assumption | (simp (disch := decide) only [u2_ne, u2_same, mQueue]; assumption)) only [kV_some, kI_some, kR_some, kR_any, kH_some, kC_none, kC_some, jv_rsv_ref, jv_rsv_rf, jv_nz_ref, jv_nz_null, jv_nz_rf0, jv_nz_rf1, jv_rq_r1, jv_rq_r0, n10, n11, n00, Option.bind_some, Option.bind_none, jv_isr_ref, jv_isr_rf, jv_isr_null, va_rf_some, va_rf_none, jv_cat1_int, jv_cat1_ref, jv_cat1_rf, if_true, if_false, eq_self, Option.toList_some, Option.toList_none, List.cons_append, List.nil_append, Bool.and_self, Bool.and_true, i32_10, i32_01, i32_80, nI_div8, nI_mul4, nI_mul8, nI_mul32, nI_add, ↓reduceIte, u2_ne, u2_same, r89_0, r89_1, r89_3, r89_4, r89_7, r89_10, r89_11, r89_14, r89_15, r89_16, r89_17, r89_20, r89_21, r89_24, r89_25, r89_26, r89_29, r89_30, r89_33, r89_34, r89_35, r89_37, r89_38, r89_39, r89_40, r89_43, r89_44, r89_45, r89_46, r89_47, r89_50, r89_51, r89_52, r89_55, r89_58, r89_59, gt_157_28, hR, h1, gt_157_18, gt_157_23, gt_157_3, gt_157_19, rd_176, rd_181, rd_161, rd_177, hm, c1, c2, c3, nI_1, mAllR, hmn]
          rw [ih (i + 1) (by omega)]
          simp [nn_nI (show m < 2 ^ 31 by omega), c3]
    · simp (disch := first | decide | omega | assumption | (simp (disch := decide) only [u2_ne, u2_same, mQueue]; assumption)) only [kV_some, kI_some, kR_some, kR_any, kH_some, kC_none, kC_some, jv_rsv_ref, jv_rsv_rf, jv_nz_ref, jv_nz_null, jv_nz_rf0, jv_nz_rf1, jv_rq_r1, jv_rq_r0, n10, n11, n00, Option.bind_some, Option.bind_none, jv_isr_ref, jv_isr_rf, jv_isr_null, va_rf_some, va_rf_none, jv_cat1_int, jv_cat1_ref, jv_cat1_rf, if_true, if_false, eq_self, Option.toList_some, Option.toList_none, List.cons_append, List.nil_append, Bool.and_self, Bool.and_true, i32_10, i32_01, i32_80, nI_div8, nI_mul4, nI_mul8, nI_mul32, nI_add, ↓reduceIte, u2_ne, u2_same, r89_0, r89_1, r89_3, r89_4, r89_7, r89_10, r89_11, r89_14, r89_15, r89_16, r89_17, r89_20, r89_21, r89_24, r89_25, r89_26, r89_29, r89_30, r89_33, r89_34, r89_35, r89_37, r89_38, r89_39, r89_40, r89_43, r89_44, r89_45, r89_46, r89_47, r89_50, r89_51, r89_52, r89_55, r89_58, r89_59, gt_157_28, hR, h1, gt_157_18, rd_176, c1, nI_1, mAllR, false_and]
      exact ih (i + 1) (by omega)
theorem t89 {X : Nat × (Nat → Int32)} {d : Nat} {I : Nat → Nat → Int32} {P : Nat → Nat → Option Nat} {M : Nat → Nat → Int32} {g R : Nat} (hg : g < 32) (hR : M 28 0 = nI R) (h30 : R ≤ 30) (hA : okA M R) (hd : 1 ≤ d) : jv_F gw X d 89 [.ref 157, .int (nI g)] (he I P M) = some (some (.int (mAllR M g R 0)), he I P M) := by
  obtain ⟨d, rfl⟩ : ∃ q, d = q + 1 := ⟨d - 1, by omega⟩
  rw [e89]
  simp (disch := first | decide | omega | assumption | (simp (disch := decide) only [u2_ne, u2_same, mQueue]; assumption)) only [kV_some, kI_some, kR_some, kR_any, kH_some, kC_none, kC_some, jv_rsv_ref, jv_rsv_rf, jv_nz_ref, jv_nz_null, jv_nz_rf0, jv_nz_rf1, jv_rq_r1, jv_rq_r0, n10, n11, n00, Option.bind_some, Option.bind_none, jv_isr_ref, jv_isr_rf, jv_isr_null, va_rf_some, va_rf_none, jv_cat1_int, jv_cat1_ref, jv_cat1_rf, if_true, if_false, eq_self, Option.toList_some, Option.toList_none, List.cons_append, List.nil_append, Bool.and_self, Bool.and_true, i32_10, i32_01, i32_80, nI_div8, nI_mul4, nI_mul8, nI_mul32, nI_add, ↓reduceIte, u2_ne, u2_same, r89_0, r89_1, r89_3, r89_4, r89_7, r89_10, r89_11, r89_14, r89_15, r89_16, r89_17, r89_20, r89_21, r89_24, r89_25, r89_26, r89_29, r89_30, r89_33, r89_34, r89_35, r89_37, r89_38, r89_39, r89_40, r89_43, r89_44, r89_45, r89_46, r89_47, r89_50, r89_51, r89_52, r89_55, r89_58, r89_59]
  exact s89l hg hR h30 hA R 0 (by omega)
