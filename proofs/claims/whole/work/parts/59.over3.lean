/-! ===== the reference: over, the grains behind ===== -/
theorem mReady_ne {M : Nat → Nat → Int32} {i f : Nat} (h1 : f ≠ 30) (h2 : f ≠ 31) (h3 : f ≠ 23) : mReady M i f = M f := by funext j; exact mReady_at h1 h2 h3
theorem mLook_at {g R f : Nat} (h1 : f ≠ 30) (h2 : f ≠ 31) (h3 : f ≠ 23) : ∀ (r i : Nat) (M : Nat → Nat → Int32), mLook g R r i M f = M f
  | 0, _, _ => rfl
  | r + 1, i, M => by
    by_cases hz : M 18 i = nI g ∧ M 23 i = 0 ∧ mLookC M g R i
    · rw [mLook_t hz, mLook_at h1 h2 h3 r (i + 1), mReady_ne h1 h2 h3]
    · rw [mLook_f hz, mLook_at h1 h2 h3 r (i + 1)]
theorem mLooked_at {M : Nat → Nat → Int32} {g R f : Nat} (h1 : f ≠ 30) (h2 : f ≠ 31) (h3 : f ≠ 23) : mLooked M g R f = M f := by
  unfold mLooked
  split
  · exact mLook_at h1 h2 h3 R 0 M
  · rfl
theorem mLeave_at {M : Nat → Nat → Int32} {g f : Nat} (h : f ≠ 8 ∧ f ≠ 16 ∧ f ≠ 10 ∧ f ≠ 9 ∧ f ≠ 11) : mLeave M g f = M f := by
  unfold mLeave
  rw [u2_ne h.2.2.2.2, u2_ne h.2.2.2.1, u2_ne h.2.2.1, u2_ne h.2.1, u2_ne h.1]
theorem mSave_at {M : Nat → Nat → Int32} {g f : Nat} (h : f ≠ 12 ∧ f ≠ 13) : mSave M g f = M f := by
  unfold mSave
  rw [u2_ne h.2, u2_ne h.1]
theorem mWorked_at {M : Nat → Nat → Int32} {f : Nat} (h : f ≠ 42) : mWorked M f = M f := by
  unfold mWorked
  split
  · rfl
  · rw [u2_ne h]
theorem mGo_at {M : Nat → Nat → Int32} {g f : Nat} (h : f ≠ 8 ∧ f ≠ 16 ∧ f ≠ 10 ∧ f ≠ 9 ∧ f ≠ 11 ∧ f ≠ 12 ∧ f ≠ 13 ∧ f ≠ 42) : mGo M g f = M f := by
  unfold mGo
  split
  · rw [mLeave_at ⟨h.1, h.2.1, h.2.2.1, h.2.2.2.1, h.2.2.2.2.1⟩]
  · split
    · rw [mLeave_at ⟨h.1, h.2.1, h.2.2.1, h.2.2.2.1, h.2.2.2.2.1⟩, mSave_at ⟨h.2.2.2.2.2.1, h.2.2.2.2.2.2.1⟩]
    · rw [mLeave_at ⟨h.1, h.2.1, h.2.2.1, h.2.2.2.1, h.2.2.2.2.1⟩, mWorked_at h.2.2.2.2.2.2.2]
theorem mLeave_8 {M : Nat → Nat → Int32} {g : Nat} : mLeave M g 8 = va_up (M 8) g 0 := by
  unfold mLeave
  rw [u2_ne (by decide), u2_ne (by decide), u2_ne (by decide), u2_ne (by decide), u2_eq]
theorem mGo_8 {M : Nat → Nat → Int32} {g : Nat} : mGo M g 8 = va_up (M 8) g 0 := by
  unfold mGo
  split
  · exact mLeave_8
  · split
    · rw [mLeave_8, mSave_at (by decide)]
    · rw [mLeave_8, mWorked_at (by decide)]
theorem okM.st0 {M N : Nat → Nat → Int32} {R W K g : Nat} (h : okM M R W K) (hg : g < 32) (h8 : ¬ M 8 g = 1) (e8 : N 8 = va_up (M 8) g 0) (ht : ∀ f, f = 28 ∨ f = 31 ∨ f = 18 ∨ f = 19 ∨ f = 22 ∨ f = 4 ∨ f = 26 ∨ f = 23 → N f = M f) : okM N R W K := by
  have hc := h.2.2.2.2.2.2.1
  refine h.of (by rw [ht 28 (by omega)]) (by rw [ht 31 (by omega)]; exact h.2.2.1) (fun j _ => by rw [ht 18 (by omega)]) (fun j _ => by rw [ht 19 (by omega)]) (fun j _ => Or.inl (by rw [ht 22 (by omega)])) (ht 4 (by omega)) (fun j _ => Or.inl (by rw [ht 26 (by omega)])) ?_
  have := cnt_up (f := M 8) (x := 1) (v := 0) (k := g) 32 0 (Nat.zero_le _) (by omega)
  rw [if_neg h8, if_neg (by decide)] at this
  rw [e8, ht 23 (by omega)]
  omega
theorem okM.go {M : Nat → Nat → Int32} {R W K g : Nat} (h : okM M R W K) (hg : g < 32) (h8 : ¬ M 8 g = 1) : okM (mGo M g) R W K := h.st0 hg h8 mGo_8 (fun f hf => mGo_at (by omega))
noncomputable def mSettle (M : Nat → Nat → Int32) (g R : Nat) : Nat → Nat → Int32 := if mLooked M g R 8 g = 2 ∧ ¬ mLooked M g R 16 g = 0 ∧ mEmpty (mLooked M g R) (nI g) R = 1 then mGo (mLooked M g R) g else mLooked M g R
noncomputable def mSettleL (R : Nat) : Nat → (Nat → Nat → Int32) → (Nat → Nat → Int32)
  | 0, M => M
  | k + 1, M => mSettleL R k (mSettle M (nn (M 43 k)) R)
theorem okM.settle {M : Nat → Nat → Int32} {R W K g : Nat} (h : okM M R W K) (hg : g < 32) : ∃ W', okM (mSettle M g R) R W' K := by
  obtain ⟨W', h'⟩ := h.looked (g := g)
  unfold mSettle
  split
  · rename_i hz
    exact ⟨W', h'.go hg (by rw [hz.1]; decide)⟩
  · exact ⟨W', h'⟩
theorem mSettle_at {M : Nat → Nat → Int32} {g R f : Nat} (h : f ≠ 8 ∧ f ≠ 16 ∧ f ≠ 10 ∧ f ≠ 9 ∧ f ≠ 11 ∧ f ≠ 12 ∧ f ≠ 13 ∧ f ≠ 42) (h1 : f ≠ 30) (h2 : f ≠ 31) (h3 : f ≠ 23) : mSettle M g R f = M f := by
  unfold mSettle
  split
  · rw [mGo_at h, mLooked_at h1 h2 h3]
  · exact mLooked_at h1 h2 h3
def nm (n : Nat) : Int32 := match n with
  | 0 => -1
  | n + 1 => nI n
theorem nm_m (n : Nat) : nI n + -1 = nm n := by
  cases n with
  | zero => rfl
  | succ n => exact pk_m1 n
theorem mEmpty_01 {M : Nat → Nat → Int32} {g : Int32} {R : Nat} : mEmpty M g R = 0 ∨ mEmpty M g R = 1 := by
  unfold mEmpty
  split
  · exact Or.inr rfl
  · exact Or.inl rfl
theorem s92b {X : Nat × (Nat → Int32)} {d : Nat} {I : Nat → Nat → Int32} {P : Nat → Nat → Option Nat} {R K : Nat} (hd : 2 ≤ d) : ∀ (n : Nat) (M : Nat → Nat → Int32) (W : Nat), okM M R W K → n < 32 → (∀ k, k < n → ∃ g : Nat, g < 32 ∧ M 43 k = nI g) → ∀ (a1 a2 a3 a4 b6 b7 : Option Value), jl gw X d 92 195 [some (.ref 157), a1, a2, a3, a4, some (.int (nm n)), b6, b7] [] (he I P M) = some (none, he I P (mSettleL R n M)) := by
  intro n
  induction n with
  | zero =>
    intro M W h hn hb a1 a2 a3 a4 b6 b7
    have hm1 : (-1 : Int32) < 0 := by decide
    rw [r92_195]
    simp (disch := first | decide | omega | assumption | (simp (disch := decide) only [u2_ne, u2_same, mQueue]; assumption)) only [kV_some, kI_some, kR_some, kR_any, kH_some, kC_none, kC_some, jv_rsv_ref, jv_rsv_rf, jv_nz_ref, jv_nz_null, jv_nz_rf0, jv_nz_rf1, jv_rq_r1, jv_rq_r0, n10, n11, n00, Option.bind_some, Option.bind_none, jv_isr_ref, jv_isr_rf, jv_isr_null, va_rf_some, va_rf_none, jv_cat1_int, jv_cat1_ref, jv_cat1_rf, if_true, if_false, eq_self, Option.toList_some, Option.toList_none, List.cons_append, List.nil_append, Bool.and_self, Bool.and_true, i32_10, i32_01, i32_80, nI_div8, nI_mul4, nI_mul8, nI_mul32, nI_add, ↓reduceIte, u2_ne, u2_same, r92_0, r92_1, r92_3, r92_4, r92_5, r92_10, r92_13, r92_14, r92_17, r92_19, r92_20, r92_22, r92_23, r92_26, r92_28, r92_29, r92_31, r92_32, r92_35, r92_36, r92_39, r92_40, r92_43, r92_45, r92_46, r92_47, r92_48, r92_49, r92_52, r92_53, r92_54, r92_57, r92_58, r92_60, r92_63, r92_64, r92_66, r92_68, r92_70, r92_73, r92_74, r92_77, r92_79, r92_81, r92_82, r92_83, r92_86, r92_87, r92_90, r92_92, r92_94, r92_95, r92_96, r92_99, r92_100, r92_103, r92_104, r92_105, r92_106, r92_109, r92_111, r92_113, r92_114, r92_115, r92_118, r92_119, r92_122, r92_123, r92_124, r92_126, r92_129, r92_130, r92_132, r92_135, r92_138, r92_139, r92_141, r92_143, r92_146, r92_147, r92_150, r92_152, r92_153, r92_154, r92_157, r92_158, r92_161, r92_163, r92_164, r92_166, r92_169, r92_170, r92_172, r92_173, r92_174, r92_177, r92_180, r92_182, r92_184, r92_187, r92_188, r92_191, r92_192, r92_193, r92_197, r92_200, r92_201, r92_204, r92_206, r92_207, r92_209, r92_210, r92_212, r92_215, r92_216, r92_219, r92_221, r92_222, r92_223, r92_226, r92_227, r92_230, r92_232, r92_233, r92_236, r92_237, r92_239, r92_242, r92_245, r92_246, r92_248, r92_251, r92_254, r92_257, nm, hm1, mSettleL]
  | succ n ih =>
    intro M W h hn hb a1 a2 a3 a4 b6 b7
    obtain ⟨g, hg, hbg⟩ := hb n (by omega)
    have hgn : nn (M 43 n) = g := by rw [hbg, nn_nI (by omega)]
    have p1 : ¬ nI n < 0 := nI_pos (by omega)
    have hlk := u87 (X := X) (d := d) (I := I) (P := P) hg h hd
    obtain ⟨W', h'⟩ := h.looked (g := g)
    obtain ⟨W2, h2⟩ := h.settle (R := R) hg
    have ih' := ih (mSettle M g R) W2 h2 (by omega) (fun k hk => by rw [mSettle_at (by decide) (by decide) (by decide) (by decide)]; exact hb k (by omega))
    have hemp := t97 (X := X) (d := d) (I := I) (P := P) (g := nI g) h'.1 h'.2.1 hd
    have hgo := t98 (X := X) (d := d) (I := I) (P := P) (M := mLooked M g R) hg hd
    rw [mSettleL, hgn]
    rw [r92_195]
    unfold mSettle at ih' ⊢
    by_cases k1 : mLooked M g R 8 g = 2
    · by_cases k2 : mLooked M g R 16 g = 0
      · rw [if_neg (fun z => z.2.1 k2)] at ih' ⊢
        simp (disch := first | decide | omega | assumption | (simp (disch := decide) only [u2_ne, u2_same, mQueue]; assumption)) only [kV_some, kI_some, kR_some, kR_any, kH_some, kC_none, kC_some, jv_rsv_ref, jv_rsv_rf, jv_nz_ref, jv_nz_null, jv_nz_rf0, jv_nz_rf1, jv_rq_r1, jv_rq_r0, n10, n11, n00, Option.bind_some, Option.bind_none, jv_isr_ref, jv_isr_rf, jv_isr_null, va_rf_some, va_rf_none, jv_cat1_int, jv_cat1_ref, jv_cat1_rf, if_true, if_false, eq_self, Option.toList_some, Option.toList_none, List.cons_append, List.nil_append, Bool.and_self, Bool.and_true, i32_10, i32_01, i32_80, nI_div8, nI_mul4, nI_mul8, nI_mul32, nI_add, ↓reduceIte, u2_ne, u2_same, r92_0, r92_1, r92_3, r92_4, r92_5, r92_10, r92_13, r92_14, r92_17, r92_19, r92_20, r92_22, r92_23, r92_26, r92_28, r92_29, r92_31, r92_32, r92_35, r92_36, r92_39, r92_40, r92_43, r92_45, r92_46, r92_47, r92_48, r92_49, r92_52, r92_53, r92_54, r92_57, r92_58, r92_60, r92_63, r92_64, r92_66, r92_68, r92_70, r92_73, r92_74, r92_77, r92_79, r92_81, r92_82, r92_83, r92_86, r92_87, r92_90, r92_92, r92_94, r92_95, r92_96, r92_99, r92_100, r92_103, r92_104, r92_105, r92_106, r92_109, r92_111, r92_113, r92_114, r92_115, r92_118, r92_119, r92_122, r92_123, r92_124, r92_126, r92_129, r92_130, r92_132, r92_135, r92_138, r92_139, r92_141, r92_143, r92_146, r92_147, r92_150, r92_152, r92_153, r92_154, r92_157, r92_158, r92_161, r92_163, r92_164, r92_166, r92_169, r92_170, r92_172, r92_173, r92_174, r92_177, r92_180, r92_182, r92_184, r92_187, r92_188, r92_191, r92_192, r92_193, r92_197, r92_200, r92_201, r92_204, r92_206, r92_207, r92_209, r92_210, r92_212, r92_215, r92_216, r92_219, r92_221, r92_222, r92_223, r92_226, r92_227, r92_230, r92_232, r92_233, r92_236, r92_237, r92_239, r92_242, r92_245, r92_246, r92_248, r92_251, r92_254, r92_257, ic_157, nm, p1, gt_157_43, rd_191, hbg, hlk, gt_157_8, rd_166, k1, gt_157_16, rd_174, k2, nm_m]
        exact ih' _ _ _ _ _ _
      · rcases mEmpty_01 (M := mLooked M g R) (g := nI g) (R := R) with k3 | k3
        · rw [if_neg (fun z => absurd (k3.symm.trans z.2.2) (by decide))] at ih' ⊢
          simp (disch := first | decide | omega | assumption | (simp (disch := decide) only [u2_ne, u2_same, mQueue]; assumption)) only [kV_some, kI_some, kR_some, kR_any, kH_some, kC_none, kC_some, jv_rsv_ref, jv_rsv_rf, jv_nz_ref, jv_nz_null, jv_nz_rf0, jv_nz_rf1, jv_rq_r1, jv_rq_r0, n10, n11, n00, Option.bind_some, Option.bind_none, jv_isr_ref, jv_isr_rf, jv_isr_null, va_rf_some, va_rf_none, jv_cat1_int, jv_cat1_ref, jv_cat1_rf, if_true, if_false, eq_self, Option.toList_some, Option.toList_none, List.cons_append, List.nil_append, Bool.and_self, Bool.and_true, i32_10, i32_01, i32_80, nI_div8, nI_mul4, nI_mul8, nI_mul32, nI_add, ↓reduceIte, u2_ne, u2_same, r92_0, r92_1, r92_3, r92_4, r92_5, r92_10, r92_13, r92_14, r92_17, r92_19, r92_20, r92_22, r92_23, r92_26, r92_28, r92_29, r92_31, r92_32, r92_35, r92_36, r92_39, r92_40, r92_43, r92_45, r92_46, r92_47, r92_48, r92_49, r92_52, r92_53, r92_54, r92_57, r92_58, r92_60, r92_63, r92_64, r92_66, r92_68, r92_70, r92_73, r92_74, r92_77, r92_79, r92_81, r92_82, r92_83, r92_86, r92_87, r92_90, r92_92, r92_94, r92_95, r92_96, r92_99, r92_100, r92_103, r92_104, r92_105, r92_106, r92_109, r92_111, r92_113, r92_114, r92_115, r92_118, r92_119, r92_122, r92_123, r92_124, r92_126, r92_129, r92_130, r92_132, r92_135, r92_138, r92_139, r92_141, r92_143, r92_146, r92_147, r92_150, r92_152, r92_153, r92_154, r92_157, r92_158, r92_161, r92_163, r92_164, r92_166, r92_169, r92_170, r92_172, r92_173, r92_174, r92_177, r92_180, r92_182, r92_184, r92_187, r92_188, r92_191, r92_192, r92_193, r92_197, r92_200, r92_201, r92_204, r92_206, r92_207, r92_209, r92_210, r92_212, r92_215, r92_216, r92_219, r92_221, r92_222, r92_223, r92_226, r92_227, r92_230, r92_232, r92_233, r92_236, r92_237, r92_239, r92_242, r92_245, r92_246, r92_248, r92_251, r92_254, r92_257, ic_157, nm, p1, gt_157_43, rd_191, hbg, hlk, gt_157_8, rd_166, k1, gt_157_16, rd_174, k2, hemp, k3, nm_m]
          exact ih' _ _ _ _ _ _
        · rw [if_pos ⟨k1, k2, k3⟩] at ih' ⊢
          simp (disch := first | decide | omega | assumption | (simp (disch := decide) only [u2_ne, u2_same, mQueue]; assumption)) only [kV_some, kI_some, kR_some, kR_any, kH_some, kC_none, kC_some, jv_rsv_ref, jv_rsv_rf, jv_nz_ref, jv_nz_null, jv_nz_rf0, jv_nz_rf1, jv_rq_r1, jv_rq_r0, n10, n11, n00, Option.bind_some, Option.bind_none, jv_isr_ref, jv_isr_rf, jv_isr_null, va_rf_some, va_rf_none, jv_cat1_int, jv_cat1_ref, jv_cat1_rf, if_true, if_false, eq_self, Option.toList_some, Option.toList_none, List.cons_append, List.nil_append, Bool.and_self, Bool.and_true, i32_10, i32_01, i32_80, nI_div8, nI_mul4, nI_mul8, nI_mul32, nI_add, ↓reduceIte, u2_ne, u2_same, r92_0, r92_1, r92_3, r92_4, r92_5, r92_10, r92_13, r92_14, r92_17, r92_19, r92_20, r92_22, r92_23, r92_26, r92_28, r92_29, r92_31, r92_32, r92_35, r92_36, r92_39, r92_40, r92_43, r92_45, r92_46, r92_47, r92_48, r92_49, r92_52, r92_53, r92_54, r92_57, r92_58, r92_60, r92_63, r92_64, r92_66, r92_68, r92_70, r92_73, r92_74, r92_77, r92_79, r92_81, r92_82, r92_83, r92_86, r92_87, r92_90, r92_92, r92_94, r92_95, r92_96, r92_99, r92_100, r92_103, r92_104, r92_105, r92_106, r92_109, r92_111, r92_113, r92_114, r92_115, r92_118, r92_119, r92_122, r92_123, r92_124, r92_126, r92_129, r92_130, r92_132, r92_135, r92_138, r92_139, r92_141, r92_143, r92_146, r92_147, r92_150, r92_152, r92_153, r92_154, r92_157, r92_158, r92_161, r92_163, r92_164, r92_166, r92_169, r92_170, r92_172, r92_173, r92_174, r92_177, r92_180, r92_182, r92_184, r92_187, r92_188, r92_191, r92_192, r92_193, r92_197, r92_200, r92_201, r92_204, r92_206, r92_207, r92_209, r92_210, r92_212, r92_215, r92_216, r92_219, r92_221, r92_222, r92_223, r92_226, r92_227, r92_230, r92_232, r92_233, r92_236, r92_237, r92_239, r92_242, r92_245, r92_246, r92_248, r92_251, r92_254, r92_257, ic_157, nm, p1, gt_157_43, rd_191, hbg, hlk, gt_157_8, rd_166, k1, gt_157_16, rd_174, k2, hemp, k3, hgo, nm_m]
          exact ih' _ _ _ _ _ _
    · rw [if_neg (fun z => k1 z.1)] at ih' ⊢
      simp (disch := first | decide | omega | assumption | (simp (disch := decide) only [u2_ne, u2_same, mQueue]; assumption)) only [kV_some, kI_some, kR_some, kR_any, kH_some, kC_none, kC_some, jv_rsv_ref, jv_rsv_rf, jv_nz_ref, jv_nz_null, jv_nz_rf0, jv_nz_rf1, jv_rq_r1, jv_rq_r0, n10, n11, n00, Option.bind_some, Option.bind_none, jv_isr_ref, jv_isr_rf, jv_isr_null, va_rf_some, va_rf_none, jv_cat1_int, jv_cat1_ref, jv_cat1_rf, if_true, if_false, eq_self, Option.toList_some, Option.toList_none, List.cons_append, List.nil_append, Bool.and_self, Bool.and_true, i32_10, i32_01, i32_80, nI_div8, nI_mul4, nI_mul8, nI_mul32, nI_add, ↓reduceIte, u2_ne, u2_same, r92_0, r92_1, r92_3, r92_4, r92_5, r92_10, r92_13, r92_14, r92_17, r92_19, r92_20, r92_22, r92_23, r92_26, r92_28, r92_29, r92_31, r92_32, r92_35, r92_36, r92_39, r92_40, r92_43, r92_45, r92_46, r92_47, r92_48, r92_49, r92_52, r92_53, r92_54, r92_57, r92_58, r92_60, r92_63, r92_64, r92_66, r92_68, r92_70, r92_73, r92_74, r92_77, r92_79, r92_81, r92_82, r92_83, r92_86, r92_87, r92_90, r92_92, r92_94, r92_95, r92_96, r92_99, r92_100, r92_103, r92_104, r92_105, r92_106, r92_109, r92_111, r92_113, r92_114, r92_115, r92_118, r92_119, r92_122, r92_123, r92_124, r92_126, r92_129, r92_130, r92_132, r92_135, r92_138, r92_139, r92_141, r92_143, r92_146, r92_147, r92_150, r92_152, r92_153, r92_154, r92_157, r92_158, r92_161, r92_163, r92_164, r92_166, r92_169, r92_170, r92_172, r92_173, r92_174, r92_177, r92_180, r92_182, r92_184, r92_187, r92_188, r92_191, r92_192, r92_193, r92_197, r92_200, r92_201, r92_204, r92_206, r92_207, r92_209, r92_210, r92_212, r92_215, r92_216, r92_219, r92_221, r92_222, r92_223, r92_226, r92_227, r92_230, r92_232, r92_233, r92_236, r92_237, r92_239, r92_242, r92_245, r92_246, r92_248, r92_251, r92_254, r92_257, ic_157, nm, p1, gt_157_43, rd_191, hbg, hlk, gt_157_8, rd_166, k1, nm_m]
      exact ih' _ _ _ _ _ _
/-- over(i, v, code), of R requests -/
noncomputable def mOver (M : Nat → Nat → Int32) (R i : Nat) (v code : Int32) : Nat → Nat → Int32 :=
  mSettleL (nn (mOverL v code R (u2 M 44 0 0) i 0 28 0)) (nn (mOverL v code R (u2 M 44 0 0) i 0 44 0)) (mOverL v code R (u2 M 44 0 0) i 0)
theorem okM.settleL {R K : Nat} : ∀ (n : Nat) (M : Nat → Nat → Int32) (W : Nat), okM M R W K → (∀ k, k < n → ∃ g : Nat, g < 32 ∧ M 43 k = nI g) → ∃ W', okM (mSettleL R n M) R W' K
  | 0, M, W, h, _ => ⟨W, h⟩
  | n + 1, M, W, h, hb => by
    obtain ⟨g, hg, hbg⟩ := hb n (by omega)
    have hgn : nn (M 43 n) = g := by rw [hbg, nn_nI (by omega)]
    obtain ⟨W2, h2⟩ := h.settle (R := R) hg
    rw [mSettleL, hgn]
    exact okM.settleL n _ W2 h2 (fun k hk => by rw [mSettle_at (by decide) (by decide) (by decide) (by decide)]; exact hb k (by omega))
theorem t92 {X : Nat × (Nat → Int32)} {d : Nat} {I : Nat → Nat → Int32} {P : Nat → Nat → Option Nat} {M : Nat → Nat → Int32} {R W i : Nat} {v code : Int32} (h : okM M (R + 1) W (R + 32 + (if M 23 i = 1 then 0 else 1))) (hi : i < R + 1) (hd : 3 ≤ d) : jv_F gw X d 92 [.ref 157, .int (nI i), .int v, .int code] (he I P M) = some (none, he I P (mOver M (R + 1) i v code)) ∧ ∃ R' W', okM (mOver M (R + 1) i v code) R' W' (R' + 32) := by
  obtain ⟨d, rfl⟩ : ∃ q, d = q + 1 := ⟨d - 1, by omega⟩
  have h30 := h.2.1
  have h' : okM (u2 M 44 0 0) (R + 1) W (R + 32 + (if u2 M 44 0 0 23 i = 1 then 0 else 1)) := by
    rw [u2_ne (show (23 : Nat) ≠ 44 by decide)]
    refine h.of (by simp [u2_ne]) (by simp [u2_ne, h.2.2.1]) (fun j _ => by simp [u2_ne]) (fun j _ => by simp [u2_ne]) (fun j _ => Or.inl (by simp [u2_ne])) (by simp [u2_ne]) (fun j _ => Or.inl (by simp [u2_ne])) ?_
    rw [u2_ne (show (23 : Nat) ≠ 44 by decide), u2_ne (show (8 : Nat) ≠ 44 by decide)]
    exact h.2.2.2.2.2.2.1
  obtain ⟨b5, b6, b7, R', W', t', e1, e2, e3, e4⟩ := s92a (X := X) (d := d) (I := I) (P := P) (v := v) (code := code) (a1 := some (.int (nI i))) (by omega) R (u2 M 44 0 0) W i 0 none none none h' hi ⟨u2_same, fun k hk => by omega⟩ (by omega)
  have hR' : nn (mOverL v code (R + 1) (u2 M 44 0 0) i 0 28 0) = R' := by rw [e2.1, nn_nI (by have := e2.2.1; omega)]
  have ht' : nn (mOverL v code (R + 1) (u2 M 44 0 0) i 0 44 0) = t' := by rw [e3.1, nn_nI (by omega)]
  obtain ⟨W2, h2⟩ := okM.settleL t' _ W' e2 e3.2
  refine ⟨?_, R', W2, by unfold mOver; rw [hR', ht']; exact h2⟩
  rw [e92]
  unfold mOver
  rw [hR', ht']
  simp (disch := first | decide | omega | assumption | (simp (disch := decide) only [u2_ne, u2_same, mQueue]; assumption)) only [kV_some, kI_some, kR_some, kR_any, kH_some, kC_none, kC_some, jv_rsv_ref, jv_rsv_rf, jv_nz_ref, jv_nz_null, jv_nz_rf0, jv_nz_rf1, jv_rq_r1, jv_rq_r0, n10, n11, n00, Option.bind_some, Option.bind_none, jv_isr_ref, jv_isr_rf, jv_isr_null, va_rf_some, va_rf_none, jv_cat1_int, jv_cat1_ref, jv_cat1_rf, if_true, if_false, eq_self, Option.toList_some, Option.toList_none, List.cons_append, List.nil_append, Bool.and_self, Bool.and_true, i32_10, i32_01, i32_80, nI_div8, nI_mul4, nI_mul8, nI_mul32, nI_add, ↓reduceIte, u2_ne, u2_same, r92_0, r92_1, r92_3, r92_4, r92_5, r92_10, r92_13, r92_14, r92_17, r92_19, r92_20, r92_22, r92_23, r92_26, r92_28, r92_29, r92_31, r92_32, r92_35, r92_36, r92_39, r92_40, r92_43, r92_45, r92_46, r92_47, r92_48, r92_49, r92_52, r92_53, r92_54, r92_57, r92_58, r92_60, r92_63, r92_64, r92_66, r92_68, r92_70, r92_73, r92_74, r92_77, r92_79, r92_81, r92_82, r92_83, r92_86, r92_87, r92_90, r92_92, r92_94, r92_95, r92_96, r92_99, r92_100, r92_103, r92_104, r92_105, r92_106, r92_109, r92_111, r92_113, r92_114, r92_115, r92_118, r92_119, r92_122, r92_123, r92_124, r92_126, r92_129, r92_130, r92_132, r92_135, r92_138, r92_139, r92_141, r92_143, r92_146, r92_147, r92_150, r92_152, r92_153, r92_154, r92_157, r92_158, r92_161, r92_163, r92_164, r92_166, r92_169, r92_170, r92_172, r92_173, r92_174, r92_177, r92_180, r92_182, r92_184, r92_188, r92_191, r92_192, r92_193, r92_197, r92_200, r92_201, r92_204, r92_206, r92_207, r92_209, r92_210, r92_212, r92_215, r92_216, r92_219, r92_221, r92_222, r92_223, r92_226, r92_227, r92_230, r92_232, r92_233, r92_236, r92_237, r92_239, r92_242, r92_245, r92_246, r92_248, r92_251, r92_254, r92_257, pt_157_44]
  rw [e1, r92_187]
  have hp : nI t' - 1 = nm t' := by
    cases t' with
    | zero => rfl
    | succ t => exact nI_pred t
  simp (disch := first | decide | omega | assumption | (simp (disch := decide) only [u2_ne, u2_same, mQueue]; assumption)) only [kV_some, kI_some, kR_some, kR_any, kH_some, kC_none, kC_some, jv_rsv_ref, jv_rsv_rf, jv_nz_ref, jv_nz_null, jv_nz_rf0, jv_nz_rf1, jv_rq_r1, jv_rq_r0, n10, n11, n00, Option.bind_some, Option.bind_none, jv_isr_ref, jv_isr_rf, jv_isr_null, va_rf_some, va_rf_none, jv_cat1_int, jv_cat1_ref, jv_cat1_rf, if_true, if_false, eq_self, Option.toList_some, Option.toList_none, List.cons_append, List.nil_append, Bool.and_self, Bool.and_true, i32_10, i32_01, i32_80, nI_div8, nI_mul4, nI_mul8, nI_mul32, nI_add, ↓reduceIte, u2_ne, u2_same, r92_0, r92_1, r92_3, r92_4, r92_5, r92_10, r92_13, r92_14, r92_17, r92_19, r92_20, r92_22, r92_23, r92_26, r92_28, r92_29, r92_31, r92_32, r92_35, r92_36, r92_39, r92_40, r92_43, r92_45, r92_46, r92_47, r92_48, r92_49, r92_52, r92_53, r92_54, r92_57, r92_58, r92_60, r92_63, r92_64, r92_66, r92_68, r92_70, r92_73, r92_74, r92_77, r92_79, r92_81, r92_82, r92_83, r92_86, r92_87, r92_90, r92_92, r92_94, r92_95, r92_96, r92_99, r92_100, r92_103, r92_104, r92_105, r92_106, r92_109, r92_111, r92_113, r92_114, r92_115, r92_118, r92_119, r92_122, r92_123, r92_124, r92_126, r92_129, r92_130, r92_132, r92_135, r92_138, r92_139, r92_141, r92_143, r92_146, r92_147, r92_150, r92_152, r92_153, r92_154, r92_157, r92_158, r92_161, r92_163, r92_164, r92_166, r92_169, r92_170, r92_172, r92_173, r92_174, r92_177, r92_180, r92_182, r92_184, r92_187, r92_188, r92_191, r92_192, r92_193, r92_197, r92_200, r92_201, r92_204, r92_206, r92_207, r92_209, r92_210, r92_212, r92_215, r92_216, r92_219, r92_221, r92_222, r92_223, r92_226, r92_227, r92_230, r92_232, r92_233, r92_236, r92_237, r92_239, r92_242, r92_245, r92_246, r92_248, r92_251, r92_254, r92_257, gt_157_44, e3.1, hp]
  exact s92b (by omega) t' _ W' e2 (by omega) e3.2 _ _ _ _ _ _
