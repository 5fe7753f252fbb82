/-! ===== the reference: make ===== -/
def mNew (M : Nat → Nat → Int32) (R g : Nat) (m v by_ ch : Int32) : Nat → Nat → Int32 :=
  u2 (u2 (u2 (u2 (u2 (u2 (u2 (u2 (u2 (u2 (u2 (u2 (u2 (u2 M 28 0 (nI (R + 1))) 17 R (M 29 0)) 29 0 (M 29 0 + 1)) 18 R (nI g)) 19 R m) 20 R v) 21 R 0) 22 R 0) 23 R 0) 24 R (-1)) 25 R 0) 26 R by_) 27 R ch) 11 g 0
noncomputable def mMake (M : Nat → Nat → Int32) (R g : Nat) (m v by_ ch : Int32) : Nat → Nat → Int32 :=
  if M 8 g = 0 then mQueue (u2 (mNew M R g m v by_ ch) 8 g 1) (-2 - nI g) else mLooked (mNew M R g m v by_ ch) g (R + 1)
theorem okM.new {M : Nat → Nat → Int32} {R W K g mm : Nat} {v by_ ch : Int32} (h : okM M R W K) (hR : R < 30) (hg : g < 32) (hm : mm < 4) (hby : by_ ≤ -2 → ∃ c : Nat, c < 12 ∧ by_ = -2 - nI c) (hK : K + 1 ≤ 62) : okM (mNew M R g (nI mm) v by_ ch) (R + 1) W (K + 1) := by
  obtain ⟨a1, a2, a3, a4, a5, a6, a7, a8⟩ := h
  have n18 : ∀ j, mNew M R g (nI mm) v by_ ch 18 j = if j = R then nI g else M 18 j := fun j => by simp [mNew, u2_ne, u2_at]
  have n19 : ∀ j, mNew M R g (nI mm) v by_ ch 19 j = if j = R then nI mm else M 19 j := fun j => by simp [mNew, u2_ne, u2_at]
  have n22 : ∀ j, mNew M R g (nI mm) v by_ ch 22 j = if j = R then 0 else M 22 j := fun j => by simp [mNew, u2_ne, u2_at]
  have n23 : ∀ j, mNew M R g (nI mm) v by_ ch 23 j = if j = R then 0 else M 23 j := fun j => by simp [mNew, u2_ne, u2_at]
  have n26 : ∀ j, mNew M R g (nI mm) v by_ ch 26 j = if j = R then by_ else M 26 j := fun j => by simp [mNew, u2_ne, u2_at]
  have n8 : mNew M R g (nI mm) v by_ ch 8 = M 8 := by simp [mNew, u2_ne]
  have n4 : mNew M R g (nI mm) v by_ ch 4 = M 4 := by simp [mNew, u2_ne]
  refine ⟨by simp [mNew, u2_ne, u2_same], by omega, by simp [mNew, u2_ne, a3], fun i hi => ?_, fun q hq => ?_, fun i hi hz => ?_, ?_, hK⟩
  · by_cases hi2 : i = R
    · exact ⟨g, mm, 0, by rw [n18, if_pos hi2], hg, by rw [n19, if_pos hi2], hm, by rw [n22, if_pos hi2]; rfl, by omega⟩
    · obtain ⟨g2, m2, a, b1, b2, b3, b4, b5, b6⟩ := a4 i (by omega)
      exact ⟨g2, m2, a, by rw [n18, if_neg hi2]; exact b1, b2, by rw [n19, if_neg hi2]; exact b3, b4, by rw [n22, if_neg hi2]; exact b5, b6⟩
  · rw [n4]; exact a5 q hq
  · rw [n26] at hz ⊢
    by_cases hi2 : i = R
    · rw [if_pos hi2] at hz ⊢; exact hby hz
    · rw [if_neg hi2] at hz ⊢; exact a6 i (by omega) hz
  · rw [cnt_snoc, n8, cnt_eq (f := mNew M R g (nI mm) v by_ ch 23) (g := M 23) R 0 (fun j h1 h2 => by rw [n23, if_neg (by omega)])]
    rw [Nat.zero_add, n23, if_pos rfl, if_neg (by decide)]
    omega
theorem okM.make {M : Nat → Nat → Int32} {R W K g mm : Nat} {v by_ ch : Int32} (h : okM M R W K) (hR : R < 30) (hg : g < 32) (hm : mm < 4) (hby : by_ ≤ -2 → ∃ c : Nat, c < 12 ∧ by_ = -2 - nI c) (hK : K + 1 ≤ 62) : ∃ W', okM (mMake M R g (nI mm) v by_ ch) (R + 1) W' (K + 1) := by
  have hn := h.new (v := v) (ch := ch) hR hg hm hby hK
  unfold mMake
  by_cases h8 : M 8 g = 0
  · rw [if_pos h8]
    refine ⟨W + 1, hn.of (V := W + 1) (by unfold mQueue; simp [u2_ne]) ?_ (fun i _ => by unfold mQueue; simp [u2_ne]) (fun i _ => by unfold mQueue; simp [u2_ne]) (fun i _ => Or.inl (by unfold mQueue; simp [u2_ne])) (by unfold mQueue; simp [u2_ne]) (fun i _ => Or.inl (by unfold mQueue; simp [u2_ne])) ?_⟩
    · unfold mQueue
      rw [u2_same, u2_ne (by decide), hn.2.2.1, nI_1]
    · have hc := hn.2.2.2.2.2.2.1
      have n8 : mNew M R g (nI mm) v by_ ch 8 = M 8 := by simp [mNew, u2_ne]
      have e8 : mQueue (u2 (mNew M R g (nI mm) v by_ ch) 8 g 1) (-2 - nI g) 8 = va_up (M 8) g 1 := by unfold mQueue; rw [u2_ne (by decide), u2_ne (by decide), u2_eq, n8]
      have e23 : mQueue (u2 (mNew M R g (nI mm) v by_ ch) 8 g 1) (-2 - nI g) 23 = mNew M R g (nI mm) v by_ ch 23 := by unfold mQueue; rw [u2_ne (by decide), u2_ne (by decide), u2_ne (by decide)]
      have := cnt_up (f := M 8) (x := 1) (v := 1) (k := g) 32 0 (Nat.zero_le _) (by omega)
      rw [if_neg (by rw [h8]; decide), if_pos rfl] at this
      rw [e8, e23]
      rw [n8] at hc
      omega
  · rw [if_neg h8]
    exact hn.looked
theorem t102 {X : Nat × (Nat → Int32)} {d : Nat} {I : Nat → Nat → Int32} {P : Nat → Nat → Option Nat} {M : Nat → Nat → Int32} {R W K g mm : Nat} {v by_ ch : Int32} (h : okM M R W K) (hR : R < 30) (hg : g < 32) (hm : mm < 4) (hby : by_ ≤ -2 → ∃ c : Nat, c < 12 ∧ by_ = -2 - nI c) (hK : K + 1 ≤ 62) (hd : 3 ≤ d) : jv_F gw X d 102 [.ref 157, .int (nI g), .int (nI mm), .int v, .int by_, .int ch] (he I P M) = some (none, he I P (mMake M R g (nI mm) v by_ ch)) := by
  obtain ⟨d, rfl⟩ : ∃ q, d = q + 1 := ⟨d - 1, by omega⟩
  rw [e102]
  have hn := h.new (v := v) (ch := ch) hR hg hm hby hK
  have h28 := h.1
  have hN : u2 (u2 (u2 (u2 (u2 (u2 (u2 (u2 (u2 (u2 (u2 (u2 (u2 (u2 M 28 0 (nI (R + 1))) 17 R (M 29 0)) 29 0 (M 29 0 + 1)) 18 R (nI g)) 19 R (nI mm)) 20 R v) 21 R 0) 22 R 0) 23 R 0) 24 R (-1)) 25 R 0) 26 R by_) 27 R ch) 11 g 0 = mNew M R g (nI mm) v by_ ch := rfl
  have hq : jv_F gw X d 90 [.ref 157, .int (-2 - nI g)] (he I P (u2 (mNew M R g (nI mm) v by_ ch) 8 g 1)) = some (none, he I P (mQueue (u2 (mNew M R g (nI mm) v by_ ch) 8 g 1) (-2 - nI g))) := t90 (W := W) (by rw [u2_ne (by decide)]; exact hn.2.2.1) h.W (by omega)
  have hlk := u87 (X := X) (d := d) (I := I) (P := P) hg hn (by omega)
  have n8 : mNew M R g (nI mm) v by_ ch 8 = M 8 := by simp [mNew, u2_ne]
  unfold mMake
  by_cases h8 : M 8 g = 0
  · simp (disch := first | decide | omega | assumption | (simp (disch := decide) only [u2_ne, u2_same, mQueue]; assumption)) only [kV_some, kI_some, kR_some, kR_any, kH_some, kC_none, kC_some, jv_rsv_ref, jv_rsv_rf, jv_nz_ref, jv_nz_null, jv_nz_rf0, jv_nz_rf1, jv_rq_r1, jv_rq_r0, n10, n11, n00, Option.bind_some, Option.bind_none, jv_isr_ref, jv_isr_rf, jv_isr_null, va_rf_some, va_rf_none, jv_cat1_int, jv_cat1_ref, jv_cat1_rf, if_true, if_false, eq_self, Option.toList_some, Option.toList_none, List.cons_append, List.nil_append, Bool.and_self, Bool.and_true, i32_10, i32_01, i32_80, nI_div8, nI_mul4, nI_mul8, nI_mul32, nI_add, ↓reduceIte, u2_ne, u2_same, r102_0, r102_1, r102_4, r102_6, r102_7, r102_8, r102_11, r102_12, r102_13, r102_16, r102_17, r102_20, r102_22, r102_23, r102_26, r102_27, r102_28, r102_29, r102_32, r102_33, r102_34, r102_37, r102_38, r102_41, r102_43, r102_44, r102_45, r102_46, r102_49, r102_51, r102_52, r102_53, r102_54, r102_57, r102_59, r102_60, r102_61, r102_62, r102_65, r102_67, r102_68, r102_69, r102_70, r102_73, r102_75, r102_76, r102_77, r102_78, r102_81, r102_83, r102_84, r102_85, r102_86, r102_89, r102_91, r102_92, r102_93, r102_94, r102_97, r102_99, r102_100, r102_101, r102_102, r102_105, r102_107, r102_109, r102_110, r102_111, r102_114, r102_116, r102_118, r102_119, r102_120, r102_123, r102_124, r102_125, r102_126, r102_127, r102_130, r102_131, r102_132, r102_135, r102_136, r102_139, r102_140, r102_141, r102_142, r102_143, r102_145, r102_146, r102_147, r102_150, r102_153, r102_154, r102_155, r102_158, ic_157, gt_157_28, h28, pt_157_28, nI_1, gt_157_17, gt_157_29, wr_175, pt_157_29, gt_157_18, wr_176, gt_157_19, wr_177, gt_157_20, wr_178, gt_157_21, wr_179, gt_157_22, wr_180, gt_157_23, wr_181, gt_157_24, wr_182, gt_157_25, wr_183, gt_157_26, wr_184, gt_157_27, wr_185, gt_157_11, wr_169, gt_157_8, rd_166, h8, wr_166, hN, n8, hq]
  · simp (disch := first | decide | omega | assumption | (simp (disch := decide) only [u2_ne, u2_same, mQueue]; assumption)) only [kV_some, kI_some, kR_some, kR_any, kH_some, kC_none, kC_some, jv_rsv_ref, jv_rsv_rf, jv_nz_ref, jv_nz_null, jv_nz_rf0, jv_nz_rf1, jv_rq_r1, jv_rq_r0, n10, n11, n00, Option.bind_some, Option.bind_none, jv_isr_ref, jv_isr_rf, jv_isr_null, va_rf_some, va_rf_none, jv_cat1_int, jv_cat1_ref, jv_cat1_rf, if_true, if_false, eq_self, Option.toList_some, Option.toList_none, List.cons_append, List.nil_append, Bool.and_self, Bool.and_true, i32_10, i32_01, i32_80, nI_div8, nI_mul4, nI_mul8, nI_mul32, nI_add, ↓reduceIte, u2_ne, u2_same, r102_0, r102_1, r102_4, r102_6, r102_7, r102_8, r102_11, r102_12, r102_13, r102_16, r102_17, r102_20, r102_22, r102_23, r102_26, r102_27, r102_28, r102_29, r102_32, r102_33, r102_34, r102_37, r102_38, r102_41, r102_43, r102_44, r102_45, r102_46, r102_49, r102_51, r102_52, r102_53, r102_54, r102_57, r102_59, r102_60, r102_61, r102_62, r102_65, r102_67, r102_68, r102_69, r102_70, r102_73, r102_75, r102_76, r102_77, r102_78, r102_81, r102_83, r102_84, r102_85, r102_86, r102_89, r102_91, r102_92, r102_93, r102_94, r102_97, r102_99, r102_100, r102_101, r102_102, r102_105, r102_107, r102_109, r102_110, r102_111, r102_114, r102_116, r102_118, r102_119, r102_120, r102_123, r102_124, r102_125, r102_126, r102_127, r102_130, r102_131, r102_132, r102_135, r102_136, r102_139, r102_140, r102_141, r102_142, r102_143, r102_145, r102_146, r102_147, r102_150, r102_153, r102_154, r102_155, r102_158, ic_157, gt_157_28, h28, pt_157_28, nI_1, gt_157_17, gt_157_29, wr_175, pt_157_29, gt_157_18, wr_176, gt_157_19, wr_177, gt_157_20, wr_178, gt_157_21, wr_179, gt_157_22, wr_180, gt_157_23, wr_181, gt_157_24, wr_182, gt_157_25, wr_183, gt_157_26, wr_184, gt_157_27, wr_185, gt_157_11, wr_169, gt_157_8, rd_166, h8, hN, n8, hlk]
