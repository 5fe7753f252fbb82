/-! ===== the program's tables are right: the methods ===== -/
def gw_toC (q : jv_M) : Cond := Cond.code q.1 q.2.1 q.2.2.1 q.2.2.2.1
set_option maxRecDepth 100000 in
theorem gw_cw : tables_1.filter k2_isCode = (gw_toC <$> gw_ms.take 1) ++ (Cond.code objectInit object_method_1_code 1 none :: (gw_toC <$> (gw_ms.drop 1).take 115)) := rfl

theorem gw_code (i : Nat) (hi : i < 116) : Cond.code (jg_y gw i) (jg_code gw i) (jg_maxL gw i) (jg_ret gw i) ∈ gw_ws := by
  have hm : gw_toC (gw_m i) ∈ tables_1.filter k2_isCode := by
    rw [gw_cw]
    have hl : gw_ms.length = 117 := rfl
    have he : gw_m i = gw_ms[i]'(by omega) := by
      unfold gw_m
      rw [List.getD_eq_getElem?_getD, List.getElem?_eq_getElem (by omega)]
      rfl
    rw [he]
    by_cases h0 : i < 1
    · refine List.mem_append_left _ ?_
      show gw_toC _ ∈ List.map gw_toC _
      refine List.mem_map.mpr ⟨_, ?_, rfl⟩
      have : i = 0 := by omega
      subst this
      exact List.mem_of_getElem? (i := 0) rfl
    · refine List.mem_append_right _ (List.mem_cons_of_mem _ ?_)
      show gw_toC _ ∈ List.map gw_toC _
      refine List.mem_map.mpr ⟨_, ?_, rfl⟩
      refine List.mem_of_getElem? (i := i - 1) ?_
      rw [List.getElem?_take, if_pos (by omega), List.getElem?_drop, show 1 + (i - 1) = i by omega]
      exact List.getElem?_eq_getElem _
  exact List.mem_filter.mpr ⟨List.mem_append_right _ (List.mem_filter.mp hm).1, rfl⟩
def gw_mchk (i : Nat) : Prop := plainName (jg_y gw i).cls = true ∧ jg_maxL gw i ≤ 1000 ∧ lw_tbl[(gw_p i).2.1]? = some (Cond.initialized (jg_y gw i).cls) ∧ (jg_y gw i).cls ≠ "java/lang/invoke/MethodHandle" ∧ (jg_y gw i).cls ≠ "java/lang/invoke/VarHandle"
theorem gw_mc0 : ∀ i, i < 30 → gw_mchk (0 + i) := by unfold gw_mchk; decide +kernel
theorem gw_mc30 : ∀ i, i < 30 → gw_mchk (30 + i) := by unfold gw_mchk; decide +kernel
theorem gw_mc60 : ∀ i, i < 30 → gw_mchk (60 + i) := by unfold gw_mchk; decide +kernel
theorem gw_mc90 : ∀ i, i < 26 → gw_mchk (90 + i) := by unfold gw_mchk; decide +kernel
theorem gw_mok (i : Nat) (hi : i < 116) : jg_mok gw i := by
  have key : gw_mchk i := by
    by_cases h0 : i < 30
    · rw [show i = 0 + (i - 0) by omega]; exact gw_mc0 (i - 0) (by omega)
    by_cases h30 : i < 60
    · rw [show i = 30 + (i - 30) by omega]; exact gw_mc30 (i - 30) (by omega)
    by_cases h60 : i < 90
    · rw [show i = 60 + (i - 60) by omega]; exact gw_mc60 (i - 60) (by omega)
    by_cases h90 : i < 116
    · rw [show i = 90 + (i - 90) by omega]; exact gw_mc90 (i - 90) (by omega)
    omega
  obtain ⟨h1, h2, h4, h5, h6⟩ := key
  exact ⟨h1, h2, gw_code i hi, gw_in _ h4 rfl, h5, h6⟩
