/-! ===== the program's tables are right: calls, new cells, constants, classes ===== -/
def gw_ichk (e : (Nat × Nat) × (Nat × Nat × Nat) × Nat) : Prop := match e with
  | ((mi, i), (0, y, n), ps) => y < 116 ∧ (jg_fr gw y + 1 ≤ jg_fr gw mi ∧ 8 + (jg_maxL gw y + 11) + jg_lo gw y ≤ jg_lo gw mi) ∧ (lw_tbl[ps]? = some (Cond.methodLink (jg_own gw mi) i (jg_y gw y)) ∨ lw_tbl[ps]? = some (Cond.methodLinkNest (jg_own gw mi) i (jg_y gw y) "GrainHost")) ∧ (parseMethodDescriptor (jg_y gw y).desc).map (fun d => d.parameters.length) = some n ∧ lw_tbl[(gw_p y).2.2.1]? = some (Cond.instanceMethod (jg_y gw y)) ∧ lw_tbl[(gw_p y).2.2.2]? = some (Cond.selects (jg_y gw y).cls (jg_y gw y) (jg_y gw y)) ∧ (gw_cls[jg_mc gw y]?).map (fun q => q.1.1) = some (jg_y gw y).cls
  | ((mi, i), (1, y, n), ps) => y < 116 ∧ (jg_fr gw y + 1 ≤ jg_fr gw mi ∧ 8 + (jg_maxL gw y + 11) + jg_lo gw y ≤ jg_lo gw mi) ∧ (lw_tbl[ps]? = some (Cond.methodLink (jg_own gw mi) i (jg_y gw y)) ∨ lw_tbl[ps]? = some (Cond.methodLinkNest (jg_own gw mi) i (jg_y gw y) "GrainHost")) ∧ (parseMethodDescriptor (jg_y gw y).desc).map (fun d => d.parameters.length) = some n ∧ lw_tbl[(gw_p y).2.2.1]? = some (Cond.static (jg_y gw y))
  | ((mi, i), (2, y, n), ps) => y < 116 ∧ (jg_fr gw y + 1 ≤ jg_fr gw mi ∧ 8 + (jg_maxL gw y + 11) + jg_lo gw y ≤ jg_lo gw mi) ∧ (lw_tbl[ps]? = some (Cond.methodLink (jg_own gw mi) i (jg_y gw y)) ∨ lw_tbl[ps]? = some (Cond.methodLinkNest (jg_own gw mi) i (jg_y gw y) "GrainHost")) ∧ (parseMethodDescriptor (jg_y gw y).desc).map (fun d => d.parameters.length) = some n ∧ lw_tbl[(gw_p y).2.2.1]? = some (Cond.instanceMethod (jg_y gw y)) ∧ (jg_y gw y).name = "<init>" ∧ jg_ret gw y = none
  | ((mi, i), (3, _, _), ps) => lw_tbl[ps]? = some (Cond.methodLink (jg_own gw mi) i objectInit) ∧ 1 ≤ jg_fr gw mi ∧ 20 ≤ jg_lo gw mi
  | _ => False
def gw_ichkD (e : (Nat × Nat) × (Nat × Nat × Nat) × Nat) : Decidable (gw_ichk e) := by unfold gw_ichk; split <;> infer_instance
theorem gw_ic0 : ∀ e ∈ (gw_it.drop 0).take 41, gw_ichk e := @of_decide_eq_true _ (@List.decidableBAll _ gw_ichk gw_ichkD _) (by decide +kernel)
theorem gw_ic41 : ∀ e ∈ (gw_it.drop 41).take 41, gw_ichk e := @of_decide_eq_true _ (@List.decidableBAll _ gw_ichk gw_ichkD _) (by decide +kernel)
theorem gw_ic82 : ∀ e ∈ (gw_it.drop 82).take 41, gw_ichk e := @of_decide_eq_true _ (@List.decidableBAll _ gw_ichk gw_ichkD _) (by decide +kernel)
theorem gw_ic123 : ∀ e ∈ (gw_it.drop 123).take 41, gw_ichk e := @of_decide_eq_true _ (@List.decidableBAll _ gw_ichk gw_ichkD _) (by decide +kernel)
theorem gw_ic164 : ∀ e ∈ (gw_it.drop 164).take 41, gw_ichk e := @of_decide_eq_true _ (@List.decidableBAll _ gw_ichk gw_ichkD _) (by decide +kernel)
theorem gw_iok : ∀ e ∈ gw_it, gw_ichk e := by
  intro e he
  have cut : ∀ (l : List ((Nat × Nat) × (Nat × Nat × Nat) × Nat)) (n : Nat), e ∈ l → e ∈ l.take n ∨ e ∈ l.drop n := fun l n h => by rw [← List.take_append_drop n l] at h; exact List.mem_append.mp h
  have d0 : e ∈ gw_it.drop 0 := he
  rcases cut _ 41 d0 with z | z
  · exact gw_ic0 e z
  have d41 : e ∈ gw_it.drop 41 := by rw [List.drop_drop] at z; exact z
  rcases cut _ 41 d41 with z | z
  · exact gw_ic41 e z
  have d82 : e ∈ gw_it.drop 82 := by rw [List.drop_drop] at z; exact z
  rcases cut _ 41 d82 with z | z
  · exact gw_ic82 e z
  have d123 : e ∈ gw_it.drop 123 := by rw [List.drop_drop] at z; exact z
  rcases cut _ 41 d123 with z | z
  · exact gw_ic123 e z
  have d164 : e ∈ gw_it.drop 164 := by rw [List.drop_drop] at z; exact z
  rcases cut _ 41 d164 with z | z
  · exact gw_ic164 e z
  have d205 : e ∈ gw_it.drop 205 := by rw [List.drop_drop] at z; exact z
  have hn : gw_it.drop 205 = [] := by decide +kernel
  rw [hn] at d205
  cases d205
theorem gw_obj1 : Cond.instanceMethod objectInit ∈ gw_ws := gw_in 88 (by decide +kernel) rfl
set_option maxRecDepth 100000 in
theorem gw_obj2 : Cond.code objectInit ⟨#[0xb1]⟩ 1 none ∈ gw_ws := gw_in 89 rfl rfl
theorem gw_inv (mi i k y n : Nat) (h : jg_inv gw mi i = some (k, y, n)) : jg_cok gw mi i k y n := by
  have h' : (gw_it.lookup (mi, i)).map (fun e => e.1) = some (k, y, n) := h
  cases hl : gw_it.lookup (mi, i) with
  | none => rw [hl] at h'; cases h'
  | some e =>
    rw [hl] at h'
    obtain ⟨⟨k', y', n'⟩, ps⟩ := e
    cases h'
    have hc := gw_iok _ (gw_lk hl)
    have lnk : (lw_tbl[ps]? = some (Cond.methodLink (jg_own gw mi) i (jg_y gw y)) ∨ lw_tbl[ps]? = some (Cond.methodLinkNest (jg_own gw mi) i (jg_y gw y) "GrainHost")) → jg_lok gw mi i y := by
      intro z
      rcases z with z | z
      · exact Or.inl (gw_in _ z rfl)
      · exact Or.inr ⟨"GrainHost", gw_inN _ z rfl⟩
    match k, hc with
    | 0, hc =>
      obtain ⟨h1, h2, h3, h4, h5, h6, h7⟩ := hc
      refine ⟨gw_mok y h1, h2, lnk h3, h4, gw_in _ h5 rfl, gw_in _ h6 rfl, ?_⟩
      cases hq : gw_cls[jg_mc gw y]? with
      | none => rw [hq] at h7; cases h7
      | some q => rw [hq] at h7; exact ⟨q, hq, Option.some.inj h7⟩
    | 1, hc =>
      obtain ⟨h1, h2, h3, h4, h5⟩ := hc
      exact ⟨gw_mok y h1, h2, lnk h3, h4, gw_in _ h5 rfl⟩
    | 2, hc =>
      obtain ⟨h1, h2, h3, h4, h5, h6, h7⟩ := hc
      exact ⟨gw_mok y h1, h2, lnk h3, h4, gw_in _ h5 rfl, h6, h7⟩
    | 3, hc =>
      obtain ⟨h1, h2, h3⟩ := hc
      exact ⟨gw_in _ h1 rfl, gw_obj1, gw_obj2, h2, h3⟩
    | k + 4, hc => exact trivial
def gw_nchk (e : (Nat × Nat) × Nat × Nat) : Prop := match gw_cls[e.2.1]?, gw_cp[e.2.1]? with
  | some q, some p => lw_tbl[e.2.2]? = some (Cond.classLink (jg_own gw e.1.1) e.1.2 q.1.1) ∧ lw_tbl[p.1]? = some (Cond.instantiable q.1.1 q.1.2.2) ∧ lw_tbl[p.2]? = some (Cond.initialized q.1.1)
  | _, _ => False
def gw_nchkD (e : (Nat × Nat) × Nat × Nat) : Decidable (gw_nchk e) := by unfold gw_nchk; split <;> infer_instance
theorem gw_nok : ∀ e ∈ gw_nt, gw_nchk e := @of_decide_eq_true _ (@List.decidableBAll _ gw_nchk gw_nchkD _) (by decide +kernel)
theorem gw_new (mi i ci : Nat) (h : jg_new gw mi i = some ci) : jg_nwok gw mi i ci := by
  have h' : (gw_nt.lookup (mi, i)).map (fun e => e.1) = some ci := h
  cases hl : gw_nt.lookup (mi, i) with
  | none => rw [hl] at h'; cases h'
  | some e =>
    rw [hl] at h'
    obtain ⟨ci', ps⟩ := e
    cases h'
    have hc := gw_nok _ (gw_lk hl)
    unfold gw_nchk at hc
    dsimp only at hc
    split at hc
    · rename_i q p hq hp
      obtain ⟨h1, h2, h3⟩ := hc
      exact ⟨q, hq, gw_in _ h1 rfl, gw_in _ h2 rfl, gw_in _ h3 rfl⟩
    · exact hc.elim
def gw_achk (e : (Nat × Nat) × Nat × Nat) : Prop := match gw_tys[e.2.1]? with
  | some (.object C, _) => lw_tbl[e.2.2]? = some (Cond.classLink (jg_own gw e.1.1) e.1.2 C)
  | _ => False
def gw_achkD (e : (Nat × Nat) × Nat × Nat) : Decidable (gw_achk e) := by unfold gw_achk; split <;> infer_instance
theorem gw_aok : ∀ e ∈ gw_at, gw_achk e := @of_decide_eq_true _ (@List.decidableBAll _ gw_achk gw_achkD _) (by decide +kernel)
theorem gw_anw (mi i t : Nat) (h : jg_anw gw mi i = some t) : jg_anok gw mi i t := by
  have h' : (gw_at.lookup (mi, i)).map (fun e => e.1) = some t := h
  cases hl : gw_at.lookup (mi, i) with
  | none => rw [hl] at h'; cases h'
  | some e =>
    rw [hl] at h'
    obtain ⟨t', ps⟩ := e
    cases h'
    have hc := gw_aok _ (gw_lk hl)
    unfold gw_achk at hc
    dsimp only at hc
    split at hc
    · rename_i C ci hq
      exact ⟨C, ci, hq, gw_in _ hc rfl⟩
    · exact hc.elim
theorem gw_lok : ∀ e ∈ gw_lt, lw_tbl[e.2.2]? = some (Cond.constant (jg_own gw e.1.1) e.1.2 e.2.1) := by decide +kernel
theorem gw_gok : ∀ e ∈ gw_gt, lw_tbl[e.2.2]? = some (Cond.constantLong (jg_own gw e.1.1) e.1.2 e.2.1) := by decide +kernel
theorem gw_ldc (mi i : Nat) (v : Int32) (h : jg_ldc gw mi i = some v) : Cond.constant (jg_own gw mi) i v ∈ gw_ws := by
  have h' : (gw_lt.lookup (mi, i)).map (fun e => e.1) = some v := h
  cases hl : gw_lt.lookup (mi, i) with
  | none => rw [hl] at h'; cases h'
  | some e =>
    rw [hl] at h'
    obtain ⟨v', ps⟩ := e
    cases h'
    exact gw_in _ (gw_lok _ (gw_lk hl)) rfl
theorem gw_ldl (mi i : Nat) (v : Int64) (h : jg_ldl gw mi i = some v) : Cond.constantLong (jg_own gw mi) i v ∈ gw_ws := by
  have h' : (gw_gt.lookup (mi, i)).map (fun e => e.1) = some v := h
  cases hl : gw_gt.lookup (mi, i) with
  | none => rw [hl] at h'; cases h'
  | some e =>
    rw [hl] at h'
    obtain ⟨v', ps⟩ := e
    cases h'
    exact gw_in _ (gw_gok _ (gw_lk hl)) rfl
theorem gw_lay0 : ∀ k, k < 14 → lw_tbl[(gw_lp.getD 0 []).getD k 0]? = some (u_lay "GrainHost" gT0 k) := by decide +kernel
theorem gw_cl0 : jg_clok gw (("GrainHost", gT0, 14), gY0) := by
  refine ⟨fun w hw => ?_, by decide +kernel, by decide +kernel⟩
  obtain ⟨k, hk, rfl⟩ := List.mem_map.mp hw
  have hk := List.mem_range.mp hk
  refine gw_in _ (gw_lay0 k hk) ?_
  unfold u_lay
  split <;> rfl
theorem gw_lay1 : ∀ k, k < 3 → lw_tbl[(gw_lp.getD 1 []).getD k 0]? = some (u_lay "GrainHost$Kind" gT1 k) := by decide +kernel
theorem gw_cl1 : jg_clok gw (("GrainHost$Kind", gT1, 3), gY1) := by
  refine ⟨fun w hw => ?_, by decide +kernel, by decide +kernel⟩
  obtain ⟨k, hk, rfl⟩ := List.mem_map.mp hw
  have hk := List.mem_range.mp hk
  refine gw_in _ (gw_lay1 k hk) ?_
  unfold u_lay
  split <;> rfl
theorem gw_lay2 : ∀ k, k < 6 → lw_tbl[(gw_lp.getD 2 []).getD k 0]? = some (u_lay "GrainHost$Method" gT2 k) := by decide +kernel
theorem gw_cl2 : jg_clok gw (("GrainHost$Method", gT2, 6), gY2) := by
  refine ⟨fun w hw => ?_, by decide +kernel, by decide +kernel⟩
  obtain ⟨k, hk, rfl⟩ := List.mem_map.mp hw
  have hk := List.mem_range.mp hk
  refine gw_in _ (gw_lay2 k hk) ?_
  unfold u_lay
  split <;> rfl
theorem gw_lay3 : ∀ k, k < 11 → lw_tbl[(gw_lp.getD 3 []).getD k 0]? = some (u_lay "GrainHost$Grain" gT3 k) := by decide +kernel
theorem gw_cl3 : jg_clok gw (("GrainHost$Grain", gT3, 11), gY3) := by
  refine ⟨fun w hw => ?_, by decide +kernel, by decide +kernel⟩
  obtain ⟨k, hk, rfl⟩ := List.mem_map.mp hw
  have hk := List.mem_range.mp hk
  refine gw_in _ (gw_lay3 k hk) ?_
  unfold u_lay
  split <;> rfl
theorem gw_lay4 : ∀ k, k < 14 → lw_tbl[(gw_lp.getD 4 []).getD k 0]? = some (u_lay "GrainHost$Request" gT4 k) := by decide +kernel
theorem gw_cl4 : jg_clok gw (("GrainHost$Request", gT4, 14), gY4) := by
  refine ⟨fun w hw => ?_, by decide +kernel, by decide +kernel⟩
  obtain ⟨k, hk, rfl⟩ := List.mem_map.mp hw
  have hk := List.mem_range.mp hk
  refine gw_in _ (gw_lay4 k hk) ?_
  unfold u_lay
  split <;> rfl
theorem gw_lay5 : ∀ k, k < 3 → lw_tbl[(gw_lp.getD 5 []).getD k 0]? = some (u_lay "GrainHost$Requests" gT5 k) := by decide +kernel
theorem gw_cl5 : jg_clok gw (("GrainHost$Requests", gT5, 3), gY5) := by
  refine ⟨fun w hw => ?_, by decide +kernel, by decide +kernel⟩
  obtain ⟨k, hk, rfl⟩ := List.mem_map.mp hw
  have hk := List.mem_range.mp hk
  refine gw_in _ (gw_lay5 k hk) ?_
  unfold u_lay
  split <;> rfl
theorem gw_lay6 : ∀ k, k < 3 → lw_tbl[(gw_lp.getD 6 []).getD k 0]? = some (u_lay "GrainHost$Line" gT6 k) := by decide +kernel
theorem gw_cl6 : jg_clok gw (("GrainHost$Line", gT6, 3), gY6) := by
  refine ⟨fun w hw => ?_, by decide +kernel, by decide +kernel⟩
  obtain ⟨k, hk, rfl⟩ := List.mem_map.mp hw
  have hk := List.mem_range.mp hk
  refine gw_in _ (gw_lay6 k hk) ?_
  unfold u_lay
  split <;> rfl
theorem gw_lay7 : ∀ k, k < 4 → lw_tbl[(gw_lp.getD 7 []).getD k 0]? = some (u_lay "GrainHost$Outside" gT7 k) := by decide +kernel
theorem gw_cl7 : jg_clok gw (("GrainHost$Outside", gT7, 4), gY7) := by
  refine ⟨fun w hw => ?_, by decide +kernel, by decide +kernel⟩
  obtain ⟨k, hk, rfl⟩ := List.mem_map.mp hw
  have hk := List.mem_range.mp hk
  refine gw_in _ (gw_lay7 k hk) ?_
  unfold u_lay
  split <;> rfl
theorem gw_lay8 : ∀ k, k < 46 → lw_tbl[(gw_lp.getD 8 []).getD k 0]? = some (u_lay "GrainHostModel" gT8 k) := by decide +kernel
theorem gw_cl8 : jg_clok gw (("GrainHostModel", gT8, 46), gY8) := by
  refine ⟨fun w hw => ?_, by decide +kernel, by decide +kernel⟩
  obtain ⟨k, hk, rfl⟩ := List.mem_map.mp hw
  have hk := List.mem_range.mp hk
  refine gw_in _ (gw_lay8 k hk) ?_
  unfold u_lay
  split <;> rfl
theorem gw_clok : ∀ q ∈ jg_cls gw, jg_clok gw q := by
  show ∀ q ∈ gw_cls, jg_clok gw q
  unfold gw_cls
  simp only [List.forall_mem_cons]
  exact ⟨gw_cl0, gw_cl1, gw_cl2, gw_cl3, gw_cl4, gw_cl5, gw_cl6, gw_cl7, gw_cl8, fun _ h => absurd h List.not_mem_nil⟩
theorem gw_ok : jg_ok gw := by
  refine ⟨by decide +kernel, ?_, ?_, gw_clok, gw_fld, gw_inv, gw_new, gw_anw, gw_ldc, gw_ldl, rfl, rfl, gw_in 200 (by decide +kernel) rfl, gw_in 791 (by decide +kernel) rfl, ?_⟩
  · intro w hw
    have h := (List.mem_filter.mp hw).2
    cases w <;> first | exact Or.inl ⟨_, _, _, _, _, _, rfl⟩ | exact Or.inr ⟨_, _, _, _, rfl⟩ | cases h
  · intro w hw
    exact good_of_word (List.mem_filter.mp hw).2
  · intro t ty ci h h2
    have h' : gw_tys[t]? = some (ty, ci) := h
    have hl : t < 7 := (List.getElem?_eq_some_iff.mp h').1
    rcases (show t = 2 ∨ t = 3 ∨ t = 4 ∨ t = 5 ∨ t = 6 by omega) with rfl | rfl | rfl | rfl | rfl <;> cases h' <;> exact ⟨_, _, rfl, rfl, rfl⟩
theorem gw_inst : ∀ q ∈ jg_cls gw, Cond.instantiable q.1.1 q.1.2.2 ∈ jg_ws gw := by
  show ∀ q ∈ gw_cls, Cond.instantiable q.1.1 q.1.2.2 ∈ gw_ws
  unfold gw_cls
  simp only [List.forall_mem_cons]
  exact ⟨gw_in 83 (by decide +kernel) rfl, gw_in 202 (by decide +kernel) rfl, gw_in 209 (by decide +kernel) rfl, gw_in 255 (by decide +kernel) rfl, gw_in 104 (by decide +kernel) rfl, gw_in 97 (by decide +kernel) rfl, gw_in 184 (by decide +kernel) rfl, gw_in 307 (by decide +kernel) rfl, gw_in 647 (by decide +kernel) rfl, fun _ h => absurd h List.not_mem_nil⟩
theorem gw_over : ∀ (t : Nat) (C : String) (ci : Nat), (jg_tys gw)[t]? = some (FieldType.object C, ci) → Cond.arrayOver (.object C) ∈ lw_tbl := by
  intro t C ci h
  have h' : gw_tys[t]? = some (FieldType.object C, ci) := h
  have hl : t < 7 := (List.getElem?_eq_some_iff.mp h').1
  rcases (show t = 0 ∨ t = 1 ∨ t = 2 ∨ t = 3 ∨ t = 4 ∨ t = 5 ∨ t = 6 by omega) with rfl | rfl | rfl | rfl | rfl | rfl | rfl <;> cases h'
  · exact List.mem_of_getElem? (i := 91) (by decide +kernel)
  · exact List.mem_of_getElem? (i := 93) (by decide +kernel)
  · exact List.mem_of_getElem? (i := 95) (by decide +kernel)
  · exact List.mem_of_getElem? (i := 103) (by decide +kernel)
  · exact List.mem_of_getElem? (i := 208) (by decide +kernel)
