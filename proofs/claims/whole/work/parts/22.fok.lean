/-! ===== the program's tables are right: the fields ===== -/
def gw_fchk (e : (Nat × Nat) × (Nat × Nat) × Nat) : Prop := match gw_cls[e.2.1.1]? with
  | some q => e.2.1.2 < q.1.2.2 ∧ (lw_tbl[e.2.2]? = some (Cond.fieldLink (jg_own gw e.1.1) e.1.2 (q.1.2.1 e.2.1.2).1 (q.1.2.1 e.2.1.2).2.1 (q.1.2.1 e.2.1.2).2.2.1) ∨ ((q.1.2.1 e.2.1.2).1 ≠ jg_own gw e.1.1 ∧ lw_tbl[e.2.2]? = some (Cond.fieldLinkNest (jg_own gw e.1.1) e.1.2 (q.1.2.1 e.2.1.2).1 (q.1.2.1 e.2.1.2).2.1 (q.1.2.1 e.2.1.2).2.2.1 "GrainHost")))
  | none => False
def gw_fchkD (e : (Nat × Nat) × (Nat × Nat) × Nat) : Decidable (gw_fchk e) := by unfold gw_fchk; split <;> infer_instance
theorem gw_fc0 : ∀ e ∈ (gw_ft.drop 0).take 75, gw_fchk e := @of_decide_eq_true _ (@List.decidableBAll _ gw_fchk gw_fchkD _) (by decide +kernel)
theorem gw_fc75 : ∀ e ∈ (gw_ft.drop 75).take 75, gw_fchk e := @of_decide_eq_true _ (@List.decidableBAll _ gw_fchk gw_fchkD _) (by decide +kernel)
theorem gw_fc150 : ∀ e ∈ (gw_ft.drop 150).take 75, gw_fchk e := @of_decide_eq_true _ (@List.decidableBAll _ gw_fchk gw_fchkD _) (by decide +kernel)
theorem gw_fc225 : ∀ e ∈ (gw_ft.drop 225).take 75, gw_fchk e := @of_decide_eq_true _ (@List.decidableBAll _ gw_fchk gw_fchkD _) (by decide +kernel)
theorem gw_fc300 : ∀ e ∈ (gw_ft.drop 300).take 75, gw_fchk e := @of_decide_eq_true _ (@List.decidableBAll _ gw_fchk gw_fchkD _) (by decide +kernel)
theorem gw_fc375 : ∀ e ∈ (gw_ft.drop 375).take 75, gw_fchk e := @of_decide_eq_true _ (@List.decidableBAll _ gw_fchk gw_fchkD _) (by decide +kernel)
theorem gw_fc450 : ∀ e ∈ (gw_ft.drop 450).take 75, gw_fchk e := @of_decide_eq_true _ (@List.decidableBAll _ gw_fchk gw_fchkD _) (by decide +kernel)
theorem gw_fok : ∀ e ∈ gw_ft, gw_fchk e := by
  intro e he
  have cut : ∀ (l : List ((Nat × Nat) × (Nat × Nat) × Nat)) (n : Nat), e ∈ l → e ∈ l.take n ∨ e ∈ l.drop n := fun l n h => by rw [← List.take_append_drop n l] at h; exact List.mem_append.mp h
  have d0 : e ∈ gw_ft.drop 0 := he
  rcases cut _ 75 d0 with z | z
  · exact gw_fc0 e z
  have d75 : e ∈ gw_ft.drop 75 := by rw [List.drop_drop] at z; exact z
  rcases cut _ 75 d75 with z | z
  · exact gw_fc75 e z
  have d150 : e ∈ gw_ft.drop 150 := by rw [List.drop_drop] at z; exact z
  rcases cut _ 75 d150 with z | z
  · exact gw_fc150 e z
  have d225 : e ∈ gw_ft.drop 225 := by rw [List.drop_drop] at z; exact z
  rcases cut _ 75 d225 with z | z
  · exact gw_fc225 e z
  have d300 : e ∈ gw_ft.drop 300 := by rw [List.drop_drop] at z; exact z
  rcases cut _ 75 d300 with z | z
  · exact gw_fc300 e z
  have d375 : e ∈ gw_ft.drop 375 := by rw [List.drop_drop] at z; exact z
  rcases cut _ 75 d375 with z | z
  · exact gw_fc375 e z
  have d450 : e ∈ gw_ft.drop 450 := by rw [List.drop_drop] at z; exact z
  rcases cut _ 75 d450 with z | z
  · exact gw_fc450 e z
  have d525 : e ∈ gw_ft.drop 525 := by rw [List.drop_drop] at z; exact z
  have hn : gw_ft.drop 525 = [] := by decide +kernel
  rw [hn] at d525
  cases d525
theorem gw_fld (mi i ci k : Nat) (h : jg_fld gw mi i = some (ci, k)) : jg_flok gw mi i ci k := by
  have h' : (gw_ft.lookup (mi, i)).map (fun e => e.1) = some (ci, k) := h
  cases hl : gw_ft.lookup (mi, i) with
  | none => rw [hl] at h'; cases h'
  | some e =>
    rw [hl] at h'
    obtain ⟨⟨ci', k'⟩, ps⟩ := e
    cases h'
    have hc := gw_fok _ (gw_lk hl)
    unfold gw_fchk at hc
    dsimp only at hc
    split at hc
    · rename_i q hq
      obtain ⟨h1, h2⟩ := hc
      refine ⟨q, hq, h1, ?_⟩
      rcases h2 with h2 | ⟨h2, h3⟩
      · exact Or.inl (gw_in _ h2 rfl)
      · exact Or.inr ⟨h2, "GrainHost", gw_inN _ h3 rfl⟩
    · exact hc.elim
