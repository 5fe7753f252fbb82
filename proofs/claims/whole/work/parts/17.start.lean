/-! ===== the tables at the start ===== -/
theorem jv_start {G : jv_G} (hG : jg_ok G) {args : Array Value} {s : State} (hI : ∀ q ∈ jg_cls G, Cond.instantiable q.1.1 q.1.2.2 ∈ jg_ws G) (hts : ∀ w ∈ jg_ws G, w.before args s = true) (hnw : ∀ w ∈ jg_nw G, w.before args s = true) (hov : ∀ (t : Nat) (C : String) (ci : Nat), (jg_tys G)[t]? = some (FieldType.object C, ci) → (Cond.arrayOver (.object C)).before args s = true) : ∃ (D : va_G) (cA : Nat → ClassId), jv_K G D cA s := by
  have h1 : ∀ ci : Nat, ∃ z : ClassId × (Nat → Nat), ∀ q : vw_C, (jg_cl G)[ci]? = some q → u_Kn s q.1 q.2.1 q.2.2 z.1 z.2 := by
    intro ci
    cases hq : (jg_cls G)[ci]? with
    | none =>
      refine ⟨(0, fun _ => 0), fun q h => ?_⟩
      simp [jg_cl, hq] at h
    | some w =>
      have hm := List.mem_of_getElem? hq
      obtain ⟨cC, iS, hk⟩ := u_known (C := w.1.1) (T := w.1.2.1) (N := w.1.2.2) (n := w.1.2.2) hts (hG.2.2.2.1 w hm).1 (hts _ (hI w hm))
      refine ⟨(cC, iS), fun q h => ?_⟩
      rw [jg_cl_at hq] at h
      cases h
      exact hk
  obtain ⟨f, hf⟩ := Classical.axiomOfChoice h1
  have h2 : ∀ t : Nat, ∃ c : ClassId, ∀ q : FieldType × Nat, (jg_tys G)[t]? = some q → ArrOfT s c q.1 ∧ va_RA s c q.1 := by
    intro t
    by_cases ht : 2 ≤ t
    · by_cases hl : t < (jg_tys G).length
      · obtain ⟨C, ci, w, hty, -, -⟩ := jg_tyO hG ht hl
        obtain ⟨comp, cA, kA, g1, g2, g3, g4, g5⟩ := Cond.arrayOver_spec (hov t C ci hty)
        refine ⟨cA, fun q h => ?_⟩
        rw [hty] at h
        cases h
        exact ⟨fun n z => ⟨fun k h => (by cases h), kA, g3, comp, g4⟩, kA, comp, g3, g4, g1, g5⟩
      · refine ⟨0, fun q h => ?_⟩
        rw [List.getElem?_eq_none (by omega)] at h
        cases h
    · have h01 : t = 0 ∨ t = 1 := by omega
      rcases h01 with rfl | rfl
      · obtain ⟨cA, kA, comp, g1, g2, g3⟩ := Cond.arrayClass_spec (hts _ hG.2.2.2.2.2.2.2.2.2.2.2.2.1)
        refine ⟨cA, fun q h => ?_⟩
        rw [hG.2.2.2.2.2.2.2.2.2.2.1] at h
        cases h
        exact ⟨fun n z => ⟨fun k h => (by cases h), kA, g2, comp, g3⟩, g1⟩
      · obtain ⟨cA, kA, comp, g1, g2, g3⟩ := Cond.arrayClass_spec (hts _ hG.2.2.2.2.2.2.2.2.2.2.2.2.2.1)
        refine ⟨cA, fun q h => ?_⟩
        rw [hG.2.2.2.2.2.2.2.2.2.2.2.1] at h
        cases h
        exact ⟨fun n z => ⟨fun k h => (by cases h), kA, g2, comp, g3⟩, g1⟩
  obtain ⟨cA, hcA⟩ := Classical.axiomOfChoice h2
  refine ⟨(fun ci => (f ci).1, fun ci => (f ci).2), cA, ⟨fun ci q h => hf ci q h, fun k q h => ?_⟩, fun w hw => ?_, fun t C ci h => hov t C ci h⟩
  · by_cases hk : k < (jg_tys G).length
    · rw [jv_tyl_at (List.getElem?_eq_getElem hk)] at h
      cases h
      exact hcA k _ (List.getElem?_eq_getElem hk)
    · simp [jv_tyl, hk] at h
  · have hz := hnw w hw
    rcases hG.2.1 w hw with ⟨a, i, b, n, d, k, rfl⟩ | ⟨a, i, x, k, rfl⟩
    · exact va_Nw.of rfl hz
    · exact va_Nw.of rfl hz
