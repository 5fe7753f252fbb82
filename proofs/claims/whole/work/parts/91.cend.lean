/-! ===== the class: tellCaller, end ===== -/
section CL
variable {X : Nat × (Nat → Int32)} {d : Nat} {I : Nat → Nat → Int32} {P : Nat → Nat → Option Nat} {M N : Nat → Nat → Int32} {ρ : Nat → Nat} {R W K O Q : Nat} {y x : Int32}
theorem Rel.tell (h : Rel I P M ρ R W x) {c : Nat} {v code : Int32} (hc : c < 12) (h0 : code = 0 ∨ 0 < code) : Rel (cTl I c code v) P (mTell M (-2 - nI c) v code) ρ R W x := by
  have e60 : I 60 = M 32 := h.s 60 (by decide)
  unfold cTl mTell
  rw [i32_ss, nn_nI (by omega), e60]
  by_cases hz : M 32 c = 0
  · rw [if_pos hz, if_pos (show (-2 : Int32) - nI c ≤ -2 ∧ M 32 c = 0 from ⟨ng_le (by omega), hz⟩)]
    have e1 : (if code = 0 then (1 : Int32) else 2) = if 0 < code then 2 else 1 := by
      rcases h0 with h0 | h0
      · subst h0; rfl
      · rw [if_pos h0, if_neg (fun z => by rw [z] at h0; exact absurd h0 (by decide))]
    have e2 : (if code = 0 then v else code) = if 0 < code then code else v := by
      rcases h0 with h0 | h0
      · subst h0; rfl
      · rw [if_pos h0, if_neg (fun z => by rw [z] at h0; exact absurd h0 (by decide))]
    rw [e1, e2]
    exact (h.both (a := 60) (b := 32) rfl (by decide) (by omega) (by omega) (by decide)).both (a := 61) (b := 33) rfl (by decide) (by omega) (by omega) (by decide)
  · rw [if_neg hz, if_neg (fun z => hz z.2)]
    exact h
theorem mTell_no {by_ v code : Int32} (h : ¬ by_ ≤ -2) : mTell M by_ v code = M := by unfold mTell; rw [if_neg (fun z => h z.1)]
/-- the row of i goes: in the class, before the telling -/
theorem RJ.cut {i t : Nat} (h : RJ I P M ρ (R + 1) W K O Q y x) (hi : i < R + 1) (hx : M 17 i = x ∨ (¬ M 23 i = 2 ∧ x = -1)) : Rel (rI I (ρ i) R) (rP P i R (ρ i)) (mRemove (u2 (u2 M 43 t (M 18 i)) 44 0 (nI (t + 1))) i (R + 1)) (rρ ρ i R) R W (nx (M 26 i)) := by
  refine h.1.cut h.2.h30 hi (fun f hf => by rw [mRemove_cut hf, u2_ne (by omega), u2_ne (by omega)]) ?_ (fun f hf a b => ?_) (fun k c hk hc z => ?_) (fun k hk hki z => ?_)
  · unfold mRemove
    funext q
    unfold mSh
    rw [if_neg (by omega), Nat.add_sub_cancel, u2_eq, u2_ne (by decide), u2_ne (by decide)]
  · funext q
    rw [mRemove_at (by omega), u2_ne b, u2_ne a]
  · intro e
    subst e
    have hn := (h.2.n.1 c hc).1
    rcases h.2.a.2.1 k hk with e | ⟨c', c1, c2, c3, c4⟩ | ⟨c', c1, c2, c3, c4, c5⟩
    · rw [e] at z; exact p_m1 hn z.symm
    · have := h.2.a.2.2.2
      exact ng_ne (by omega) hn (z.symm.trans c2)
    · have := h.2.n.inj hc c1 (z.symm.trans c3)
      subst this
      rcases hx with hx | hx
      · exact c2 hx
      · exact hx.1 c4
  · have hkx : ¬ M 17 k = x := by
      intro e
      rcases hx with hx | hx
      · exact hki (h.2.n.inj hk hi (e.trans hx.symm))
      · rw [hx.2] at e; exact p_m1 (h.2.n.1 k hk).1 e
    refine ⟨hkx, fun e => ?_⟩
    rcases h.2.a.1 k hk hkx with ⟨-, k2, k3, k4, k5⟩ | ⟨-, k4, -⟩
    · have := h.2.n.inj hi k3 (e.symm.trans k4)
      rw [← this] at k5
      apply z
      unfold nx
      rw [if_pos (by rw [k5]; exact (h.2.n.1 k hk).1), k5]
    · rw [k4] at e; exact p_m1 (h.2.n.1 i hi).1 e.symm
theorem rP_11 {i q : Nat} : rP P i R q 11 = P 11 := rP_ne (by decide)
/-- one that ends: nobody is told, or an outside call -/
theorem c35A {i t : Nat} {v code : Int32} (h : RJ I P M ρ (R + 1) W (R + 32 + (if M 23 i = 1 then 0 else 1)) O Q y x) (hi : i < R + 1) (ht : t < 30) (hx : M 17 i = x ∨ (¬ M 23 i = 2 ∧ x = -1)) (hl : ∀ k, k < W → ¬ M 30 k = M 17 i) (h0 : code = 0 ∨ 0 < code) (hcal : M 26 i < 0) (hd : 3 ≤ d) : ∃ I' P' g, (∀ a1 a6, jl gw X d 35 6 [some (.ref 1), a1, some (.int code), some (.int v), some (.int (nI t)), some (.ref (7 + ρ i)), a6] [] (he I P N) = jl gw X d 35 6 [some (.ref 1), a1, some (.int code), some (.int v), some (.int (nI (t + 1))), some .null, a6] [] (he I' P' N)) ∧ RJ I' P' (mOne M (R + 1) t i v code) (rρ ρ i R) R W (R + 32) O Q (-1) (-1) ∧ M 18 i = nI g ∧ g < 32 ∧ P' 11 = va_up (P 11) t (some (113 + g)) ∧ P' 12 = P 12 := by
  have h30 := h.2.h30
  obtain ⟨d', rfl⟩ : ∃ q, d = q + 1 := ⟨d - 1, by omega⟩
  have hone := J.one (K := R + 32) (v := v) (code := code) (t := t) h.2 hi (by omega) hx hl
  have hcut := h.cut (t := t) hi hx
  obtain ⟨g, m, q1, q2, q3, q4, hρ, q6, q7, q8, q9, q10, q11, -⟩ := h.row hi
  have hsz := h.size
  have hr2 : relR (u2 P 11 t (some (113 + g))) ρ := ⟨fun k hk => by rw [u2_ne (by decide)]; exact h.1.r.1 k hk, h.1.r.2⟩
  have hrem := c36 (X := X) (d := d' + 1) (I := I) (N := N) hr2 hsz h30 hi (by omega)
  have hnx : nx (M 26 i) = -1 := by unfold nx; rw [if_neg (Int32.not_le.mpr hcal)]
  rw [hnx] at hone hcut
  have h1 : ¬ (30 : Int32) ≤ nI t := nI_ge (b := 30) ht (by decide)
  have hP11 : Rel (rI I (ρ i) R) (rP (u2 P 11 t (some (113 + g))) i R (ρ i)) (mRemove (u2 (u2 M 43 t (M 18 i)) 44 0 (nI (t + 1))) i (R + 1)) (rρ ρ i R) R W (-1) := by
    have hb : ∀ f, f ≠ 11 → rP (u2 P 11 t (some (113 + g))) i R (ρ i) f = rP P i R (ρ i) f := by
      intro f hf
      by_cases h10 : f = 10
      · subst h10
        unfold rP
        rw [u2_eq, u2_eq]
        congr 1
      · rw [rP_ne h10, rP_ne h10, u2_ne hf]
    obtain ⟨s1, s2, s3, s4, s5, s6, s7, s8, s9⟩ := hcut
    refine ⟨s1, ⟨fun k hk => by rw [hb 10 (by decide)]; exact s2.1 k hk, s2.2⟩, s3, fun k hk => by rw [hb 0 (by decide), hb 1 (by decide)]; exact s4 k hk, fun k hk => by rw [hb 2 (by decide), hb 3 (by decide)]; exact s5 k hk, fun k hk => by rw [hb 4 (by decide)]; exact s6 k hk, s7, s8, s9⟩
  have hp2 : ∀ f, f ≠ 11 → f ≠ 10 → rP (u2 P 11 t (some (113 + g))) i R (ρ i) f = P f := fun f a b => by rw [rP_ne b, u2_ne a]
  have hp11 : rP (u2 P 11 t (some (113 + g))) i R (ρ i) 11 = va_up (P 11) t (some (113 + g)) := by rw [rP_11, u2_eq]
  rcases h.1.c i hi with ⟨z1, z2, z3⟩ | ⟨c, c1, c2, c3, c4⟩ | ⟨c, c1, c2, c3, c4⟩
  · refine ⟨rI I (ρ i) R, rP (u2 P 11 t (some (113 + g))) i R (ρ i), g, fun a1 a6 => ?_, ⟨?_, hone⟩, q3, q1, hp11, hp2 12 (by decide) (by decide)⟩
    · have hz2 : rP (u2 P 11 t (some (113 + g))) i R (ρ i) 2 (ρ i) = none := by rw [hp2 2 (by decide) (by decide)]; exact z2
      have hz3 : rP (u2 P 11 t (some (113 + g))) i R (ρ i) 3 (ρ i) = none := by rw [hp2 3 (by decide) (by decide)]; exact z3
      have htc : jv_F gw X (d' + 1) 37 [.ref 1, .ref (7 + ρ i), .int code, .int v] (he (rI I (ρ i) R) (rP (u2 P 11 t (some (113 + g))) i R (ρ i)) N) = some (some .null, he (rI I (ρ i) R) (rP (u2 P 11 t (some (113 + g))) i R (ρ i)) N) := by
        rw [e37 rfl]
        simp (disch := first | decide | omega | assumption | (simp (disch := decide) only [u2_ne, u2_same, mQueue]; assumption)) only [kV_some, kI_some, kR_some, kR_any, kH_some, kC_none, kC_some, jv_rsv_ref, jv_rsv_rf, jv_nz_ref, jv_nz_null, jv_nz_rf0, jv_nz_rf1, jv_rq_r1, jv_rq_r0, n10, n11, n00, Nat.reduceEqDiff, Option.bind_some, Option.bind_none, jv_isr_ref, jv_isr_rf, jv_isr_null, va_rf_some, va_rf_none, jv_cat1_int, jv_cat1_ref, jv_cat1_rf, if_true, if_false, eq_self, Option.toList_some, Option.toList_none, List.cons_append, List.nil_append, Bool.and_self, Bool.and_true, i32_10, i32_01, i32_80, nI_div8, nI_mul4, nI_mul8, nI_mul32, nI_add, ↓reduceIte, u2_ne, u2_same, r37_0, r37_1, r37_4, r37_6, r37_8, r37_11, r37_12, r37_14, r37_15, r37_16, r37_19, r37_22, r37_23, r37_26, r37_28, r37_29, r37_30, r37_33, r37_36, r37_37, r37_40, r37_41, r37_42, r37_45, r37_46, gt_rq_10, hz2, gt_rq_11, hz3]
      rw [r35_6]
      simp (disch := first | decide | omega | assumption | (simp (disch := decide) only [u2_ne, u2_same, mQueue]; assumption)) only [kV_some, kI_some, kR_some, kR_any, kH_some, kC_none, kC_some, jv_rsv_ref, jv_rsv_rf, jv_nz_ref, jv_nz_null, jv_nz_rf0, jv_nz_rf1, jv_rq_r1, jv_rq_r0, n10, n11, n00, Nat.reduceEqDiff, Option.bind_some, Option.bind_none, jv_isr_ref, jv_isr_rf, jv_isr_null, va_rf_some, va_rf_none, jv_cat1_int, jv_cat1_ref, jv_cat1_rf, if_true, if_false, eq_self, Option.toList_some, Option.toList_none, List.cons_append, List.nil_append, Bool.and_self, Bool.and_true, i32_10, i32_01, i32_80, nI_div8, nI_mul4, nI_mul8, nI_mul32, nI_add, ↓reduceIte, u2_ne, u2_same, r35_0, r35_1, r35_3, r35_4, r35_8, r35_11, r35_13, r35_15, r35_18, r35_19, r35_22, r35_24, r35_26, r35_29, r35_30, r35_33, r35_34, r35_37, r35_39, r35_42, r35_43, r35_45, r35_46, r35_47, r35_50, r35_52, r35_55, r35_57, r35_58, r35_59, r35_63, r35_66, r35_67, r35_68, r35_71, r35_73, r35_74, r35_77, r35_80, r35_83, h1, gt_1_5, gt_rq_1, q7, wl_39g, gt_1_3, ic_5, hrem, ic_1, htc, nI_1]
    · unfold mOne
      rw [z1, mTell_no (by decide)]
      exact hP11
  · refine ⟨cTl (rI I (ρ i) R) c code v, rP (u2 P 11 t (some (113 + g))) i R (ρ i), g, fun a1 a6 => ?_, ⟨?_, hone⟩, q3, q1, hp11, hp2 12 (by decide) (by decide)⟩
    · have hz2 : rP (u2 P 11 t (some (113 + g))) i R (ρ i) 2 (ρ i) = none := by rw [hp2 2 (by decide) (by decide)]; exact c3
      have hz3 : rP (u2 P 11 t (some (113 + g))) i R (ρ i) 3 (ρ i) = some (145 + c) := by rw [hp2 3 (by decide) (by decide)]; exact c4
      have htl := c40 (X := X) (d := d') (I := rI I (ρ i) R) (P := rP (u2 P 11 t (some (113 + g))) i R (ρ i)) (N := N) (code := code) (v := v) c1 (by omega)
      have htc : jv_F gw X (d' + 1) 37 [.ref 1, .ref (7 + ρ i), .int code, .int v] (he (rI I (ρ i) R) (rP (u2 P 11 t (some (113 + g))) i R (ρ i)) N) = some (some .null, he (cTl (rI I (ρ i) R) c code v) (rP (u2 P 11 t (some (113 + g))) i R (ρ i)) N) := by
        rw [e37 rfl]
        simp (disch := first | decide | omega | assumption | (simp (disch := decide) only [u2_ne, u2_same, mQueue]; assumption)) only [kV_some, kI_some, kR_some, kR_any, kH_some, kC_none, kC_some, jv_rsv_ref, jv_rsv_rf, jv_nz_ref, jv_nz_null, jv_nz_rf0, jv_nz_rf1, jv_rq_r1, jv_rq_r0, n10, n11, n00, Nat.reduceEqDiff, Option.bind_some, Option.bind_none, jv_isr_ref, jv_isr_rf, jv_isr_null, va_rf_some, va_rf_none, jv_cat1_int, jv_cat1_ref, jv_cat1_rf, if_true, if_false, eq_self, Option.toList_some, Option.toList_none, List.cons_append, List.nil_append, Bool.and_self, Bool.and_true, i32_10, i32_01, i32_80, nI_div8, nI_mul4, nI_mul8, nI_mul32, nI_add, ↓reduceIte, u2_ne, u2_same, r37_0, r37_1, r37_4, r37_6, r37_8, r37_11, r37_12, r37_14, r37_15, r37_16, r37_19, r37_22, r37_23, r37_26, r37_28, r37_29, r37_30, r37_33, r37_36, r37_37, r37_40, r37_41, r37_42, r37_45, r37_46, gt_rq_10, hz2, gt_rq_11, hz3, ic_ot, htl]
      rw [r35_6]
      simp (disch := first | decide | omega | assumption | (simp (disch := decide) only [u2_ne, u2_same, mQueue]; assumption)) only [kV_some, kI_some, kR_some, kR_any, kH_some, kC_none, kC_some, jv_rsv_ref, jv_rsv_rf, jv_nz_ref, jv_nz_null, jv_nz_rf0, jv_nz_rf1, jv_rq_r1, jv_rq_r0, n10, n11, n00, Nat.reduceEqDiff, Option.bind_some, Option.bind_none, jv_isr_ref, jv_isr_rf, jv_isr_null, va_rf_some, va_rf_none, jv_cat1_int, jv_cat1_ref, jv_cat1_rf, if_true, if_false, eq_self, Option.toList_some, Option.toList_none, List.cons_append, List.nil_append, Bool.and_self, Bool.and_true, i32_10, i32_01, i32_80, nI_div8, nI_mul4, nI_mul8, nI_mul32, nI_add, ↓reduceIte, u2_ne, u2_same, r35_0, r35_1, r35_3, r35_4, r35_8, r35_11, r35_13, r35_15, r35_18, r35_19, r35_22, r35_24, r35_26, r35_29, r35_30, r35_33, r35_34, r35_37, r35_39, r35_42, r35_43, r35_45, r35_46, r35_47, r35_50, r35_52, r35_55, r35_57, r35_58, r35_59, r35_63, r35_66, r35_67, r35_68, r35_71, r35_73, r35_74, r35_77, r35_80, r35_83, h1, gt_1_5, gt_rq_1, q7, wl_39g, gt_1_3, ic_5, hrem, ic_1, htc, nI_1]
    · unfold mOne
      rw [c2]
      exact hP11.tell c1 h0
  · exfalso
    have := (h.2.n.1 c c1).1
    rw [← c2] at this
    exact Int32.not_le.mpr hcal this
end CL
