/-! ===== the class: doStep whole, doSteps, run ===== -/
section CL
variable {X : Nat × (Nat → Int32)} {d : Nat} {I : Nat → Nat → Int32} {P : Nat → Nat → Option Nat} {M N : Nat → Nat → Int32} {ρ : Nat → Nat} {R W K O Q : Nat} {y x : Int32}
theorem c48 {i g m a n o : Nat} (hR : Rel I P (mStep M i) ρ R W (-1)) (h : runs M R W i O Q y) (hQ : Q + 1 < 2 ^ 30) (hs : atS M i g m a n) (hn : a < n) (ho : o < 15) (hop : M 5 (8 * (4 * (g / 8) + m) + a) = nI o) (hv : stOk o (M 6 (8 * (4 * (g / 8) + m) + a)) (M 7 (8 * (4 * (g / 8) + m) + a))) (hd : 6 ≤ d) : stp I P X d N ρ i o (M 6 (8 * (4 * (g / 8) + m) + a)) (M 7 (8 * (4 * (g / 8) + m) + a)) (mDo1 M R i g (8 * (4 * (g / 8) + m) + a) o) := by
  obtain ⟨s1, s2, s3, s4, s5, s6, s7⟩ := hs
  obtain ⟨v1, v2, v3, v4⟩ := hv
  have hst := h.step s5 (by omega)
  have hRJ : RJ I P (mStep M i) ρ R W (R + 31) O Q y (-1) := ⟨hR, hst.1⟩
  have hi := h.2.1
  have e : ∀ f, f ≠ 22 → mStep M i f = M f := fun f hf => mStep_at hf
  have g18 : mStep M i 18 i = nI g := by rw [e 18 (by decide)]; exact s1
  have hy : y = mStep M i 17 i := by rw [e 17 (by decide)]; exact h.2.2.1.symm
  have h23 : mStep M i 23 i = 1 := by rw [e 23 (by decide)]; exact h.2.2.2
  have h30 := h.1.h30
  generalize hva : M 6 (8 * (4 * (g / 8) + m) + a) = va at *
  generalize hvb : M 7 (8 * (4 * (g / 8) + m) + a) = vb at *
  rcases (show o = 0 ∨ o = 1 ∨ o = 2 ∨ o = 3 ∨ o = 4 ∨ o = 5 ∨ o = 6 ∨ o = 7 ∨ o = 8 ∨ o = 9 ∨ o = 10 ∨ o = 11 ∨ o = 12 ∨ o = 13 ∨ o = 14 by omega) with rfl | rfl | rfl | rfl | rfl | rfl | rfl | rfl | rfl | rfl | rfl | rfl | rfl | rfl | rfl
  · have := c48_0 (X := X) (N := N) (va := va) (vb := vb) hRJ hi g18 s2 hd
    rw [e 9 (by decide)] at this
    unfold mDo1
    rw [hva]
    exact this
  · have := c48_1 (X := X) (N := N) (va := va) (vb := vb) hRJ hi g18 s2 hd
    rw [e 9 (by decide), e 20 (by decide)] at this
    exact this
  · have := c48_2 (X := X) (N := N) (va := va) (vb := vb) hRJ hi g18 s2 hd
    rw [e 9 (by decide), e 21 (by decide)] at this
    exact this
  · obtain ⟨⟨w1, w2⟩, w3, w4⟩ := v1 (by omega)
    obtain ⟨b, b1, b2⟩ := inN (n := 32) (by decide) ⟨w1, w2⟩
    obtain ⟨c, c1, c2⟩ := inN (n := 4) (by decide) ⟨w3, w4⟩
    by_cases hR3 : R = 30
    · have eq : mDo1 M R i g (8 * (4 * (g / 8) + m) + a) 3 = (if mCatch (mStep M i) i = 1 then (mCaught (mStep M i) i, 0) else (mStep M i, 102)) := by show (if R = 30 then _ else _) = _; rw [if_pos hR3]
      rw [eq, b2]
      subst hR3
      exact c48_3f (g := g) hRJ hi b1 hd
    · have eq : mDo1 M R i g (8 * (4 * (g / 8) + m) + a) 3 = (mInvoke (mStep M i) R i g b c, -1) := by show (if R = 30 then _ else _) = _; rw [if_neg hR3, hva, hvb, b2, c2, nn_nI (by omega), nn_nI (by omega)]
      rw [eq, b2, c2]
      exact c48_3 hRJ hi g18 s2 hy h23 b1 c1 (by omega) hQ hd
  · obtain ⟨⟨w1, w2⟩, w3, w4⟩ := v1 (by omega)
    obtain ⟨b, b1, b2⟩ := inN (n := 32) (by decide) ⟨w1, w2⟩
    obtain ⟨c, c1, c2⟩ := inN (n := 4) (by decide) ⟨w3, w4⟩
    by_cases hR3 : R = 30
    · have eq : mDo1 M R i g (8 * (4 * (g / 8) + m) + a) 4 = (mStep M i, 102) := by show (if R = 30 then _ else _) = _; rw [if_pos hR3]
      rw [eq, b2]
      subst hR3
      exact c48_4f (g := g) hRJ hi b1 hd
    · have eq : mDo1 M R i g (8 * (4 * (g / 8) + m) + a) 4 = (mMake (mStep M i) R b (nI c) (M 9 g) (-1) 0, 0) := by show (if R = 30 then _ else _) = _; rw [if_neg hR3, hva, hvb, b2, c2, nn_nI (by omega)]
      have := c48_4 (X := X) (N := N) hRJ hi g18 s2 hy b1 c1 (by omega) hQ hd
      rw [e 9 (by decide)] at this
      rw [eq, b2, c2]
      exact this
  · have := c48_5 (X := X) (N := N) (va := va) (vb := vb) hRJ hi g18 s2 hd
    rw [e 42 (by decide)] at this
    exact this
  · have := c48_6 (X := X) (N := N) (va := va) (vb := vb) hRJ hi g18 s2 hd
    rw [e 17 (by decide)] at this
    exact this
  · have := c48_7 (X := X) (N := N) (va := va) (vb := vb) hRJ hi g18 s2 hd
    unfold mDo1
    rw [hva]
    exact this
  · have := c48_8 (X := X) (N := N) (va := va) (vb := vb) hRJ hi g18 s2 hd
    unfold mDo1
    rw [hva]
    exact this
  · have := c48_9 (X := X) (N := N) (va := va) (vb := vb) hRJ hi g18 s2 hd
    unfold mDo1
    rw [hva]
    exact this
  · exact c48_10 (X := X) (N := N) (va := va) (vb := vb) hRJ hi g18 s2 hd
  · exact c48_11 (X := X) (N := N) (va := va) (vb := vb) hRJ hi g18 s2 hd
  · have := c48_12 (X := X) (N := N) (va := va) (vb := vb) hRJ hi g18 s2 hd
    have e22 : mStep M i 22 i = M 22 i + 1 := by unfold mStep; rw [u2_same]
    rw [e 21 (by decide), e22] at this
    unfold mDo1
    rw [hva]
    exact this
  · have := c48_13 (X := X) (N := N) (va := va) (vb := vb) hRJ hi g18 s2 hd
    rw [e 9 (by decide)] at this
    exact this
  · have := c48_14 (X := X) (N := N) (va := va) (vb := vb) hRJ hi g18 s2 hd
    unfold mDo1
    rw [hva]
    exact this
theorem J.R_eq (h : J M R W K O Q y x) {V : Nat} (e : M 28 0 = nI V) (hV : V < 2 ^ 31) : R = V := (nI_eq (by have := h.h30; omega) hV).mp (h.hR.symm.trans e)
theorem J.W_eq (h : J M R W K O Q y x) {V : Nat} (e : M 31 0 = nI V) (hV : V < 2 ^ 31) : W = V := h.ok.W_eq e hV
theorem RJ.mono (h : RJ I P M ρ R W K O Q y x) {Q2 : Nat} (hQ : Q ≤ Q2) (hQ2 : Q2 < 2 ^ 30) : RJ I P M ρ R W K O Q2 y x := ⟨h.1, h.2.mono (Nat.le_refl _) h.2.ok.2.2.2.2.2.2.2 hQ hQ2⟩
theorem c47e {i g m a n : Nat} {code : Int32} (hR : Rel I P M ρ R W (-1)) (h : runs M R W i O Q y) (hs : M 18 i = nI g) (hg : g < 32) (h0 : code = 0 ∨ 0 < code) (hd : 5 ≤ d) : ∃ I' P' ρ' R' W', (∀ a2 a4 a5, jl gw X d 47 84 [some (.ref 1), some (.ref (7 + ρ i)), a2, some (.int code), a4, a5] [] (he I P N) = some (none, he I' P' N)) ∧ RJ I' P' (mOver M R i (M 9 g) code) ρ' R' W' (R' + 32) O Q (-1) (-1) := by
  obtain ⟨h1, h2, h3, h4⟩ := h
  obtain ⟨R0, rfl⟩ : ∃ q, R = q + 1 := ⟨R - 1, by omega⟩
  have hRJ : RJ I P M ρ (R0 + 1) W (R0 + 32 + (if M 23 i = 1 then 0 else 1)) O Q y (-1) := by rw [if_pos h4]; exact ⟨hR, h1⟩
  have e32 : I 32 = M 9 := hR.s 32 (by decide)
  obtain ⟨g1, m, b1, b2, b3, b4, b5, b6, b7, -⟩ := hRJ.row h2
  have eg : g1 = g := (nI_eq (by omega) (by omega)).mp (b3.symm.trans hs)
  subst eg
  obtain ⟨I', P', ρ', R', W', k1, k2, -, -⟩ := c35 (X := X) (d := d) (N := N) (v := M 9 g1) (code := code) hRJ h2 (Or.inr ⟨by rw [h4]; decide, rfl⟩) (fun k hk => by rw [h3]; exact (h1.l.1 k hk).1) h0 hd
  refine ⟨I', P', ρ', R', W', fun a2 a4 a5 => ?_, k2⟩
  have hm1 : ¬ code = -1 := by
    rcases h0 with h0 | h0
    · rw [h0]; decide
    · exact fun z => by rw [z] at h0; exact absurd h0 (by decide)
  simp (disch := first | decide | omega | assumption | (simp (disch := decide) only [u2_ne, u2_same, mQueue]; assumption)) only [kV_some, kI_some, kR_some, kR_any, kH_some, kC_none, kC_some, jv_rsv_ref, jv_rsv_rf, jv_nz_ref, jv_nz_null, jv_nz_rf0, jv_nz_rf1, jv_rq_r1, jv_rq_r0, n10, n11, n00, Nat.reduceEqDiff, Option.bind_some, Option.bind_none, jv_isr_ref, jv_isr_rf, jv_isr_null, va_rf_some, va_rf_none, jv_cat1_int, jv_cat1_ref, jv_cat1_rf, if_true, if_false, eq_self, Option.toList_some, Option.toList_none, List.cons_append, List.nil_append, Bool.and_self, Bool.and_true, i32_10, i32_01, i32_80, nI_div8, nI_mul4, nI_mul8, nI_mul32, nI_add, ↓reduceIte, u2_ne, u2_same, r47_0, r47_1, r47_4, r47_5, r47_6, r47_9, r47_10, r47_11, r47_12, r47_13, r47_17, r47_19, r47_22, r47_23, r47_26, r47_27, r47_30, r47_31, r47_34, r47_37, r47_38, r47_41, r47_43, r47_44, r47_46, r47_47, r47_48, r47_51, r47_52, r47_53, r47_54, r47_57, r47_59, r47_60, r47_61, r47_64, r47_66, r47_67, r47_68, r47_71, r47_73, r47_74, r47_77, r47_78, r47_81, r47_84, r47_85, r47_86, r47_89, r47_90, r47_91, r47_92, r47_93, r47_96, r47_99, r47_102, hm1, gt_rq_1, b7, gt_gr_4, e32, ic_1, k1]
theorem c47l {i g m : Nat} (hg : g < 32) (hm : m < 4) (hd : 6 ≤ d) : ∀ (f : Nat) (M I : Nat → Nat → Int32) (P : Nat → Nat → Option Nat) (R W Q ii a : Nat), Rel I P M ρ R W (-1) → runs M R W i O Q y → Q + f < 2 ^ 30 → M 18 i = nI g → M 19 i = nI m → M 22 i = nI a → a < 100 → 9 ≤ a + f → 0 < f → ii + f = 9 → ∃ I' P' ρ' R' W', (∀ a5, jl gw X d 47 15 [some (.ref 1), some (.ref (7 + ρ i)), some (.ref (43 + 18 * (g / 8) + 4 * m)), some (.int 0), some (.int (nI ii)), a5] [] (he I P N) = some (none, he I' P' N)) ∧ RJ I' P' (mTurn y f M) ρ' R' W' (R' + 32) O (Q + f) (-1) (-1) := by
  intro f
  induction f with
  | zero => intro M I P R W Q ii a _ _ _ _ _ _ _ _ hf; omega
  | succ f ih =>
    intro M I P R W Q ii a hR h hQ h18 h19 ha ha100 hf hf0 hii
    obtain ⟨g1, m1, a1, n, hs, z1, z2, z3, z4, z5⟩ := h.at
    obtain ⟨s1, s2, s3, s4, s5, s6, s7⟩ := hs
    have eg : g1 = g := (nI_eq (by omega) (by omega)).mp (s1.symm.trans h18)
    have em : m1 = m := (nI_eq (by omega) (by omega)).mp (s3.symm.trans h19)
    have ea : a1 = a := (nI_eq (by omega) (by omega)).mp (s5.symm.trans ha)
    subst eg
    subst em
    subst ea
    have hs : atS M i g1 m1 a1 n := ⟨s1, s2, s3, s4, s5, s6, s7⟩
    have h8 : g1 / 8 < 4 := by omega
    have h30 := h.1.h30
    have hi := h.2.1
    have hRJ : RJ I P M ρ R W (R + 31) O Q y (-1) := ⟨hR, h.1⟩
    obtain ⟨g2, m2, b1, b2, b3, b4, b5, b6, b7, b8, b9, b10, b11, -⟩ := hRJ.row hi
    have e12 : I 12 = M 4 := hR.s 12 (by decide)
    have e15 : I 15 = M 5 := hR.s 15 (by decide)
    have e16 : I 16 = M 6 := hR.s 16 (by decide)
    have e17 : I 17 = M 7 := hR.s 17 (by decide)
    rw [s5] at b11
    rw [mTurn_s h hs ha100]
    by_cases hna : n ≤ a1
    · obtain ⟨I', P', ρ', R', W', k1, k2⟩ := c47e (X := X) (d := d) (N := N) (m := m1) (a := a1) (n := n) (code := 0) hR h s1 s2 (Or.inl rfl) (by omega)
      rw [if_pos hna]
      refine ⟨I', P', ρ', R', W', fun a5 => ?_, k2.mono (by omega) hQ⟩
      rw [r47_15]
      have c2 : nI n ≤ nI a1 := nI_le hna (by omega)
      by_cases h8i : 8 ≤ ii
      · have c1 : (8 : Int32) ≤ nI ii := nI_le (a := 8) h8i (by omega)
        simp (disch := first | decide | omega | assumption | (simp (disch := decide) only [u2_ne, u2_same, mQueue]; assumption)) only [kV_some, kI_some, kR_some, kR_any, kH_some, kC_none, kC_some, jv_rsv_ref, jv_rsv_rf, jv_nz_ref, jv_nz_null, jv_nz_rf0, jv_nz_rf1, jv_rq_r1, jv_rq_r0, n10, n11, n00, Nat.reduceEqDiff, Option.bind_some, Option.bind_none, jv_isr_ref, jv_isr_rf, jv_isr_null, va_rf_some, va_rf_none, jv_cat1_int, jv_cat1_ref, jv_cat1_rf, if_true, if_false, eq_self, Option.toList_some, Option.toList_none, List.cons_append, List.nil_append, Bool.and_self, Bool.and_true, i32_10, i32_01, i32_80, nI_div8, nI_mul4, nI_mul8, nI_mul32, nI_add, ↓reduceIte, u2_ne, u2_same, r47_0, r47_1, r47_4, r47_5, r47_6, r47_9, r47_10, r47_11, r47_12, r47_13, r47_17, r47_19, r47_22, r47_23, r47_26, r47_27, r47_30, r47_31, r47_34, r47_37, r47_38, r47_41, r47_43, r47_44, r47_46, r47_47, r47_48, r47_51, r47_52, r47_53, r47_54, r47_57, r47_59, r47_60, r47_61, r47_64, r47_66, r47_67, r47_68, r47_71, r47_73, r47_74, r47_77, r47_78, r47_81, r47_85, r47_86, r47_89, r47_90, r47_91, r47_92, r47_93, r47_96, r47_99, r47_102, c1]
        exact k1 _ _ _
      · have c1 : ¬ (8 : Int32) ≤ nI ii := nI_ge (b := 8) (by omega) (by decide)
        simp (disch := first | decide | omega | assumption | (simp (disch := decide) only [u2_ne, u2_same, mQueue]; assumption)) only [kV_some, kI_some, kR_some, kR_any, kH_some, kC_none, kC_some, jv_rsv_ref, jv_rsv_rf, jv_nz_ref, jv_nz_null, jv_nz_rf0, jv_nz_rf1, jv_rq_r1, jv_rq_r0, n10, n11, n00, Nat.reduceEqDiff, Option.bind_some, Option.bind_none, jv_isr_ref, jv_isr_rf, jv_isr_null, va_rf_some, va_rf_none, jv_cat1_int, jv_cat1_ref, jv_cat1_rf, if_true, if_false, eq_self, Option.toList_some, Option.toList_none, List.cons_append, List.nil_append, Bool.and_self, Bool.and_true, i32_10, i32_01, i32_80, nI_div8, nI_mul4, nI_mul8, nI_mul32, nI_add, ↓reduceIte, u2_ne, u2_same, r47_0, r47_1, r47_4, r47_5, r47_6, r47_9, r47_10, r47_11, r47_12, r47_13, r47_17, r47_19, r47_22, r47_23, r47_26, r47_27, r47_30, r47_31, r47_34, r47_37, r47_38, r47_41, r47_43, r47_44, r47_46, r47_47, r47_48, r47_51, r47_52, r47_53, r47_54, r47_57, r47_59, r47_60, r47_61, r47_64, r47_66, r47_67, r47_68, r47_71, r47_73, r47_74, r47_77, r47_78, r47_81, r47_85, r47_86, r47_89, r47_90, r47_91, r47_92, r47_93, r47_96, r47_99, r47_102, c1, gt_rq_7, b11, gt_mt_3, e12, s6, c2]
        exact k1 _ _ _
    · have hna' : a1 < n := by omega
      rw [if_neg hna]
      obtain ⟨o, ho, hop, hv⟩ := op_of h hs hna'
      have hdo := mDo_J h (by omega) hs hna'
      rw [mDo_op hs (by omega) ho hop] at hdo ⊢
      have hRs : Rel (u2 I 45 (ρ i) (nI (a1 + 1))) P (mStep M i) ρ R W (-1) := by
        have := hR.row (a := 45) (b := 22) (v := nI (a1 + 1)) h30 hi (by omega) rfl
        unfold mStep
        rw [s5, nI_1]
        exact this
      obtain ⟨I1, P1, R1, W1, k1, k2, k3, k4, k5, k6⟩ := c48 (X := X) (d := d) (N := N) hRs h (by omega) hs hna' ho hop hv (by omega)
      generalize mDo1 M R i g1 (8 * (4 * (g1 / 8) + m1) + a1) o = r at *
      have c1 : ¬ (8 : Int32) ≤ nI ii := nI_ge (b := 8) (by omega) (by decide)
      have c2 : ¬ nI n ≤ nI a1 := nI_ge (by omega) (by omega)
      have hstep : ∀ a5, ∃ b5, jl gw X d 47 15 [some (.ref 1), some (.ref (7 + ρ i)), some (.ref (43 + 18 * (g1 / 8) + 4 * m1)), some (.int 0), some (.int (nI ii)), a5] [] (he I P N) = jl gw X d 47 15 [some (.ref 1), some (.ref (7 + ρ i)), some (.ref (43 + 18 * (g1 / 8) + 4 * m1)), some (.int r.2), some (.int (nI (ii + 1))), b5] [] (he I1 P1 N) := by
        intro a5
        refine ⟨some (.int (nI a1)), ?_⟩
        conv => lhs; rw [r47_15]
        simp (disch := first | decide | omega | assumption | (simp (disch := decide) only [u2_ne, u2_same, mQueue]; assumption)) only [kV_some, kI_some, kR_some, kR_any, kH_some, kC_none, kC_some, jv_rsv_ref, jv_rsv_rf, jv_nz_ref, jv_nz_null, jv_nz_rf0, jv_nz_rf1, jv_rq_r1, jv_rq_r0, n10, n11, n00, Nat.reduceEqDiff, Option.bind_some, Option.bind_none, jv_isr_ref, jv_isr_rf, jv_isr_null, va_rf_some, va_rf_none, jv_cat1_int, jv_cat1_ref, jv_cat1_rf, if_true, if_false, eq_self, Option.toList_some, Option.toList_none, List.cons_append, List.nil_append, Bool.and_self, Bool.and_true, i32_10, i32_01, i32_80, nI_div8, nI_mul4, nI_mul8, nI_mul32, nI_add, ↓reduceIte, u2_ne, u2_same, r47_0, r47_1, r47_4, r47_5, r47_6, r47_9, r47_10, r47_11, r47_12, r47_13, r47_17, r47_19, r47_22, r47_23, r47_26, r47_27, r47_30, r47_31, r47_34, r47_37, r47_38, r47_41, r47_43, r47_44, r47_46, r47_47, r47_48, r47_51, r47_52, r47_53, r47_54, r47_57, r47_59, r47_60, r47_61, r47_64, r47_66, r47_67, r47_68, r47_71, r47_73, r47_74, r47_77, r47_78, r47_81, r47_85, r47_86, r47_89, r47_90, r47_91, r47_92, r47_93, r47_96, r47_99, r47_102, c1, gt_rq_7, b11, gt_mt_3, e12, s6, c2, nI_1, pt_rq_7, gt_mt_0, gt_mt_1, gt_mt_2, rd_ops, rd_as, rd_bs, e15, e16, e17, hop, ic_1, k1]
      rcases hdo with ⟨r0, R', W', hr, r18, r19, r4, a', ra, raa, ra16⟩ | ⟨rm, R', W', hJ⟩ | ⟨rc, hr⟩
      · rw [if_pos r0]
        have hRR : R' = R1 := hr.1.R_eq k3 (by omega)
        have hWW : W' = W1 := hr.1.W_eq k5 (by omega)
        subst hRR
        subst hWW
        obtain ⟨I', P', ρ', R', W', t1, t2⟩ := ih r.1 I1 P1 R' W' (Q + 1) (ii + 1) a' k2 hr (by omega) (by rw [r18]; exact h18) (by rw [r19]; exact h19) ra (by omega) (by omega) (by omega) (by omega)
        refine ⟨I', P', ρ', R', W', fun a5 => ?_, by rw [show Q + (f + 1) = Q + 1 + f by omega]; exact t2⟩
        obtain ⟨b5, hb⟩ := hstep a5
        rw [hb, r0]
        exact t1 b5
      · have n0 : ¬ r.2 = 0 := by rw [rm]; decide
        rw [if_neg n0, if_pos rm]
        have hRR : R' = R1 := hJ.R_eq k3 (by omega)
        have hWW : W' = W1 := hJ.W_eq k5 (by omega)
        subst hRR
        subst hWW
        refine ⟨I1, P1, ρ, R', W', fun a5 => ?_, RJ.mono ⟨k2, hJ⟩ (by omega) hQ⟩
        obtain ⟨b5, hb⟩ := hstep a5
        rw [hb, r47_15, rm]
        have nm1 : ¬ (-1 : Int32) = 0 := by decide
        by_cases h8i : 8 ≤ ii + 1
        · have c1 : (8 : Int32) ≤ nI (ii + 1) := nI_le (a := 8) h8i (by omega)
          simp (disch := first | decide | omega | assumption | (simp (disch := decide) only [u2_ne, u2_same, mQueue]; assumption)) only [kV_some, kI_some, kR_some, kR_any, kH_some, kC_none, kC_some, jv_rsv_ref, jv_rsv_rf, jv_nz_ref, jv_nz_null, jv_nz_rf0, jv_nz_rf1, jv_rq_r1, jv_rq_r0, n10, n11, n00, Nat.reduceEqDiff, Option.bind_some, Option.bind_none, jv_isr_ref, jv_isr_rf, jv_isr_null, va_rf_some, va_rf_none, jv_cat1_int, jv_cat1_ref, jv_cat1_rf, if_true, if_false, eq_self, Option.toList_some, Option.toList_none, List.cons_append, List.nil_append, Bool.and_self, Bool.and_true, i32_10, i32_01, i32_80, nI_div8, nI_mul4, nI_mul8, nI_mul32, nI_add, ↓reduceIte, u2_ne, u2_same, r47_0, r47_1, r47_4, r47_5, r47_6, r47_9, r47_10, r47_11, r47_12, r47_13, r47_17, r47_19, r47_22, r47_23, r47_26, r47_27, r47_30, r47_31, r47_34, r47_37, r47_38, r47_41, r47_43, r47_44, r47_46, r47_47, r47_48, r47_51, r47_52, r47_53, r47_54, r47_57, r47_59, r47_60, r47_61, r47_64, r47_66, r47_67, r47_68, r47_71, r47_73, r47_74, r47_77, r47_78, r47_81, r47_84, r47_85, r47_86, r47_89, r47_90, r47_91, r47_92, r47_93, r47_96, r47_99, r47_102, c1]
        · have c1 : ¬ (8 : Int32) ≤ nI (ii + 1) := nI_ge (b := 8) (by omega) (by decide)
          simp (disch := first | decide | omega | assumption | (simp (disch := decide) only [u2_ne, u2_same, mQueue]; assumption)) only [kV_some, kI_some, kR_some, kR_any, kH_some, kC_none, kC_some, jv_rsv_ref, jv_rsv_rf, jv_nz_ref, jv_nz_null, jv_nz_rf0, jv_nz_rf1, jv_rq_r1, jv_rq_r0, n10, n11, n00, Nat.reduceEqDiff, Option.bind_some, Option.bind_none, jv_isr_ref, jv_isr_rf, jv_isr_null, va_rf_some, va_rf_none, jv_cat1_int, jv_cat1_ref, jv_cat1_rf, if_true, if_false, eq_self, Option.toList_some, Option.toList_none, List.cons_append, List.nil_append, Bool.and_self, Bool.and_true, i32_10, i32_01, i32_80, nI_div8, nI_mul4, nI_mul8, nI_mul32, nI_add, ↓reduceIte, u2_ne, u2_same, r47_0, r47_1, r47_4, r47_5, r47_6, r47_9, r47_10, r47_11, r47_12, r47_13, r47_17, r47_19, r47_22, r47_23, r47_26, r47_27, r47_30, r47_31, r47_34, r47_37, r47_38, r47_41, r47_43, r47_44, r47_46, r47_47, r47_48, r47_51, r47_52, r47_53, r47_54, r47_57, r47_59, r47_60, r47_61, r47_64, r47_66, r47_67, r47_68, r47_71, r47_73, r47_74, r47_77, r47_78, r47_81, r47_84, r47_85, r47_86, r47_89, r47_90, r47_91, r47_92, r47_93, r47_96, r47_99, r47_102, c1, nm1]
      · have n0 : ¬ r.2 = 0 := fun z => by rw [z] at rc; exact absurd rc (by decide)
        have n1 : ¬ r.2 = -1 := fun z => by rw [z] at rc; exact absurd rc (by decide)
        have hRR : R = R1 := hr.1.R_eq k3 (by omega)
        have hWW : W = W1 := hr.1.W_eq k5 (by omega)
        subst hRR
        subst hWW
        have r18 : ∃ g3 : Nat, g3 < 32 ∧ r.1 18 i = nI g3 := by obtain ⟨g3, w1, w2, -⟩ := hr.1.wh hr.2.1; exact ⟨g3, w1, w2⟩
        obtain ⟨g3, w1, w2⟩ := r18
        obtain ⟨I', P', ρ', R', W', t1, t2⟩ := c47e (X := X) (d := d) (N := N) (m := m1) (a := a1) (n := n) (code := r.2) k2 hr w2 w1 (Or.inr rc) (by omega)
        rw [if_neg n0, if_neg n1, mOver_v (v2 := r.1 9 g3) rc]
        refine ⟨I', P', ρ', R', W', fun a5 => ?_, t2.mono (by omega) hQ⟩
        obtain ⟨b5, hb⟩ := hstep a5
        rw [hb, r47_15]
        by_cases h8i : 8 ≤ ii + 1
        · have c1 : (8 : Int32) ≤ nI (ii + 1) := nI_le (a := 8) h8i (by omega)
          simp (disch := first | decide | omega | assumption | (simp (disch := decide) only [u2_ne, u2_same, mQueue]; assumption)) only [kV_some, kI_some, kR_some, kR_any, kH_some, kC_none, kC_some, jv_rsv_ref, jv_rsv_rf, jv_nz_ref, jv_nz_null, jv_nz_rf0, jv_nz_rf1, jv_rq_r1, jv_rq_r0, n10, n11, n00, Nat.reduceEqDiff, Option.bind_some, Option.bind_none, jv_isr_ref, jv_isr_rf, jv_isr_null, va_rf_some, va_rf_none, jv_cat1_int, jv_cat1_ref, jv_cat1_rf, if_true, if_false, eq_self, Option.toList_some, Option.toList_none, List.cons_append, List.nil_append, Bool.and_self, Bool.and_true, i32_10, i32_01, i32_80, nI_div8, nI_mul4, nI_mul8, nI_mul32, nI_add, ↓reduceIte, u2_ne, u2_same, r47_0, r47_1, r47_4, r47_5, r47_6, r47_9, r47_10, r47_11, r47_12, r47_13, r47_17, r47_19, r47_22, r47_23, r47_26, r47_27, r47_30, r47_31, r47_34, r47_37, r47_38, r47_41, r47_43, r47_44, r47_46, r47_47, r47_48, r47_51, r47_52, r47_53, r47_54, r47_57, r47_59, r47_60, r47_61, r47_64, r47_66, r47_67, r47_68, r47_71, r47_73, r47_74, r47_77, r47_78, r47_81, r47_85, r47_86, r47_89, r47_90, r47_91, r47_92, r47_93, r47_96, r47_99, r47_102, c1]
          exact t1 _ _ _
        · have c1 : ¬ (8 : Int32) ≤ nI (ii + 1) := nI_ge (b := 8) (by omega) (by decide)
          simp (disch := first | decide | omega | assumption | (simp (disch := decide) only [u2_ne, u2_same, mQueue]; assumption)) only [kV_some, kI_some, kR_some, kR_any, kH_some, kC_none, kC_some, jv_rsv_ref, jv_rsv_rf, jv_nz_ref, jv_nz_null, jv_nz_rf0, jv_nz_rf1, jv_rq_r1, jv_rq_r0, n10, n11, n00, Nat.reduceEqDiff, Option.bind_some, Option.bind_none, jv_isr_ref, jv_isr_rf, jv_isr_null, va_rf_some, va_rf_none, jv_cat1_int, jv_cat1_ref, jv_cat1_rf, if_true, if_false, eq_self, Option.toList_some, Option.toList_none, List.cons_append, List.nil_append, Bool.and_self, Bool.and_true, i32_10, i32_01, i32_80, nI_div8, nI_mul4, nI_mul8, nI_mul32, nI_add, ↓reduceIte, u2_ne, u2_same, r47_0, r47_1, r47_4, r47_5, r47_6, r47_9, r47_10, r47_11, r47_12, r47_13, r47_17, r47_19, r47_22, r47_23, r47_26, r47_27, r47_30, r47_31, r47_34, r47_37, r47_38, r47_41, r47_43, r47_44, r47_46, r47_47, r47_48, r47_51, r47_52, r47_53, r47_54, r47_57, r47_59, r47_60, r47_61, r47_64, r47_66, r47_67, r47_68, r47_71, r47_73, r47_74, r47_77, r47_78, r47_81, r47_85, r47_86, r47_89, r47_90, r47_91, r47_92, r47_93, r47_96, r47_99, r47_102, c1, n0]
          exact t1 _ _ _
theorem c47 {i : Nat} (hR : Rel I P M ρ R W (-1)) (h : runs M R W i O Q y) (hQ : Q + 9 < 2 ^ 30) (hd : 7 ≤ d) : ∃ I' P' ρ' R' W', jv_F gw X d 47 [.ref 1, .ref (7 + ρ i)] (he I P N) = some (none, he I' P' N) ∧ RJ I' P' (mTurn y 9 M) ρ' R' W' (R' + 32) O (Q + 9) (-1) (-1) := by
  obtain ⟨d, rfl⟩ : ∃ q, d = q + 1 := ⟨d - 1, by omega⟩
  obtain ⟨g, m, a, n, hs, z1, z2, z3, z4, z5⟩ := h.at
  obtain ⟨s1, s2, s3, s4, s5, s6, s7⟩ := hs
  have hRJ : RJ I P M ρ R W (R + 31) O Q y (-1) := ⟨hR, h.1⟩
  obtain ⟨g2, m2, b1, b2, b3, b4, b5, b6, b7, b8, b9, b10, b11, -⟩ := hRJ.row h.2.1
  have eg : g2 = g := (nI_eq (by omega) (by omega)).mp (b3.symm.trans s1)
  have em : m2 = m := (nI_eq (by omega) (by omega)).mp (b4.symm.trans s3)
  subst eg
  subst em
  obtain ⟨I', P', ρ', R', W', k1, k2⟩ := c47l (X := X) (d := d) (N := N) s2 s4 (by omega) 9 M I P R W Q 0 a hR h hQ s1 s3 s5 z1 (by omega) (by omega) (by omega)
  refine ⟨I', P', ρ', R', W', ?_, k2⟩
  rw [e47 rfl]
  simp (disch := first | decide | omega | assumption | (simp (disch := decide) only [u2_ne, u2_same, mQueue]; assumption)) only [kV_some, kI_some, kR_some, kR_any, kH_some, kC_none, kC_some, jv_rsv_ref, jv_rsv_rf, jv_nz_ref, jv_nz_null, jv_nz_rf0, jv_nz_rf1, jv_rq_r1, jv_rq_r0, n10, n11, n00, Nat.reduceEqDiff, Option.bind_some, Option.bind_none, jv_isr_ref, jv_isr_rf, jv_isr_null, va_rf_some, va_rf_none, jv_cat1_int, jv_cat1_ref, jv_cat1_rf, if_true, if_false, eq_self, Option.toList_some, Option.toList_none, List.cons_append, List.nil_append, Bool.and_self, Bool.and_true, i32_10, i32_01, i32_80, nI_div8, nI_mul4, nI_mul8, nI_mul32, nI_add, ↓reduceIte, u2_ne, u2_same, r47_0, r47_1, r47_4, r47_5, r47_6, r47_9, r47_10, r47_11, r47_12, r47_13, r47_17, r47_19, r47_22, r47_23, r47_26, r47_27, r47_30, r47_31, r47_34, r47_37, r47_38, r47_41, r47_43, r47_44, r47_46, r47_47, r47_48, r47_51, r47_52, r47_53, r47_54, r47_57, r47_59, r47_60, r47_61, r47_64, r47_66, r47_67, r47_68, r47_71, r47_73, r47_74, r47_77, r47_78, r47_81, r47_84, r47_85, r47_86, r47_89, r47_90, r47_91, r47_92, r47_93, r47_96, r47_99, r47_102, gt_rq_3, b8]
  exact k1 none
/-- the first of the line is taken -/
theorem Rel.pop (h : Rel I P M ρ R (W + 1) x) (h62 : W + 1 ≤ 62) (hW : M 31 0 = nI (W + 1)) : ∃ f, f < 62 ∧ I 52 0 = nI f ∧ I 53 0 = nI (W + 1) ∧ I 54 f = M 30 0 ∧ Rel (u2 (u2 I 52 0 (nI ((f + 1) % 62))) 53 0 (nI W)) P (mPop M W) ρ R W x := by
  obtain ⟨h1, h2, h3, h4, h5, h6, h7, ⟨f, f1, f2, f3⟩, h9⟩ := h
  have i53 : I 53 0 = nI (W + 1) := by rw [h1 53 (by decide)]; exact hW
  have f30 := f3 0 (by omega)
  rw [Nat.add_zero, Nat.mod_eq_of_lt f1] at f30
  refine ⟨f, f1, f2, i53, f30, ?_, h2, fun a k ha hk => ?_, fun k hk => ?_, fun k hk => ?_, fun k hk hx => ?_, fun k hk1 hk2 => ?_, ⟨(f + 1) % 62, Nat.mod_lt _ (by decide), ?_, fun k hk => ?_⟩, ?_⟩
  · have : relS (u2 (u2 I 52 0 (nI ((f + 1) % 62))) 53 0 (nI W)) (u2 M 31 0 (nI W)) := (h1.left rfl).both rfl (by decide)
    intro a ha
    rw [this a ha]
    unfold mPop
    rw [mLs_at (fun z => by
      have e := lc_cl ha
      rw [z] at e
      have : lc 30 = 99 := rfl
      rw [this] at e
      rw [← e] at ha
      exact ha rfl)]
  · have ea : (40 ≤ a ∧ a ≤ 45) ∧ 17 ≤ cq a ∧ cq a ≤ 23 := by
      unfold cq at *
      split at ha <;> first | (constructor <;> decide) | exact absurd rfl ha
    rw [u2_ne (by omega), u2_ne (by omega), mPop_at (by omega) (by omega)]
    exact h3 a k ha hk
  · rw [u2_ne (show (46 : Nat) ≠ 53 by decide), u2_ne (show (46 : Nat) ≠ 52 by decide), u2_ne (show (47 : Nat) ≠ 53 by decide), u2_ne (show (47 : Nat) ≠ 52 by decide), u2_ne (show (48 : Nat) ≠ 53 by decide), u2_ne (show (48 : Nat) ≠ 52 by decide), mPop_at (by decide) (by decide), mPop_at (by decide) (by decide), mPop_at (by decide) (by decide), mPop_at (by decide) (by decide), mPop_at (by decide) (by decide)]
    exact h4 k hk
  · rw [mPop_at (by decide) (by decide), mPop_at (by decide) (by decide)]; exact h5 k hk
  · rw [mPop_at (by decide) (by decide)] at hx
    rw [mPop_at (by decide) (by decide), mPop_at (by decide) (by decide)]; exact h6 k hk hx
  · rw [u2_ne (by decide), u2_ne (by decide)]; exact h7 k hk1 hk2
  · rw [u2_ne (by decide), u2_same]
  · rw [u2_ne (by decide), u2_ne (by decide), mPop_30 hk, ← f3 (k + 1) (by omega)]
    congr 1
    omega
  · rw [mPop_at (by decide) (by decide)]; exact h9
/-- one turn of run -/
theorem c28o (h : RJ I P M ρ R (W + 1) (R + 32) O Q (-1) (-1)) (hQ : Q + 9 < 2 ^ 30) (hd : 7 ≤ d) : ∃ I' P' ρ' R' W', (∀ a1 c, ∀ a3, jl gw X d 28 29 [some (.ref 1), a1, some (.int (nI c)), a3] [] (he I P N) = jl gw X d 28 14 [some (.ref 1), a1, some (.int (nI (c + 1))), some (.int (M 30 0))] [] (he I' P' N)) ∧ RJ I' P' (mOneT M) ρ' R' W' (R' + 32) O (Q + 9) (-1) (-1) := by
  have hW := h.2.ok.W
  have h62 : W + 1 ≤ 62 := by have a := h.2.ok.2.2.2.2.2.2.1; have b := h.2.ok.2.2.2.2.2.2.2; omega
  obtain ⟨f, f1, f2, f3, f4, hp⟩ := h.1.pop h62 h.2.hW
  have htk := c29 (X := X) (d := d) (P := P) (N := N) (W := W) f2 f1 f3 (by omega)
  rw [f4] at htk
  have hJp := h.2.pop
  rcases h.2.first with ⟨g, g1, g2, g3, g4, g5⟩ | ⟨i, i1, i2, i3⟩
  · rw [g5]
    have hp' := hp
    have g8 : mPop M W 8 g = 1 := by rw [mPop_at (by decide) (by decide)]; exact g3
    obtain ⟨I', P', ρ', R', W', k1, k2⟩ := c30 (X := X) (d := d) (N := N) (g := g) ⟨hp, by rw [← g2]; exact hJp⟩ g1 g8 hd
    refine ⟨I', P', ρ', R', W', fun a1 c a3 => ?_, k2.mono (by omega) hQ⟩
    have c1 : ¬ (-2 : Int32) < -2 - nI g := by rw [← g2]; exact Int32.not_lt.mpr g4
    rw [g2] at htk ⊢
    simp (disch := first | decide | omega | assumption | (simp (disch := decide) only [u2_ne, u2_same, mQueue]; assumption)) only [kV_some, kI_some, kR_some, kR_any, kH_some, kC_none, kC_some, jv_rsv_ref, jv_rsv_rf, jv_nz_ref, jv_nz_null, jv_nz_rf0, jv_nz_rf1, jv_rq_r1, jv_rq_r0, n10, n11, n00, Nat.reduceEqDiff, Option.bind_some, Option.bind_none, jv_isr_ref, jv_isr_rf, jv_isr_null, va_rf_some, va_rf_none, jv_cat1_int, jv_cat1_ref, jv_cat1_rf, if_true, if_false, eq_self, Option.toList_some, Option.toList_none, List.cons_append, List.nil_append, Bool.and_self, Bool.and_true, i32_10, i32_01, i32_80, nI_div8, nI_mul4, nI_mul8, nI_mul32, nI_add, ↓reduceIte, u2_ne, u2_same, r28_0, r28_1, r28_2, r28_4, r28_7, r28_10, r28_11, r28_12, r28_13, r28_15, r28_16, r28_19, r28_20, r28_23, r28_26, r28_29, r28_30, r28_33, r28_36, r28_37, r28_38, r28_40, r28_43, r28_44, r28_45, r28_48, r28_50, r28_51, r28_52, r28_53, r28_56, r28_59, r28_60, r28_61, r28_64, r28_65, r28_68, r28_71, r28_74, r28_77, r28_78, r28_79, r28_82, r28_83, r28_84, r28_87, r28_88, gt_1_4, ic_37, htk, c1, gt_1_1, i32_ss, rl_3, ic_1, k1, nI_1]
  · rw [i3]
    have i2' := i2
    have hf : mFind (mPop M W) (M 30 0) R 0 = nI i := mFind_at hJp.n i2.2.1 i2.2.2.1
    have hfd := c46 (X := X) (d := d) (N := N) (n := M 30 0) ⟨hp, hJp⟩ (by omega)
    have h30 := h.2.h30
    have hi := i2.2.1
    rw [hf, if_neg (nI_pos (by omega)), nn_nI (by omega)] at hfd
    obtain ⟨I', P', ρ', R', W', k1, k2⟩ := c47 (X := X) (d := d) (N := N) hp i2 hQ hd
    refine ⟨I', P', ρ', R', W', fun a1 c a3 => ?_, k2⟩
    have c1 : (-2 : Int32) < M 30 0 := Int32.not_le.mp i1
    simp (disch := first | decide | omega | assumption | (simp (disch := decide) only [u2_ne, u2_same, mQueue]; assumption)) only [kV_some, kI_some, kR_some, kR_any, kH_some, kC_none, kC_some, jv_rsv_ref, jv_rsv_rf, jv_nz_ref, jv_nz_null, jv_nz_rf0, jv_nz_rf1, jv_rq_r1, jv_rq_r0, n10, n11, n00, Nat.reduceEqDiff, Option.bind_some, Option.bind_none, jv_isr_ref, jv_isr_rf, jv_isr_null, va_rf_some, va_rf_none, jv_cat1_int, jv_cat1_ref, jv_cat1_rf, if_true, if_false, eq_self, Option.toList_some, Option.toList_none, List.cons_append, List.nil_append, Bool.and_self, Bool.and_true, i32_10, i32_01, i32_80, nI_div8, nI_mul4, nI_mul8, nI_mul32, nI_add, ↓reduceIte, u2_ne, u2_same, r28_0, r28_1, r28_2, r28_4, r28_7, r28_10, r28_11, r28_12, r28_13, r28_15, r28_16, r28_19, r28_20, r28_23, r28_26, r28_29, r28_30, r28_33, r28_36, r28_37, r28_38, r28_40, r28_43, r28_44, r28_45, r28_48, r28_50, r28_51, r28_52, r28_53, r28_56, r28_59, r28_60, r28_61, r28_64, r28_65, r28_68, r28_71, r28_74, r28_77, r28_78, r28_79, r28_82, r28_83, r28_84, r28_87, r28_88, gt_1_4, ic_37, htk, c1, gt_1_3, ic_5, hfd, ic_1, k1, nI_1]
end CL
