/-! ===== the class: endOutside, endLateOutsides, tick, call, forget ===== -/
section CL
variable {X : Nat × (Nat → Int32)} {d : Nat} {I : Nat → Nat → Int32} {P : Nat → Nat → Option Nat} {M N : Nat → Nat → Int32} {ρ : Nat → Nat} {R W K O Q : Nat} {y x : Int32}
theorem mFind_eq {M2 : Nat → Nat → Int32} {n : Int32} (h : M2 17 = M 17) : ∀ (r i : Nat), mFind M2 n r i = mFind M n r i
  | 0, _ => rfl
  | r + 1, i => by rw [mFind, mFind, h, mFind_eq h r (i + 1)]
theorem c60l {M0 : Nat → Nat → Int32} (hd : 3 ≤ d) : ∀ (r c : Nat) (I : Nat → Nat → Int32) (P : Nat → Nat → Option Nat), RJ I P (upto mOut1 c M0) ρ R W (R + 32) O Q (-1) (-1) → c + r = O → ∃ I' P', (∀ a2, jl gw X d 60 2 [some (.ref 1), some (.int (nI c)), a2] [] (he I P N) = some (none, he I' P' N)) ∧ RJ I' P' (upto mOut1 O M0) ρ R W (R + 32) O Q (-1) (-1) := by
  intro r
  induction r with
  | zero =>
    intro c I P h hc
    have hc : c = O := by omega
    subst hc
    have e1 : I 1 0 = nI c := by rw [h.1.s 1 (by decide)]; exact h.2.o
    refine ⟨I, P, fun a2 => ?_, h⟩
    rw [r60_2]
    simp (disch := first | decide | omega | assumption | (simp (disch := decide) only [u2_ne, u2_same, mQueue]; assumption)) only [kV_some, kI_some, kR_some, kR_any, kH_some, kC_none, kC_some, jv_rsv_ref, jv_rsv_rf, jv_nz_ref, jv_nz_null, jv_nz_rf0, jv_nz_rf1, jv_rq_r1, jv_rq_r0, n10, n11, n00, Nat.reduceEqDiff, Option.bind_some, Option.bind_none, jv_isr_ref, jv_isr_rf, jv_isr_null, va_rf_some, va_rf_none, jv_cat1_int, jv_cat1_ref, jv_cat1_rf, if_true, if_false, eq_self, Option.toList_some, Option.toList_none, List.cons_append, List.nil_append, Bool.and_self, Bool.and_true, i32_10, i32_01, i32_80, nI_div8, nI_mul4, nI_mul8, nI_mul32, nI_add, ↓reduceIte, u2_ne, u2_same, r60_0, r60_1, r60_3, r60_4, r60_7, r60_10, r60_11, r60_14, r60_15, r60_16, r60_17, r60_18, r60_21, r60_24, r60_25, r60_26, r60_29, r60_30, r60_31, r60_34, r60_35, r60_36, r60_39, r60_42, r60_45, r60_46, r60_47, r60_50, r60_53, r60_56, gt_1_7, e1, Int32.le_refl]
  | succ r ih =>
    intro c I P h hc
    have h12 := h.2.a.2.2.2
    have h30 := h.2.h30
    have hcO : c < O := by omega
    have h1 : ¬ nI O ≤ nI c := nI_ge (by omega) (by omega)
    have hJ := h.2.out1 hcO
    have ihh := ih (c + 1)
    rw [show upto mOut1 (c + 1) M0 = mOut1 c (upto mOut1 c M0) from rfl] at ihh
    generalize upto mOut1 c M0 = M at h ihh hJ
    have e1 : I 1 0 = nI O := by rw [h.1.s 1 (by decide)]; exact h.2.o
    have e60 : I 60 = M 32 := h.1.s 60 (by decide)
    have e63 : I 63 = M 35 := h.1.s 63 (by decide)
    have e62 : I 62 = M 34 := h.1.s 62 (by decide)
    have e3 : I 3 = M 37 := h.1.s 3 (by decide)
    unfold mOut1 at ihh hJ
    rw [h.2.nR] at ihh hJ
    by_cases k1 : M 32 c = 0
    · rw [if_neg (fun z => z k1)] at ihh hJ
      have hl := c58 (X := X) (d := d) (I := u2 I 63 c (M 35 c + 1)) (P := P) (N := N) (v := M 35 c + 1) (by omega)
      rw [u2_ne (show (3 : Nat) ≠ 63 by decide), e3] at hl
      have ht := h.both (a := 63) (b := 35) (k := c) (v := M 35 c + 1) rfl (by decide) (by omega) (by omega) (by decide) rfl rfl
      by_cases k2 : M 37 0 = 0 ∨ M 35 c + 1 < M 37 0
      · rw [if_pos k2] at ihh
        rw [if_neg (fun z => (lim_iff h.1.m).mp z k2)] at hl
        obtain ⟨I', P', t1, t2⟩ := ihh _ P ht (by omega)
        refine ⟨I', P', fun a2 => ?_, t2⟩
        rw [r60_2]
        simp (disch := first | decide | omega | assumption | (simp (disch := decide) only [u2_ne, u2_same, mQueue]; assumption)) only [kV_some, kI_some, kR_some, kR_any, kH_some, kC_none, kC_some, jv_rsv_ref, jv_rsv_rf, jv_nz_ref, jv_nz_null, jv_nz_rf0, jv_nz_rf1, jv_rq_r1, jv_rq_r0, n10, n11, n00, Nat.reduceEqDiff, Option.bind_some, Option.bind_none, jv_isr_ref, jv_isr_rf, jv_isr_null, va_rf_some, va_rf_none, jv_cat1_int, jv_cat1_ref, jv_cat1_rf, if_true, if_false, eq_self, Option.toList_some, Option.toList_none, List.cons_append, List.nil_append, Bool.and_self, Bool.and_true, i32_10, i32_01, i32_80, nI_div8, nI_mul4, nI_mul8, nI_mul32, nI_add, ↓reduceIte, u2_ne, u2_same, r60_0, r60_1, r60_3, r60_4, r60_7, r60_10, r60_11, r60_14, r60_15, r60_16, r60_17, r60_18, r60_21, r60_24, r60_25, r60_26, r60_29, r60_30, r60_31, r60_34, r60_35, r60_36, r60_39, r60_42, r60_45, r60_46, r60_47, r60_50, r60_53, r60_56, gt_1_7, e1, h1, gt_1_2, rl_4, gt_ot_0, e60, k1, gt_ot_3, e63, pt_ot_3, ic_1, hl, nI_1]
        exact t1 _
      · rw [if_neg k2] at ihh hJ
        rw [if_pos ((lim_iff h.1.m).mpr k2)] at hl
        obtain ⟨d', rfl⟩ : ∃ q, d = q + 1 := ⟨d - 1, by omega⟩
        have hfd := c46 (X := X) (d := d') (N := N) (n := M 34 c) ht (by omega)
        rw [mFind_eq (M2 := u2 M 35 c (M 35 c + 1)) (M := M) (u2_ne (by decide))] at hfd
        have e60' : u2 I 63 c (M 35 c + 1) 60 c = 0 := by rw [u2_ne (by decide), e60]; exact k1
        have e62' : u2 I 63 c (M 35 c + 1) 62 c = M 34 c := by rw [u2_ne (by decide), e62]
        have ectl : cTl (u2 I 63 c (M 35 c + 1)) c 103 0 = u2 (u2 (u2 I 63 c (M 35 c + 1)) 60 c 2) 61 c 103 := by
          unfold cTl
          rw [if_pos e60', if_neg (by decide), if_neg (by decide)]
        have hb2 := (ht.1.both (a := 60) (b := 32) (k := c) (v := 2) rfl (by decide) (by omega) (by omega) (by decide)).both (a := 61) (b := 33) (k := c) (v := 103) rfl (by decide) (by omega) (by omega) (by decide)
        rcases mFind_cases (M := M) (n := M 34 c) R 0 with z | ⟨j, j1, j2, j3, j4⟩
        · rw [z, if_pos (by decide)] at hfd
          rw [z, if_pos (by decide)] at ihh hJ
          have htl := c40 (X := X) (d := d') (I := u2 I 63 c (M 35 c + 1)) (P := P) (N := N) (code := 103) (v := 0) (show c < 12 by omega) (by omega)
          rw [ectl] at htl
          have h61 : jv_F gw X (d' + 1) 61 [.ref 1, .ref (145 + c)] (he (u2 I 63 c (M 35 c + 1)) P N) = some (none, he (u2 (u2 (u2 I 63 c (M 35 c + 1)) 60 c 2) 61 c 103) P N) := by
            rw [e61 rfl]
            simp (disch := first | decide | omega | assumption | (simp (disch := decide) only [u2_ne, u2_same, mQueue]; assumption)) only [kV_some, kI_some, kR_some, kR_any, kH_some, kC_none, kC_some, jv_rsv_ref, jv_rsv_rf, jv_nz_ref, jv_nz_null, jv_nz_rf0, jv_nz_rf1, jv_rq_r1, jv_rq_r0, n10, n11, n00, Nat.reduceEqDiff, Option.bind_some, Option.bind_none, jv_isr_ref, jv_isr_rf, jv_isr_null, va_rf_some, va_rf_none, jv_cat1_int, jv_cat1_ref, jv_cat1_rf, if_true, if_false, eq_self, Option.toList_some, Option.toList_none, List.cons_append, List.nil_append, Bool.and_self, Bool.and_true, i32_10, i32_01, i32_80, nI_div8, nI_mul4, nI_mul8, nI_mul32, nI_add, ↓reduceIte, u2_ne, u2_same, r61_0, r61_1, r61_4, r61_5, r61_8, r61_11, r61_12, r61_13, r61_16, r61_17, r61_18, r61_21, r61_22, r61_24, r61_25, r61_28, gt_1_3, gt_ot_2, e62', ic_5, hfd, ic_ot, htl]
          obtain ⟨I', P', t1, t2⟩ := ihh _ P ⟨hb2, hJ⟩ (by omega)
          refine ⟨I', P', fun a2 => ?_, t2⟩
          rw [r60_2]
          simp (disch := first | decide | omega | assumption | (simp (disch := decide) only [u2_ne, u2_same, mQueue]; assumption)) only [kV_some, kI_some, kR_some, kR_any, kH_some, kC_none, kC_some, jv_rsv_ref, jv_rsv_rf, jv_nz_ref, jv_nz_null, jv_nz_rf0, jv_nz_rf1, jv_rq_r1, jv_rq_r0, n10, n11, n00, Nat.reduceEqDiff, Option.bind_some, Option.bind_none, jv_isr_ref, jv_isr_rf, jv_isr_null, va_rf_some, va_rf_none, jv_cat1_int, jv_cat1_ref, jv_cat1_rf, if_true, if_false, eq_self, Option.toList_some, Option.toList_none, List.cons_append, List.nil_append, Bool.and_self, Bool.and_true, i32_10, i32_01, i32_80, nI_div8, nI_mul4, nI_mul8, nI_mul32, nI_add, ↓reduceIte, u2_ne, u2_same, r60_0, r60_1, r60_3, r60_4, r60_7, r60_10, r60_11, r60_14, r60_15, r60_16, r60_17, r60_18, r60_21, r60_24, r60_25, r60_26, r60_29, r60_30, r60_31, r60_34, r60_35, r60_36, r60_39, r60_42, r60_45, r60_46, r60_47, r60_50, r60_53, r60_56, gt_1_7, e1, h1, gt_1_2, rl_4, gt_ot_0, e60, k1, gt_ot_3, e63, pt_ot_3, ic_1, hl, h61, nI_1]
          exact t1 _
        · have hnj : nn (nI j) = j := nn_nI (by omega)
          have hjR : j < R := by omega
          rw [j4, if_neg (nI_pos (by omega)), hnj] at hfd
          rw [j4, if_neg (nI_pos (by omega)), hnj] at ihh hJ
          have hρj : ρ j < 30 := (h.1.r.1 j (by omega)).2
          have hp2 : P 2 (ρ j) = none := by
            have hca := h.2.a.2.2.1 c hcO k1 j hjR j3
            rcases h.1.c j hjR with ⟨z1, z2, z3⟩ | ⟨c', c1, c2, c3, c4⟩ | ⟨c', c1, c2, c3, c4⟩
            · exact z2
            · exact c3
            · exact absurd (c2.symm.trans hca) (ng_ne (by omega) (h.2.n.1 c' c1).1)
          have htl := c40 (X := X) (d := d') (I := u2 I 63 c (M 35 c + 1)) (P := u2 P 3 (ρ j) none) (N := N) (code := 103) (v := 0) (show c < 12 by omega) (by omega)
          rw [ectl] at htl
          have h61 : jv_F gw X (d' + 1) 61 [.ref 1, .ref (145 + c)] (he (u2 I 63 c (M 35 c + 1)) P N) = some (none, he (u2 (u2 (u2 I 63 c (M 35 c + 1)) 60 c 2) 61 c 103) (u2 P 3 (ρ j) none) N) := by
            rw [e61 rfl]
            simp (disch := first | decide | omega | assumption | (simp (disch := decide) only [u2_ne, u2_same, mQueue]; assumption)) only [kV_some, kI_some, kR_some, kR_any, kH_some, kC_none, kC_some, jv_rsv_ref, jv_rsv_rf, jv_nz_ref, jv_nz_null, jv_nz_rf0, jv_nz_rf1, jv_rq_r1, jv_rq_r0, n10, n11, n00, Nat.reduceEqDiff, Option.bind_some, Option.bind_none, jv_isr_ref, jv_isr_rf, jv_isr_null, va_rf_some, va_rf_none, jv_cat1_int, jv_cat1_ref, jv_cat1_rf, if_true, if_false, eq_self, Option.toList_some, Option.toList_none, List.cons_append, List.nil_append, Bool.and_self, Bool.and_true, i32_10, i32_01, i32_80, nI_div8, nI_mul4, nI_mul8, nI_mul32, nI_add, ↓reduceIte, u2_ne, u2_same, r61_0, r61_1, r61_4, r61_5, r61_8, r61_11, r61_12, r61_13, r61_16, r61_17, r61_18, r61_21, r61_22, r61_24, r61_25, r61_28, gt_1_3, gt_ot_2, e62', ic_5, hfd, pt_rq_11n, ic_ot, htl]
          obtain ⟨I', P', t1, t2⟩ := ihh _ _ ⟨hb2.untell (j := j) (q := 3) h30 hjR (Or.inr ⟨rfl, hp2⟩), hJ⟩ (by omega)
          refine ⟨I', P', fun a2 => ?_, t2⟩
          rw [r60_2]
          simp (disch := first | decide | omega | assumption | (simp (disch := decide) only [u2_ne, u2_same, mQueue]; assumption)) only [kV_some, kI_some, kR_some, kR_any, kH_some, kC_none, kC_some, jv_rsv_ref, jv_rsv_rf, jv_nz_ref, jv_nz_null, jv_nz_rf0, jv_nz_rf1, jv_rq_r1, jv_rq_r0, n10, n11, n00, Nat.reduceEqDiff, Option.bind_some, Option.bind_none, jv_isr_ref, jv_isr_rf, jv_isr_null, va_rf_some, va_rf_none, jv_cat1_int, jv_cat1_ref, jv_cat1_rf, if_true, if_false, eq_self, Option.toList_some, Option.toList_none, List.cons_append, List.nil_append, Bool.and_self, Bool.and_true, i32_10, i32_01, i32_80, nI_div8, nI_mul4, nI_mul8, nI_mul32, nI_add, ↓reduceIte, u2_ne, u2_same, r60_0, r60_1, r60_3, r60_4, r60_7, r60_10, r60_11, r60_14, r60_15, r60_16, r60_17, r60_18, r60_21, r60_24, r60_25, r60_26, r60_29, r60_30, r60_31, r60_34, r60_35, r60_36, r60_39, r60_42, r60_45, r60_46, r60_47, r60_50, r60_53, r60_56, gt_1_7, e1, h1, gt_1_2, rl_4, gt_ot_0, e60, k1, gt_ot_3, e63, pt_ot_3, ic_1, hl, h61, nI_1]
          exact t1 _
    · rw [if_pos k1] at ihh
      obtain ⟨I', P', t1, t2⟩ := ihh I P h (by omega)
      refine ⟨I', P', fun a2 => ?_, t2⟩
      rw [r60_2]
      simp (disch := first | decide | omega | assumption | (simp (disch := decide) only [u2_ne, u2_same, mQueue]; assumption)) only [kV_some, kI_some, kR_some, kR_any, kH_some, kC_none, kC_some, jv_rsv_ref, jv_rsv_rf, jv_nz_ref, jv_nz_null, jv_nz_rf0, jv_nz_rf1, jv_rq_r1, jv_rq_r0, n10, n11, n00, Nat.reduceEqDiff, Option.bind_some, Option.bind_none, jv_isr_ref, jv_isr_rf, jv_isr_null, va_rf_some, va_rf_none, jv_cat1_int, jv_cat1_ref, jv_cat1_rf, if_true, if_false, eq_self, Option.toList_some, Option.toList_none, List.cons_append, List.nil_append, Bool.and_self, Bool.and_true, i32_10, i32_01, i32_80, nI_div8, nI_mul4, nI_mul8, nI_mul32, nI_add, ↓reduceIte, u2_ne, u2_same, r60_0, r60_1, r60_3, r60_4, r60_7, r60_10, r60_11, r60_14, r60_15, r60_16, r60_17, r60_18, r60_21, r60_24, r60_25, r60_26, r60_29, r60_30, r60_31, r60_34, r60_35, r60_36, r60_39, r60_42, r60_45, r60_46, r60_47, r60_50, r60_53, r60_56, gt_1_7, e1, h1, gt_1_2, rl_4, gt_ot_0, e60, k1, nI_1]
      exact t1 _
theorem c60 (h : RJ I P M ρ R W (R + 32) O Q (-1) (-1)) (hd : 4 ≤ d) : ∃ I' P', jv_F gw X d 60 [.ref 1] (he I P N) = some (none, he I' P' N) ∧ RJ I' P' (upto mOut1 O M) ρ R W (R + 32) O Q (-1) (-1) := by
  obtain ⟨d, rfl⟩ : ∃ q, d = q + 1 := ⟨d - 1, by omega⟩
  obtain ⟨I', P', t1, t2⟩ := c60l (X := X) (d := d) (N := N) (M0 := M) (by omega) O 0 I P h (by omega)
  refine ⟨I', P', ?_, t2⟩
  rw [e60]
  simp (disch := first | decide | omega | assumption | (simp (disch := decide) only [u2_ne, u2_same, mQueue]; assumption)) only [kV_some, kI_some, kR_some, kR_any, kH_some, kC_none, kC_some, jv_rsv_ref, jv_rsv_rf, jv_nz_ref, jv_nz_null, jv_nz_rf0, jv_nz_rf1, jv_rq_r1, jv_rq_r0, n10, n11, n00, Nat.reduceEqDiff, Option.bind_some, Option.bind_none, jv_isr_ref, jv_isr_rf, jv_isr_null, va_rf_some, va_rf_none, jv_cat1_int, jv_cat1_ref, jv_cat1_rf, if_true, if_false, eq_self, Option.toList_some, Option.toList_none, List.cons_append, List.nil_append, Bool.and_self, Bool.and_true, i32_10, i32_01, i32_80, nI_div8, nI_mul4, nI_mul8, nI_mul32, nI_add, ↓reduceIte, u2_ne, u2_same, r60_0, r60_1, r60_3, r60_4, r60_7, r60_10, r60_11, r60_14, r60_15, r60_16, r60_17, r60_18, r60_21, r60_24, r60_25, r60_26, r60_29, r60_30, r60_31, r60_34, r60_35, r60_36, r60_39, r60_42, r60_45, r60_46, r60_47, r60_50, r60_53, r60_56]
  exact t1 none
theorem c53l {n : Nat} (hn : n ≤ 20) (hd : 6 ≤ d) : ∀ (r : Nat) (M I : Nat → Nat → Int32) (P : Nat → Nat → Option Nat) (ρ : Nat → Nat) (R W Q k : Nat), RJ I P M ρ R W (R + 32) O Q (-1) (-1) → Q + 64 * r < 2 ^ 30 → k + r = n → ∃ I' P' ρ' R' W', jl gw X d 53 14 [some (.ref 1), some (.int (nI n)), some (.int (nI k))] [] (he I P N) = some (some (.int (mTickL r M 39 0)), he I' P' N) ∧ RJ I' P' (mTickL r M) ρ' R' W' (R' + 32) O (Q + 64 * r) (-1) (-1) := by
  intro r
  induction r with
  | zero =>
    intro M I P ρ R W Q k h hQ hr
    have : k = n := by omega
    subst this
    have e2 : I 2 = M 39 := h.1.s 2 (by decide)
    refine ⟨I, P, ρ, R, W, ?_, h⟩
    rw [r53_14]
    simp (disch := first | decide | omega | assumption | (simp (disch := decide) only [u2_ne, u2_same, mQueue]; assumption)) only [kV_some, kI_some, kR_some, kR_any, kH_some, kC_none, kC_some, jv_rsv_ref, jv_rsv_rf, jv_nz_ref, jv_nz_null, jv_nz_rf0, jv_nz_rf1, jv_rq_r1, jv_rq_r0, n10, n11, n00, Nat.reduceEqDiff, Option.bind_some, Option.bind_none, jv_isr_ref, jv_isr_rf, jv_isr_null, va_rf_some, va_rf_none, jv_cat1_int, jv_cat1_ref, jv_cat1_rf, if_true, if_false, eq_self, Option.toList_some, Option.toList_none, List.cons_append, List.nil_append, Bool.and_self, Bool.and_true, i32_10, i32_01, i32_80, nI_div8, nI_mul4, nI_mul8, nI_mul32, nI_add, ↓reduceIte, u2_ne, u2_same, r53_0, r53_1, r53_2, r53_4, r53_7, r53_10, r53_11, r53_12, r53_13, r53_15, r53_16, r53_19, r53_20, r53_21, r53_24, r53_25, r53_26, r53_29, r53_30, r53_33, r53_34, r53_37, r53_38, r53_41, r53_42, r53_45, r53_46, r53_49, r53_52, r53_55, r53_56, r53_59, Int32.le_refl, gt_1_8, e2, mTickL]
  | succ r ih =>
    intro M I P ρ R W Q k h hQ hr
    have h1 : ¬ nI n ≤ nI k := nI_ge (by omega) (by omega)
    have e2 : I 2 = M 39 := h.1.s 2 (by decide)
    have g0 := h.both (a := 2) (b := 39) (k := 0) (v := M 39 0 + 1) rfl (by decide) (by omega) (by omega) (by decide) rfl rfl
    obtain ⟨I1, P1, R1, W1, a1, g1⟩ := c54 (X := X) (d := d) (N := N) g0 (by omega) (by omega)
    obtain ⟨I2, P2, R2, W2, a2, g2⟩ := c56 (X := X) (d := d) (N := N) g1 (by omega) (by omega)
    obtain ⟨I3, P3, ρ3, R3, W3, a3, g3⟩ := c57 (X := X) (d := d) (N := N) g2 (by omega)
    obtain ⟨I4, P4, a4, g4⟩ := c60 (X := X) (d := d) (N := N) g3 (by omega)
    obtain ⟨I5, a5, g5⟩ := c62 (X := X) (d := d) (N := N) g4 (by omega)
    have hO : nn (mLateL (nus (upto mRem 32 (upto mTim 32 (u2 M 39 0 (M 39 0 + 1)))) R2) (upto mRem 32 (upto mTim 32 (u2 M 39 0 (M 39 0 + 1)))) 36 0) = O := by rw [g3.2.o, nn_nI (by have := g3.2.a.2.2.2; omega)]
    have eT : mTick1 M = upto (fun g N => mRest N g) 32 (upto mOut1 O (mLateL (nus (upto mRem 32 (upto mTim 32 (u2 M 39 0 (M 39 0 + 1)))) R2) (upto mRem 32 (upto mTim 32 (u2 M 39 0 (M 39 0 + 1)))))) := by
      unfold mTick1
      simp only [g2.2.nR, hO]
    rw [← eT] at g5
    obtain ⟨I', P', ρ', R', W', t1, t2⟩ := ih (mTick1 M) I5 P4 ρ3 R3 W3 (Q + 32 + 32) (k + 1) g5 (by omega) (by omega)
    rw [show mTickL (r + 1) M = mTickL r (mTick1 M) from rfl]
    refine ⟨I', P', ρ', R', W', ?_, by rw [show Q + 64 * (r + 1) = Q + 32 + 32 + 64 * r by omega]; exact t2⟩
    rw [r53_14]
    simp (disch := first | decide | omega | assumption | (simp (disch := decide) only [u2_ne, u2_same, mQueue]; assumption)) only [kV_some, kI_some, kR_some, kR_any, kH_some, kC_none, kC_some, jv_rsv_ref, jv_rsv_rf, jv_nz_ref, jv_nz_null, jv_nz_rf0, jv_nz_rf1, jv_rq_r1, jv_rq_r0, n10, n11, n00, Nat.reduceEqDiff, Option.bind_some, Option.bind_none, jv_isr_ref, jv_isr_rf, jv_isr_null, va_rf_some, va_rf_none, jv_cat1_int, jv_cat1_ref, jv_cat1_rf, if_true, if_false, eq_self, Option.toList_some, Option.toList_none, List.cons_append, List.nil_append, Bool.and_self, Bool.and_true, i32_10, i32_01, i32_80, nI_div8, nI_mul4, nI_mul8, nI_mul32, nI_add, ↓reduceIte, u2_ne, u2_same, r53_0, r53_1, r53_2, r53_4, r53_7, r53_10, r53_11, r53_12, r53_13, r53_15, r53_16, r53_19, r53_20, r53_21, r53_24, r53_25, r53_26, r53_29, r53_30, r53_33, r53_34, r53_37, r53_38, r53_41, r53_42, r53_45, r53_46, r53_49, r53_52, r53_55, r53_56, r53_59, h1, gt_1_8, e2, pt_1_8, ic_1, a1, a2, a3, a4, a5, nI_1]
    exact t1
theorem c53 {n : Nat} (h : RJ I P M ρ R W (R + 32) O Q (-1) (-1)) (hn : 0 < n ∧ n ≤ 20) (hQ : Q + 1280 < 2 ^ 30) (hd : 7 ≤ d) : ∃ I' P' ρ' R' W', jv_F gw X d 53 [.ref 1, .int (nI n)] (he I P N) = some (some (.int (mTickL n M 39 0)), he I' P' N) ∧ RJ I' P' (mTickL n M) ρ' R' W' (R' + 32) O (Q + 1280) (-1) (-1) := by
  obtain ⟨d, rfl⟩ : ∃ q, d = q + 1 := ⟨d - 1, by omega⟩
  obtain ⟨I', P', ρ', R', W', t1, t2⟩ := c53l (X := X) (d := d) (N := N) (n := n) (by omega) (by omega) n M I P ρ R W Q 0 h (by omega) (by omega)
  refine ⟨I', P', ρ', R', W', ?_, t2.mono (by omega) hQ⟩
  obtain ⟨d, rfl⟩ : ∃ q, d = q + 1 := ⟨d - 1, by omega⟩
  have h1 : (1 : Int32) ≤ nI n := nI_le (a := 1) (by omega) (by omega)
  have h2 : nI n ≤ (20 : Int32) := nI_le (b := 20) (by omega) (by omega)
  rw [e53]
  simp (disch := first | decide | omega | assumption | (simp (disch := decide) only [u2_ne, u2_same, mQueue]; assumption)) only [kV_some, kI_some, kR_some, kR_any, kH_some, kC_none, kC_some, jv_rsv_ref, jv_rsv_rf, jv_nz_ref, jv_nz_null, jv_nz_rf0, jv_nz_rf1, jv_rq_r1, jv_rq_r0, n10, n11, n00, Nat.reduceEqDiff, Option.bind_some, Option.bind_none, jv_isr_ref, jv_isr_rf, jv_isr_null, va_rf_some, va_rf_none, jv_cat1_int, jv_cat1_ref, jv_cat1_rf, if_true, if_false, eq_self, Option.toList_some, Option.toList_none, List.cons_append, List.nil_append, Bool.and_self, Bool.and_true, i32_10, i32_01, i32_80, nI_div8, nI_mul4, nI_mul8, nI_mul32, nI_add, ↓reduceIte, u2_ne, u2_same, r53_0, r53_1, r53_2, r53_4, r53_7, r53_10, r53_11, r53_12, r53_13, r53_15, r53_16, r53_19, r53_20, r53_21, r53_24, r53_25, r53_26, r53_29, r53_30, r53_33, r53_34, r53_37, r53_38, r53_41, r53_42, r53_45, r53_46, r53_49, r53_52, r53_55, r53_56, r53_59, s9, h1, h2, and_self]
  exact t1
theorem c53x {n : Int32} (h : ¬ (0 ≤ n - 1 ∧ n - 1 < 20)) (hd : 2 ≤ d) : jv_F gw X d 53 [.ref 1, .int n] (he I P N) = some (some (.int (-1)), he I P N) := by
  obtain ⟨d, rfl⟩ : ∃ q, d = q + 2 := ⟨d - 2, by omega⟩
  have h1 : ¬ (1 ≤ n ∧ n ≤ 20) := fun z => h ((in1 (k := 20) (by decide)).mp z)
  rw [e53]
  simp (disch := first | decide | omega | assumption | (simp (disch := decide) only [u2_ne, u2_same, mQueue]; assumption)) only [kV_some, kI_some, kR_some, kR_any, kH_some, kC_none, kC_some, jv_rsv_ref, jv_rsv_rf, jv_nz_ref, jv_nz_null, jv_nz_rf0, jv_nz_rf1, jv_rq_r1, jv_rq_r0, n10, n11, n00, Nat.reduceEqDiff, Option.bind_some, Option.bind_none, jv_isr_ref, jv_isr_rf, jv_isr_null, va_rf_some, va_rf_none, jv_cat1_int, jv_cat1_ref, jv_cat1_rf, if_true, if_false, eq_self, Option.toList_some, Option.toList_none, List.cons_append, List.nil_append, Bool.and_self, Bool.and_true, i32_10, i32_01, i32_80, nI_div8, nI_mul4, nI_mul8, nI_mul32, nI_add, ↓reduceIte, u2_ne, u2_same, r53_0, r53_1, r53_2, r53_4, r53_7, r53_10, r53_11, r53_12, r53_13, r53_15, r53_16, r53_19, r53_20, r53_21, r53_24, r53_25, r53_26, r53_29, r53_30, r53_33, r53_34, r53_37, r53_38, r53_41, r53_42, r53_45, r53_46, r53_49, r53_52, r53_55, r53_56, r53_59, s9, h1]
/-- who is to be told of the made one -/
theorem Rel.outset (h : Rel I P M ρ (R + 1) W x) {c : Nat} (hR : R < 30) (hc : c < 12) (h26 : M 26 R = -1) (h0 : ∀ k, k < R + 1 → 0 ≤ M 17 k) : Rel I (u2 P 3 (ρ R) (some (145 + c))) (u2 M 26 R (-2 - nI c)) ρ (R + 1) W x := by
  obtain ⟨h1, h2, h3, h4, h5, h6, h7, h8, h9⟩ := h
  have eM : ∀ f, f ≠ 26 → u2 M 26 R (-2 - nI c) f = M f := fun f p => u2_ne p
  have eP : ∀ f, f ≠ 3 → u2 P 3 (ρ R) (some (145 + c)) f = P f := fun f a => u2_ne a
  refine ⟨h1.right rfl, ⟨fun k hk => by rw [eP 10 (by decide)]; exact h2.1 k hk, h2.2⟩, fun a k ha hk => ?_, fun k hk => ?_, fun k hk => ?_, fun k hk hx => ?_, h7, ?_, ?_⟩
  · have ea : (40 ≤ a ∧ a ≤ 45) ∧ 17 ≤ cq a ∧ cq a ≤ 23 := by
      unfold cq at *
      split at ha <;> first | (constructor <;> decide) | exact absurd rfl ha
    rw [eM _ (by omega)]
    exact h3 a k ha hk
  · rw [eP 0 (by decide), eP 1 (by decide), eM 18 (by decide), eM 19 (by decide), eM 27 (by decide), eM 17 (by decide), eM 25 (by decide)]; exact h4 k hk
  · rw [eM 17 (by decide), eP 2 (by decide)]
    by_cases hkj : k = R
    · subst hkj
      rw [u2_same, u2_same]
      refine Or.inr (Or.inl ⟨c, hc, rfl, ?_, rfl⟩)
      rcases h5 k (by omega) with ⟨z1, z2, z3⟩ | ⟨c', c1, c2, c3, c4⟩ | ⟨c', c1, c2, c3, c4⟩
      · exact z2
      · exact c3
      · rw [h26] at c2; exact absurd c2.symm (p_m1 (h0 c' c1))
    · have hne : ¬ ρ k = ρ R := fun z => hkj (h2.2 k R (by omega) (by omega) z)
      rw [u2_oth hkj, u2_off hne]
      exact h5 k hk
  · rw [eM 17 (by decide)] at hx ⊢
    rw [eM 24 (by decide), eP 4 (by decide)]; exact h6 k hk hx
  · unfold relL
    rw [eM 30 (by decide)]; exact h8
  · rw [eM 37 (by decide)]; exact h9
end CL
