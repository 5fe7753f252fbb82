/-! ===== the class: wake, ringTimers, ringReminders, dropIdleGrains ===== -/
section CL
variable {X : Nat × (Nat → Int32)} {d : Nat} {I : Nat → Nat → Int32} {P : Nat → Nat → Option Nat} {M N : Nat → Nat → Int32} {ρ : Nat → Nat} {R W K O Q : Nat} {y x : Int32}
theorem c55 (h : RJ I P M ρ R W (R + 32) O Q (-1) (-1)) {g mm : Nat} (hg : g < 32) (hm : mm < 4) (hQ : Q + 1 < 2 ^ 30) (hd : 5 ≤ d) : ∃ I' P' R' W', jv_F gw X d 55 [.ref 1, .ref (113 + g), .int (nI mm)] (he I P N) = some (none, he I' P' N) ∧ RJ I' P' (if R < 30 then mMake M R g (nI mm) 0 (-1) 0 else M) ρ R' W' (R' + 32) O (Q + 1) (-1) (-1) := by
  obtain ⟨d, rfl⟩ : ∃ q, d = q + 1 := ⟨d - 1, by omega⟩
  have h30 := h.2.h30
  have hfull := c18 (X := X) (d := d) (P := P) (N := N) h.size h30 (by omega)
  by_cases hR : R < 30
  · rw [if_pos hR] at hfull ⊢
    obtain ⟨I1, P1, W1, k1, k2⟩ := c19 (X := X) (d := d) (N := N) (v := 0) (ch := 0) h hR hg hm h.2.md (m1_ng hg) (by omega) hQ (by omega)
    refine ⟨I1, P1, R + 1, W1, ?_, k2⟩
    rw [e55 rfl]
    simp (disch := first | decide | omega | assumption | (simp (disch := decide) only [u2_ne, u2_same, mQueue]; assumption)) only [kV_some, kI_some, kR_some, kR_any, kH_some, kC_none, kC_some, jv_rsv_ref, jv_rsv_rf, jv_nz_ref, jv_nz_null, jv_nz_rf0, jv_nz_rf1, jv_rq_r1, jv_rq_r0, n10, n11, n00, Nat.reduceEqDiff, Option.bind_some, Option.bind_none, jv_isr_ref, jv_isr_rf, jv_isr_null, va_rf_some, va_rf_none, jv_cat1_int, jv_cat1_ref, jv_cat1_rf, if_true, if_false, eq_self, Option.toList_some, Option.toList_none, List.cons_append, List.nil_append, Bool.and_self, Bool.and_true, i32_10, i32_01, i32_80, nI_div8, nI_mul4, nI_mul8, nI_mul32, nI_add, ↓reduceIte, u2_ne, u2_same, r55_0, r55_1, r55_4, r55_7, r55_10, r55_11, r55_12, r55_13, r55_14, r55_15, r55_18, r55_19, gt_1_3, ic_5, hfull, ic_1, k1]
  · rw [if_neg hR] at hfull ⊢
    refine ⟨I, P, R, W, ?_, h.mono (by omega) hQ⟩
    rw [e55 rfl]
    simp (disch := first | decide | omega | assumption | (simp (disch := decide) only [u2_ne, u2_same, mQueue]; assumption)) only [kV_some, kI_some, kR_some, kR_any, kH_some, kC_none, kC_some, jv_rsv_ref, jv_rsv_rf, jv_nz_ref, jv_nz_null, jv_nz_rf0, jv_nz_rf1, jv_rq_r1, jv_rq_r0, n10, n11, n00, Nat.reduceEqDiff, Option.bind_some, Option.bind_none, jv_isr_ref, jv_isr_rf, jv_isr_null, va_rf_some, va_rf_none, jv_cat1_int, jv_cat1_ref, jv_cat1_rf, if_true, if_false, eq_self, Option.toList_some, Option.toList_none, List.cons_append, List.nil_append, Bool.and_self, Bool.and_true, i32_10, i32_01, i32_80, nI_div8, nI_mul4, nI_mul8, nI_mul32, nI_add, ↓reduceIte, u2_ne, u2_same, r55_0, r55_1, r55_4, r55_7, r55_10, r55_11, r55_12, r55_13, r55_14, r55_15, r55_18, r55_19, gt_1_3, ic_5, hfull]
theorem RJ.timer (h : RJ I P M ρ R W K O Q y x) {g : Nat} {v : Int32} (hg : g < 32) (h8 : M 8 g = 2) : RJ (u2 I 33 g v) P (u2 M 10 g v) ρ R W K O Q y x := by
  refine ⟨h.1.both rfl (by decide) (by omega) (by omega) (by decide), h.2.upd (fun f hf => u2_ne (kF_ne hf rfl)) (fun i _ => Or.inl (by rw [u2_ne (by decide)])) (h.2.g.here h8 (fun k hk => ?_) ?_)⟩
  · rw [u2_ne (by decide), u2_oth hk, u2_ne (by decide), u2_ne (by decide), u2_ne (by decide), u2_ne (by decide)]; exact ⟨rfl, rfl, rfl, rfl, rfl, rfl⟩
  · rw [u2_ne (by decide), u2_ne (by decide)]; exact (h.2.g g hg).2
theorem RJ.idle (h : RJ I P M ρ R W K O Q y x) {g : Nat} {v : Int32} (hg : g < 32) (h8 : M 8 g = 2) : RJ (u2 I 34 g v) P (u2 M 11 g v) ρ R W K O Q y x := by
  refine ⟨h.1.both rfl (by decide) (by omega) (by omega) (by decide), h.2.upd (fun f hf => u2_ne (kF_ne hf rfl)) (fun i _ => Or.inl (by rw [u2_ne (by decide)])) (h.2.g.here h8 (fun k hk => ?_) ?_)⟩
  · rw [u2_ne (by decide), u2_ne (by decide), u2_oth hk, u2_ne (by decide), u2_ne (by decide), u2_ne (by decide)]; exact ⟨rfl, rfl, rfl, rfl, rfl, rfl⟩
  · rw [u2_ne (by decide), u2_ne (by decide)]; exact (h.2.g g hg).2
theorem c54l {M0 : Nat → Nat → Int32} (hQ : Q + 32 < 2 ^ 30) (hd : 5 ≤ d) : ∀ (r g : Nat) (I : Nat → Nat → Int32) (P : Nat → Nat → Option Nat) (R W : Nat), RJ I P (upto mTim g M0) ρ R W (R + 32) O (Q + g) (-1) (-1) → g + r = 32 → ∃ I' P' R' W', (∀ a2, jl gw X d 54 2 [some (.ref 1), some (.int (nI g)), a2] [] (he I P N) = some (none, he I' P' N)) ∧ RJ I' P' (upto mTim 32 M0) ρ R' W' (R' + 32) O (Q + 32) (-1) (-1) := by
  intro r
  induction r with
  | zero =>
    intro g I P R W h hg
    have hg : g = 32 := by omega
    subst hg
    have h1 : (32 : Int32) ≤ nI 32 := by decide
    refine ⟨I, P, R, W, fun a2 => ?_, h⟩
    rw [r54_2]
    simp (disch := first | decide | omega | assumption | (simp (disch := decide) only [u2_ne, u2_same, mQueue]; assumption)) only [kV_some, kI_some, kR_some, kR_any, kH_some, kC_none, kC_some, jv_rsv_ref, jv_rsv_rf, jv_nz_ref, jv_nz_null, jv_nz_rf0, jv_nz_rf1, jv_rq_r1, jv_rq_r0, n10, n11, n00, Nat.reduceEqDiff, Option.bind_some, Option.bind_none, jv_isr_ref, jv_isr_rf, jv_isr_null, va_rf_some, va_rf_none, jv_cat1_int, jv_cat1_ref, jv_cat1_rf, if_true, if_false, eq_self, Option.toList_some, Option.toList_none, List.cons_append, List.nil_append, Bool.and_self, Bool.and_true, i32_10, i32_01, i32_80, nI_div8, nI_mul4, nI_mul8, nI_mul32, nI_add, ↓reduceIte, u2_ne, u2_same, r54_0, r54_1, r54_3, r54_5, r54_8, r54_9, r54_12, r54_13, r54_14, r54_15, r54_16, r54_19, r54_22, r54_23, r54_24, r54_27, r54_28, r54_29, r54_32, r54_33, r54_36, r54_39, r54_40, r54_41, r54_42, r54_45, r54_48, r54_51, h1]
  | succ r ih =>
    intro g I P R W h hg
    have h1 : ¬ (32 : Int32) ≤ nI g := nI_ge (b := 32) (by omega) (by decide)
    have ihh := ih (g + 1)
    rw [show upto mTim (g + 1) M0 = mTim g (upto mTim g M0) from rfl] at ihh
    generalize upto mTim g M0 = M at h ihh
    have hgg : g < 32 := by omega
    have e33 : I 33 = M 10 := h.1.s 33 (by decide)
    unfold mTim at ihh
    rw [h.2.nR] at ihh
    by_cases k1 : 0 < M 10 g
    · have k1' : ¬ M 10 g ≤ 0 := Int32.not_le.mpr k1
      have h8 : M 8 g = 2 := by
        rcases (h.2.g g hgg).1 with z | ⟨-, -, z, -⟩
        · exact z
        · rw [z] at k1; exact absurd k1 (by decide)
      have ht := h.timer (v := M 10 g - 1) hgg h8
      rw [if_pos k1] at ihh
      by_cases k2 : M 10 g - 1 = 0
      · obtain ⟨I1, P1, R1, W1, w1, w2⟩ := c55 (X := X) (d := d) (N := N) (mm := 3) ht hgg (by omega) (by omega) hd
        have e : (if M 10 g - 1 = 0 ∧ R < 30 then mMake (u2 M 10 g (M 10 g - 1)) R g (nI 3) 0 (-1) 0 else u2 M 10 g (M 10 g - 1)) = (if R < 30 then mMake (u2 M 10 g (M 10 g - 1)) R g (nI 3) 0 (-1) 0 else u2 M 10 g (M 10 g - 1)) := by simp only [k2, true_and]
        rw [e] at ihh
        obtain ⟨I', P', R', W', t1, t2⟩ := ihh I1 P1 R1 W1 w2 (by omega)
        refine ⟨I', P', R', W', fun a2 => ?_, t2⟩
        rw [show nI 3 = (3 : Int32) from rfl, k2] at w1
        rw [r54_2]
        simp (disch := first | decide | omega | assumption | (simp (disch := decide) only [u2_ne, u2_same, mQueue]; assumption)) only [kV_some, kI_some, kR_some, kR_any, kH_some, kC_none, kC_some, jv_rsv_ref, jv_rsv_rf, jv_nz_ref, jv_nz_null, jv_nz_rf0, jv_nz_rf1, jv_rq_r1, jv_rq_r0, n10, n11, n00, Nat.reduceEqDiff, Option.bind_some, Option.bind_none, jv_isr_ref, jv_isr_rf, jv_isr_null, va_rf_some, va_rf_none, jv_cat1_int, jv_cat1_ref, jv_cat1_rf, if_true, if_false, eq_self, Option.toList_some, Option.toList_none, List.cons_append, List.nil_append, Bool.and_self, Bool.and_true, i32_10, i32_01, i32_80, nI_div8, nI_mul4, nI_mul8, nI_mul32, nI_add, ↓reduceIte, u2_ne, u2_same, r54_0, r54_1, r54_3, r54_5, r54_8, r54_9, r54_12, r54_13, r54_14, r54_15, r54_16, r54_19, r54_22, r54_23, r54_24, r54_27, r54_28, r54_29, r54_32, r54_33, r54_36, r54_39, r54_40, r54_41, r54_42, r54_45, r54_48, r54_51, h1, gt_1_1, rl_3, gt_gr_5, e33, k1', pt_gr_5, k2, ic_1, w1, nI_1]
        exact t1 _
      · rw [if_neg (fun z => k2 z.1)] at ihh
        obtain ⟨I', P', R', W', t1, t2⟩ := ihh _ P R W (ht.mono (by omega) (by omega)) (by omega)
        refine ⟨I', P', R', W', fun a2 => ?_, t2⟩
        rw [r54_2]
        simp (disch := first | decide | omega | assumption | (simp (disch := decide) only [u2_ne, u2_same, mQueue]; assumption)) only [kV_some, kI_some, kR_some, kR_any, kH_some, kC_none, kC_some, jv_rsv_ref, jv_rsv_rf, jv_nz_ref, jv_nz_null, jv_nz_rf0, jv_nz_rf1, jv_rq_r1, jv_rq_r0, n10, n11, n00, Nat.reduceEqDiff, Option.bind_some, Option.bind_none, jv_isr_ref, jv_isr_rf, jv_isr_null, va_rf_some, va_rf_none, jv_cat1_int, jv_cat1_ref, jv_cat1_rf, if_true, if_false, eq_self, Option.toList_some, Option.toList_none, List.cons_append, List.nil_append, Bool.and_self, Bool.and_true, i32_10, i32_01, i32_80, nI_div8, nI_mul4, nI_mul8, nI_mul32, nI_add, ↓reduceIte, u2_ne, u2_same, r54_0, r54_1, r54_3, r54_5, r54_8, r54_9, r54_12, r54_13, r54_14, r54_15, r54_16, r54_19, r54_22, r54_23, r54_24, r54_27, r54_28, r54_29, r54_32, r54_33, r54_36, r54_39, r54_40, r54_41, r54_42, r54_45, r54_48, r54_51, h1, gt_1_1, rl_3, gt_gr_5, e33, k1', pt_gr_5, k2, nI_1]
        exact t1 _
    · have k1' : M 10 g ≤ 0 := Int32.not_lt.mp k1
      rw [if_neg k1] at ihh
      obtain ⟨I', P', R', W', t1, t2⟩ := ihh I P R W (h.mono (by omega) (by omega)) (by omega)
      refine ⟨I', P', R', W', fun a2 => ?_, t2⟩
      rw [r54_2]
      simp (disch := first | decide | omega | assumption | (simp (disch := decide) only [u2_ne, u2_same, mQueue]; assumption)) only [kV_some, kI_some, kR_some, kR_any, kH_some, kC_none, kC_some, jv_rsv_ref, jv_rsv_rf, jv_nz_ref, jv_nz_null, jv_nz_rf0, jv_nz_rf1, jv_rq_r1, jv_rq_r0, n10, n11, n00, Nat.reduceEqDiff, Option.bind_some, Option.bind_none, jv_isr_ref, jv_isr_rf, jv_isr_null, va_rf_some, va_rf_none, jv_cat1_int, jv_cat1_ref, jv_cat1_rf, if_true, if_false, eq_self, Option.toList_some, Option.toList_none, List.cons_append, List.nil_append, Bool.and_self, Bool.and_true, i32_10, i32_01, i32_80, nI_div8, nI_mul4, nI_mul8, nI_mul32, nI_add, ↓reduceIte, u2_ne, u2_same, r54_0, r54_1, r54_3, r54_5, r54_8, r54_9, r54_12, r54_13, r54_14, r54_15, r54_16, r54_19, r54_22, r54_23, r54_24, r54_27, r54_28, r54_29, r54_32, r54_33, r54_36, r54_39, r54_40, r54_41, r54_42, r54_45, r54_48, r54_51, h1, gt_1_1, rl_3, gt_gr_5, e33, k1', nI_1]
      exact t1 _
theorem c54 (h : RJ I P M ρ R W (R + 32) O Q (-1) (-1)) (hQ : Q + 32 < 2 ^ 30) (hd : 6 ≤ d) : ∃ I' P' R' W', jv_F gw X d 54 [.ref 1] (he I P N) = some (none, he I' P' N) ∧ RJ I' P' (upto mTim 32 M) ρ R' W' (R' + 32) O (Q + 32) (-1) (-1) := by
  obtain ⟨d, rfl⟩ : ∃ q, d = q + 1 := ⟨d - 1, by omega⟩
  obtain ⟨I', P', R', W', t1, t2⟩ := c54l (X := X) (d := d) (N := N) (M0 := M) hQ (by omega) 32 0 I P R W h (by omega)
  refine ⟨I', P', R', W', ?_, t2⟩
  rw [e54]
  simp (disch := first | decide | omega | assumption | (simp (disch := decide) only [u2_ne, u2_same, mQueue]; assumption)) only [kV_some, kI_some, kR_some, kR_any, kH_some, kC_none, kC_some, jv_rsv_ref, jv_rsv_rf, jv_nz_ref, jv_nz_null, jv_nz_rf0, jv_nz_rf1, jv_rq_r1, jv_rq_r0, n10, n11, n00, Nat.reduceEqDiff, Option.bind_some, Option.bind_none, jv_isr_ref, jv_isr_rf, jv_isr_null, va_rf_some, va_rf_none, jv_cat1_int, jv_cat1_ref, jv_cat1_rf, if_true, if_false, eq_self, Option.toList_some, Option.toList_none, List.cons_append, List.nil_append, Bool.and_self, Bool.and_true, i32_10, i32_01, i32_80, nI_div8, nI_mul4, nI_mul8, nI_mul32, nI_add, ↓reduceIte, u2_ne, u2_same, r54_0, r54_1, r54_3, r54_5, r54_8, r54_9, r54_12, r54_13, r54_14, r54_15, r54_16, r54_19, r54_22, r54_23, r54_24, r54_27, r54_28, r54_29, r54_32, r54_33, r54_36, r54_39, r54_40, r54_41, r54_42, r54_45, r54_48, r54_51]
  exact t1 none
theorem RJ.rem (h : RJ I P M ρ R W K O Q y x) {g : Nat} {v : Int32} (hg : g < 32) (h1 : 0 < M 15 g) (hv : 0 < v) : RJ (u2 I 36 g v) P (u2 M 14 g v) ρ R W K O Q y x := ⟨h.1.both rfl (by decide) (by omega) (by omega) (by decide), h.2.set14 hg h1 hv⟩
theorem c56l {M0 : Nat → Nat → Int32} (hQ : Q + 32 < 2 ^ 30) (hd : 5 ≤ d) : ∀ (r g : Nat) (I : Nat → Nat → Int32) (P : Nat → Nat → Option Nat) (R W : Nat), RJ I P (upto mRem g M0) ρ R W (R + 32) O (Q + g) (-1) (-1) → g + r = 32 → ∃ I' P' R' W', (∀ a2, jl gw X d 56 2 [some (.ref 1), some (.int (nI g)), a2] [] (he I P N) = some (none, he I' P' N)) ∧ RJ I' P' (upto mRem 32 M0) ρ R' W' (R' + 32) O (Q + 32) (-1) (-1) := by
  intro r
  induction r with
  | zero =>
    intro g I P R W h hg
    have hg : g = 32 := by omega
    subst hg
    have h1 : (32 : Int32) ≤ nI 32 := by decide
    refine ⟨I, P, R, W, fun a2 => ?_, h⟩
    rw [r56_2]
    simp (disch := first | decide | omega | assumption | (simp (disch := decide) only [u2_ne, u2_same, mQueue]; assumption)) only [kV_some, kI_some, kR_some, kR_any, kH_some, kC_none, kC_some, jv_rsv_ref, jv_rsv_rf, jv_nz_ref, jv_nz_null, jv_nz_rf0, jv_nz_rf1, jv_rq_r1, jv_rq_r0, n10, n11, n00, Nat.reduceEqDiff, Option.bind_some, Option.bind_none, jv_isr_ref, jv_isr_rf, jv_isr_null, va_rf_some, va_rf_none, jv_cat1_int, jv_cat1_ref, jv_cat1_rf, if_true, if_false, eq_self, Option.toList_some, Option.toList_none, List.cons_append, List.nil_append, Bool.and_self, Bool.and_true, i32_10, i32_01, i32_80, nI_div8, nI_mul4, nI_mul8, nI_mul32, nI_add, ↓reduceIte, u2_ne, u2_same, r56_0, r56_1, r56_3, r56_5, r56_8, r56_9, r56_12, r56_13, r56_14, r56_15, r56_16, r56_19, r56_22, r56_23, r56_24, r56_27, r56_28, r56_29, r56_32, r56_33, r56_36, r56_39, r56_40, r56_41, r56_44, r56_47, r56_48, r56_49, r56_50, r56_53, r56_56, r56_59, h1]
  | succ r ih =>
    intro g I P R W h hg
    have h1 : ¬ (32 : Int32) ≤ nI g := nI_ge (b := 32) (by omega) (by decide)
    have ihh := ih (g + 1)
    rw [show upto mRem (g + 1) M0 = mRem g (upto mRem g M0) from rfl] at ihh
    generalize upto mRem g M0 = M at h ihh
    have hgg : g < 32 := by omega
    have e36 : I 36 = M 14 := h.1.s 36 (by decide)
    have e35 : I 35 = M 15 := h.1.s 35 (by decide)
    unfold mRem at ihh
    rw [h.2.nR] at ihh
    by_cases k1 : 0 < M 15 g
    · have k0 : 0 < M 14 g := by
        rcases (h.2.g g hgg).2 with z | z
        · rw [z.1] at k1; exact absurd k1 (by decide)
        · exact z.2
      have k1' : ¬ M 14 g ≤ 0 := Int32.not_le.mpr k0
      rw [if_pos k1] at ihh
      by_cases k2 : M 14 g - 1 = 0
      · rw [if_pos k2] at ihh
        have ht := h.rem (v := M 15 g) hgg k1 k1
        obtain ⟨I1, P1, R1, W1, w1, w2⟩ := c55 (X := X) (d := d) (N := N) (mm := 2) ht hgg (by omega) (by omega) hd
        obtain ⟨I', P', R', W', t1, t2⟩ := ihh I1 P1 R1 W1 w2 (by omega)
        refine ⟨I', P', R', W', fun a2 => ?_, t2⟩
        rw [show nI 2 = (2 : Int32) from rfl] at w1
        rw [r56_2]
        simp (disch := first | decide | omega | assumption | (simp (disch := decide) only [u2_ne, u2_same, mQueue]; assumption)) only [kV_some, kI_some, kR_some, kR_any, kH_some, kC_none, kC_some, jv_rsv_ref, jv_rsv_rf, jv_nz_ref, jv_nz_null, jv_nz_rf0, jv_nz_rf1, jv_rq_r1, jv_rq_r0, n10, n11, n00, Nat.reduceEqDiff, Option.bind_some, Option.bind_none, jv_isr_ref, jv_isr_rf, jv_isr_null, va_rf_some, va_rf_none, jv_cat1_int, jv_cat1_ref, jv_cat1_rf, if_true, if_false, eq_self, Option.toList_some, Option.toList_none, List.cons_append, List.nil_append, Bool.and_self, Bool.and_true, i32_10, i32_01, i32_80, nI_div8, nI_mul4, nI_mul8, nI_mul32, nI_add, ↓reduceIte, u2_ne, u2_same, r56_0, r56_1, r56_3, r56_5, r56_8, r56_9, r56_12, r56_13, r56_14, r56_15, r56_16, r56_19, r56_22, r56_23, r56_24, r56_27, r56_28, r56_29, r56_32, r56_33, r56_36, r56_39, r56_40, r56_41, r56_44, r56_47, r56_48, r56_49, r56_50, r56_53, r56_56, r56_59, h1, gt_1_1, rl_3, gt_gr_8, e36, k1', pt_gr_8, k2, gt_gr_7, e35, u2_u2, ic_1, w1, nI_1]
        exact t1 _
      · rw [if_neg k2] at ihh
        have ht := h.rem (v := M 14 g - 1) hgg k1 (i32_pred k0 k2)
        obtain ⟨I', P', R', W', t1, t2⟩ := ihh _ P R W (ht.mono (by omega) (by omega)) (by omega)
        refine ⟨I', P', R', W', fun a2 => ?_, t2⟩
        rw [r56_2]
        simp (disch := first | decide | omega | assumption | (simp (disch := decide) only [u2_ne, u2_same, mQueue]; assumption)) only [kV_some, kI_some, kR_some, kR_any, kH_some, kC_none, kC_some, jv_rsv_ref, jv_rsv_rf, jv_nz_ref, jv_nz_null, jv_nz_rf0, jv_nz_rf1, jv_rq_r1, jv_rq_r0, n10, n11, n00, Nat.reduceEqDiff, Option.bind_some, Option.bind_none, jv_isr_ref, jv_isr_rf, jv_isr_null, va_rf_some, va_rf_none, jv_cat1_int, jv_cat1_ref, jv_cat1_rf, if_true, if_false, eq_self, Option.toList_some, Option.toList_none, List.cons_append, List.nil_append, Bool.and_self, Bool.and_true, i32_10, i32_01, i32_80, nI_div8, nI_mul4, nI_mul8, nI_mul32, nI_add, ↓reduceIte, u2_ne, u2_same, r56_0, r56_1, r56_3, r56_5, r56_8, r56_9, r56_12, r56_13, r56_14, r56_15, r56_16, r56_19, r56_22, r56_23, r56_24, r56_27, r56_28, r56_29, r56_32, r56_33, r56_36, r56_39, r56_40, r56_41, r56_44, r56_47, r56_48, r56_49, r56_50, r56_53, r56_56, r56_59, h1, gt_1_1, rl_3, gt_gr_8, e36, k1', pt_gr_8, k2, nI_1]
        exact t1 _
    · have k0 : M 14 g = 0 := by
        rcases (h.2.g g hgg).2 with z | z
        · exact z.2
        · exact absurd z.1 k1
      have k1' : M 14 g ≤ 0 := by rw [k0]; decide
      rw [if_neg k1] at ihh
      obtain ⟨I', P', R', W', t1, t2⟩ := ihh I P R W (h.mono (by omega) (by omega)) (by omega)
      refine ⟨I', P', R', W', fun a2 => ?_, t2⟩
      rw [r56_2]
      simp (disch := first | decide | omega | assumption | (simp (disch := decide) only [u2_ne, u2_same, mQueue]; assumption)) only [kV_some, kI_some, kR_some, kR_any, kH_some, kC_none, kC_some, jv_rsv_ref, jv_rsv_rf, jv_nz_ref, jv_nz_null, jv_nz_rf0, jv_nz_rf1, jv_rq_r1, jv_rq_r0, n10, n11, n00, Nat.reduceEqDiff, Option.bind_some, Option.bind_none, jv_isr_ref, jv_isr_rf, jv_isr_null, va_rf_some, va_rf_none, jv_cat1_int, jv_cat1_ref, jv_cat1_rf, if_true, if_false, eq_self, Option.toList_some, Option.toList_none, List.cons_append, List.nil_append, Bool.and_self, Bool.and_true, i32_10, i32_01, i32_80, nI_div8, nI_mul4, nI_mul8, nI_mul32, nI_add, ↓reduceIte, u2_ne, u2_same, r56_0, r56_1, r56_3, r56_5, r56_8, r56_9, r56_12, r56_13, r56_14, r56_15, r56_16, r56_19, r56_22, r56_23, r56_24, r56_27, r56_28, r56_29, r56_32, r56_33, r56_36, r56_39, r56_40, r56_41, r56_44, r56_47, r56_48, r56_49, r56_50, r56_53, r56_56, r56_59, h1, gt_1_1, rl_3, gt_gr_8, e36, k1', nI_1]
      exact t1 _
theorem c56 (h : RJ I P M ρ R W (R + 32) O Q (-1) (-1)) (hQ : Q + 32 < 2 ^ 30) (hd : 6 ≤ d) : ∃ I' P' R' W', jv_F gw X d 56 [.ref 1] (he I P N) = some (none, he I' P' N) ∧ RJ I' P' (upto mRem 32 M) ρ R' W' (R' + 32) O (Q + 32) (-1) (-1) := by
  obtain ⟨d, rfl⟩ : ∃ q, d = q + 1 := ⟨d - 1, by omega⟩
  obtain ⟨I', P', R', W', t1, t2⟩ := c56l (X := X) (d := d) (N := N) (M0 := M) hQ (by omega) 32 0 I P R W h (by omega)
  refine ⟨I', P', R', W', ?_, t2⟩
  rw [e56]
  simp (disch := first | decide | omega | assumption | (simp (disch := decide) only [u2_ne, u2_same, mQueue]; assumption)) only [kV_some, kI_some, kR_some, kR_any, kH_some, kC_none, kC_some, jv_rsv_ref, jv_rsv_rf, jv_nz_ref, jv_nz_null, jv_nz_rf0, jv_nz_rf1, jv_rq_r1, jv_rq_r0, n10, n11, n00, Nat.reduceEqDiff, Option.bind_some, Option.bind_none, jv_isr_ref, jv_isr_rf, jv_isr_null, va_rf_some, va_rf_none, jv_cat1_int, jv_cat1_ref, jv_cat1_rf, if_true, if_false, eq_self, Option.toList_some, Option.toList_none, List.cons_append, List.nil_append, Bool.and_self, Bool.and_true, i32_10, i32_01, i32_80, nI_div8, nI_mul4, nI_mul8, nI_mul32, nI_add, ↓reduceIte, u2_ne, u2_same, r56_0, r56_1, r56_3, r56_5, r56_8, r56_9, r56_12, r56_13, r56_14, r56_15, r56_16, r56_19, r56_22, r56_23, r56_24, r56_27, r56_28, r56_29, r56_32, r56_33, r56_36, r56_39, r56_40, r56_41, r56_44, r56_47, r56_48, r56_49, r56_50, r56_53, r56_56, r56_59]
  exact t1 none
theorem c62l {M0 : Nat → Nat → Int32} (hd : 4 ≤ d) : ∀ (r g : Nat) (I : Nat → Nat → Int32), RJ I P (upto (fun g N => mRest N g) g M0) ρ R W (R + 32) O Q (-1) (-1) → g + r = 32 → ∃ I', (∀ a2, jl gw X d 62 2 [some (.ref 1), some (.int (nI g)), a2] [] (he I P N) = some (none, he I' P N)) ∧ RJ I' P (upto (fun g N => mRest N g) 32 M0) ρ R W (R + 32) O Q (-1) (-1) := by
  intro r
  induction r with
  | zero =>
    intro g I h hg
    have hg : g = 32 := by omega
    subst hg
    have h1 : (32 : Int32) ≤ nI 32 := by decide
    refine ⟨I, fun a2 => ?_, h⟩
    rw [r62_2]
    simp (disch := first | decide | omega | assumption | (simp (disch := decide) only [u2_ne, u2_same, mQueue]; assumption)) only [kV_some, kI_some, kR_some, kR_any, kH_some, kC_none, kC_some, jv_rsv_ref, jv_rsv_rf, jv_nz_ref, jv_nz_null, jv_nz_rf0, jv_nz_rf1, jv_rq_r1, jv_rq_r0, n10, n11, n00, Nat.reduceEqDiff, Option.bind_some, Option.bind_none, jv_isr_ref, jv_isr_rf, jv_isr_null, va_rf_some, va_rf_none, jv_cat1_int, jv_cat1_ref, jv_cat1_rf, if_true, if_false, eq_self, Option.toList_some, Option.toList_none, List.cons_append, List.nil_append, Bool.and_self, Bool.and_true, i32_10, i32_01, i32_80, nI_div8, nI_mul4, nI_mul8, nI_mul32, nI_add, ↓reduceIte, u2_ne, u2_same, r62_0, r62_1, r62_3, r62_5, r62_8, r62_9, r62_12, r62_13, r62_14, r62_15, r62_16, r62_19, r62_20, r62_23, r62_24, r62_27, r62_28, r62_31, r62_34, r62_35, r62_36, r62_39, r62_40, r62_41, r62_44, r62_45, r62_48, r62_51, r62_52, r62_55, r62_56, r62_59, r62_62, r62_63, r62_64, r62_67, r62_70, r62_73, h1]
  | succ r ih =>
    intro g I h hg
    have h1 : ¬ (32 : Int32) ≤ nI g := nI_ge (b := 32) (by omega) (by decide)
    have ihh := ih (g + 1)
    rw [show upto (fun g N => mRest N g) (g + 1) M0 = mRest (upto (fun g N => mRest N g) g M0) g from rfl] at ihh
    generalize upto (fun g N => mRest N g) g M0 = M at h ihh
    have hgg : g < 32 := by omega
    have e30 := h.f8
    have e34 : I 34 = M 11 := h.1.s 34 (by decide)
    have e4 : I 4 = M 38 := h.1.s 4 (by decide)
    have hne := c42 (X := X) (d := d) (N := N) h hgg (by omega)
    unfold mRest at ihh
    rw [h.2.nR] at ihh
    by_cases k1 : M 8 g = 2
    · rcases mEmpty_01 (M := M) (g := nI g) (R := R) with k2 | k2
      · rw [if_neg (fun z => by rw [k2] at z; exact absurd z.2 (by decide))] at ihh
        obtain ⟨I', t1, t2⟩ := ihh I h (by omega)
        refine ⟨I', fun a2 => ?_, t2⟩
        rw [r62_2]
        simp (disch := first | decide | omega | assumption | (simp (disch := decide) only [u2_ne, u2_same, mQueue]; assumption)) only [kV_some, kI_some, kR_some, kR_any, kH_some, kC_none, kC_some, jv_rsv_ref, jv_rsv_rf, jv_nz_ref, jv_nz_null, jv_nz_rf0, jv_nz_rf1, jv_rq_r1, jv_rq_r0, n10, n11, n00, Nat.reduceEqDiff, Option.bind_some, Option.bind_none, jv_isr_ref, jv_isr_rf, jv_isr_null, va_rf_some, va_rf_none, jv_cat1_int, jv_cat1_ref, jv_cat1_rf, if_true, if_false, eq_self, Option.toList_some, Option.toList_none, List.cons_append, List.nil_append, Bool.and_self, Bool.and_true, i32_10, i32_01, i32_80, nI_div8, nI_mul4, nI_mul8, nI_mul32, nI_add, ↓reduceIte, u2_ne, u2_same, r62_0, r62_1, r62_3, r62_5, r62_8, r62_9, r62_12, r62_13, r62_14, r62_15, r62_16, r62_19, r62_20, r62_23, r62_24, r62_27, r62_28, r62_31, r62_34, r62_35, r62_36, r62_39, r62_40, r62_41, r62_44, r62_45, r62_48, r62_51, r62_52, r62_55, r62_56, r62_59, r62_62, r62_63, r62_64, r62_67, r62_70, r62_73, h1, gt_1_1, rl_3, gt_gr_2, e30, k1, gt_1_3, ic_5, hne, k2, nI_1]
        exact t1 _
      · rw [if_pos ⟨k1, k2⟩] at ihh
        have hi := h.idle (v := M 11 g + 1) hgg k1
        by_cases k3 : 0 < M 38 0
        · have k3' : ¬ M 38 0 ≤ 0 := Int32.not_le.mpr k3
          by_cases k4 : M 38 0 ≤ M 11 g + 1
          · have k4' : ¬ M 11 g + 1 < M 38 0 := Int32.not_lt.mpr k4
            rw [if_pos ⟨k3, k4⟩] at ihh
            have hgo := c43 (X := X) (d := d) (I := u2 I 34 g (M 11 g + 1)) (P := P) (N := N) hgg (by omega)
            obtain ⟨I', t1, t2⟩ := ihh _ (hi.go hgg (by rw [u2_ne (by decide)]; exact k1) (by rw [u2_ne (by decide)]; exact mEmpty_no k2)) (by omega)
            refine ⟨I', fun a2 => ?_, t2⟩
            rw [r62_2]
            simp (disch := first | decide | omega | assumption | (simp (disch := decide) only [u2_ne, u2_same, mQueue]; assumption)) only [kV_some, kI_some, kR_some, kR_any, kH_some, kC_none, kC_some, jv_rsv_ref, jv_rsv_rf, jv_nz_ref, jv_nz_null, jv_nz_rf0, jv_nz_rf1, jv_rq_r1, jv_rq_r0, n10, n11, n00, Nat.reduceEqDiff, Option.bind_some, Option.bind_none, jv_isr_ref, jv_isr_rf, jv_isr_null, va_rf_some, va_rf_none, jv_cat1_int, jv_cat1_ref, jv_cat1_rf, if_true, if_false, eq_self, Option.toList_some, Option.toList_none, List.cons_append, List.nil_append, Bool.and_self, Bool.and_true, i32_10, i32_01, i32_80, nI_div8, nI_mul4, nI_mul8, nI_mul32, nI_add, ↓reduceIte, u2_ne, u2_same, r62_0, r62_1, r62_3, r62_5, r62_8, r62_9, r62_12, r62_13, r62_14, r62_15, r62_16, r62_19, r62_20, r62_23, r62_24, r62_27, r62_28, r62_31, r62_34, r62_35, r62_36, r62_39, r62_40, r62_41, r62_44, r62_45, r62_48, r62_51, r62_52, r62_55, r62_56, r62_59, r62_62, r62_63, r62_64, r62_67, r62_70, r62_73, h1, gt_1_1, rl_3, gt_gr_2, e30, k1, gt_1_3, ic_5, hne, k2, gt_gr_6, e34, pt_gr_6, gt_1_10, e4, k3', k4', ic_1, hgo, nI_1]
            exact t1 _
          · have k4' : M 11 g + 1 < M 38 0 := Int32.not_le.mp k4
            rw [if_neg (fun z => k4 z.2)] at ihh
            obtain ⟨I', t1, t2⟩ := ihh _ hi (by omega)
            refine ⟨I', fun a2 => ?_, t2⟩
            rw [r62_2]
            simp (disch := first | decide | omega | assumption | (simp (disch := decide) only [u2_ne, u2_same, mQueue]; assumption)) only [kV_some, kI_some, kR_some, kR_any, kH_some, kC_none, kC_some, jv_rsv_ref, jv_rsv_rf, jv_nz_ref, jv_nz_null, jv_nz_rf0, jv_nz_rf1, jv_rq_r1, jv_rq_r0, n10, n11, n00, Nat.reduceEqDiff, Option.bind_some, Option.bind_none, jv_isr_ref, jv_isr_rf, jv_isr_null, va_rf_some, va_rf_none, jv_cat1_int, jv_cat1_ref, jv_cat1_rf, if_true, if_false, eq_self, Option.toList_some, Option.toList_none, List.cons_append, List.nil_append, Bool.and_self, Bool.and_true, i32_10, i32_01, i32_80, nI_div8, nI_mul4, nI_mul8, nI_mul32, nI_add, ↓reduceIte, u2_ne, u2_same, r62_0, r62_1, r62_3, r62_5, r62_8, r62_9, r62_12, r62_13, r62_14, r62_15, r62_16, r62_19, r62_20, r62_23, r62_24, r62_27, r62_28, r62_31, r62_34, r62_35, r62_36, r62_39, r62_40, r62_41, r62_44, r62_45, r62_48, r62_51, r62_52, r62_55, r62_56, r62_59, r62_62, r62_63, r62_64, r62_67, r62_70, r62_73, h1, gt_1_1, rl_3, gt_gr_2, e30, k1, gt_1_3, ic_5, hne, k2, gt_gr_6, e34, pt_gr_6, gt_1_10, e4, k3', k4', nI_1]
            exact t1 _
        · have k3' : M 38 0 ≤ 0 := Int32.not_lt.mp k3
          rw [if_neg (fun z => k3 z.1)] at ihh
          obtain ⟨I', t1, t2⟩ := ihh _ hi (by omega)
          refine ⟨I', fun a2 => ?_, t2⟩
          rw [r62_2]
          simp (disch := first | decide | omega | assumption | (simp (disch := decide) only [u2_ne, u2_same, mQueue]; assumption)) only [kV_some, kI_some, kR_some, kR_any, kH_some, kC_none, kC_some, jv_rsv_ref, jv_rsv_rf, jv_nz_ref, jv_nz_null, jv_nz_rf0, jv_nz_rf1, jv_rq_r1, jv_rq_r0, n10, n11, n00, Nat.reduceEqDiff, Option.bind_some, Option.bind_none, jv_isr_ref, jv_isr_rf, jv_isr_null, va_rf_some, va_rf_none, jv_cat1_int, jv_cat1_ref, jv_cat1_rf, if_true, if_false, eq_self, Option.toList_some, Option.toList_none, List.cons_append, List.nil_append, Bool.and_self, Bool.and_true, i32_10, i32_01, i32_80, nI_div8, nI_mul4, nI_mul8, nI_mul32, nI_add, ↓reduceIte, u2_ne, u2_same, r62_0, r62_1, r62_3, r62_5, r62_8, r62_9, r62_12, r62_13, r62_14, r62_15, r62_16, r62_19, r62_20, r62_23, r62_24, r62_27, r62_28, r62_31, r62_34, r62_35, r62_36, r62_39, r62_40, r62_41, r62_44, r62_45, r62_48, r62_51, r62_52, r62_55, r62_56, r62_59, r62_62, r62_63, r62_64, r62_67, r62_70, r62_73, h1, gt_1_1, rl_3, gt_gr_2, e30, k1, gt_1_3, ic_5, hne, k2, gt_gr_6, e34, pt_gr_6, gt_1_10, e4, k3', nI_1]
          exact t1 _
    · rw [if_neg (fun z => k1 z.1)] at ihh
      obtain ⟨I', t1, t2⟩ := ihh I h (by omega)
      refine ⟨I', fun a2 => ?_, t2⟩
      rw [r62_2]
      simp (disch := first | decide | omega | assumption | (simp (disch := decide) only [u2_ne, u2_same, mQueue]; assumption)) only [kV_some, kI_some, kR_some, kR_any, kH_some, kC_none, kC_some, jv_rsv_ref, jv_rsv_rf, jv_nz_ref, jv_nz_null, jv_nz_rf0, jv_nz_rf1, jv_rq_r1, jv_rq_r0, n10, n11, n00, Nat.reduceEqDiff, Option.bind_some, Option.bind_none, jv_isr_ref, jv_isr_rf, jv_isr_null, va_rf_some, va_rf_none, jv_cat1_int, jv_cat1_ref, jv_cat1_rf, if_true, if_false, eq_self, Option.toList_some, Option.toList_none, List.cons_append, List.nil_append, Bool.and_self, Bool.and_true, i32_10, i32_01, i32_80, nI_div8, nI_mul4, nI_mul8, nI_mul32, nI_add, ↓reduceIte, u2_ne, u2_same, r62_0, r62_1, r62_3, r62_5, r62_8, r62_9, r62_12, r62_13, r62_14, r62_15, r62_16, r62_19, r62_20, r62_23, r62_24, r62_27, r62_28, r62_31, r62_34, r62_35, r62_36, r62_39, r62_40, r62_41, r62_44, r62_45, r62_48, r62_51, r62_52, r62_55, r62_56, r62_59, r62_62, r62_63, r62_64, r62_67, r62_70, r62_73, h1, gt_1_1, rl_3, gt_gr_2, e30, k1, nI_1]
      exact t1 _
theorem c62 (h : RJ I P M ρ R W (R + 32) O Q (-1) (-1)) (hd : 5 ≤ d) : ∃ I', jv_F gw X d 62 [.ref 1] (he I P N) = some (none, he I' P N) ∧ RJ I' P (upto (fun g N => mRest N g) 32 M) ρ R W (R + 32) O Q (-1) (-1) := by
  obtain ⟨d, rfl⟩ : ∃ q, d = q + 1 := ⟨d - 1, by omega⟩
  obtain ⟨I', t1, t2⟩ := c62l (X := X) (d := d) (N := N) (M0 := M) (by omega) 32 0 I h (by omega)
  refine ⟨I', ?_, t2⟩
  rw [e62]
  simp (disch := first | decide | omega | assumption | (simp (disch := decide) only [u2_ne, u2_same, mQueue]; assumption)) only [kV_some, kI_some, kR_some, kR_any, kH_some, kC_none, kC_some, jv_rsv_ref, jv_rsv_rf, jv_nz_ref, jv_nz_null, jv_nz_rf0, jv_nz_rf1, jv_rq_r1, jv_rq_r0, n10, n11, n00, Nat.reduceEqDiff, Option.bind_some, Option.bind_none, jv_isr_ref, jv_isr_rf, jv_isr_null, va_rf_some, va_rf_none, jv_cat1_int, jv_cat1_ref, jv_cat1_rf, if_true, if_false, eq_self, Option.toList_some, Option.toList_none, List.cons_append, List.nil_append, Bool.and_self, Bool.and_true, i32_10, i32_01, i32_80, nI_div8, nI_mul4, nI_mul8, nI_mul32, nI_add, ↓reduceIte, u2_ne, u2_same, r62_0, r62_1, r62_3, r62_5, r62_8, r62_9, r62_12, r62_13, r62_14, r62_15, r62_16, r62_19, r62_20, r62_23, r62_24, r62_27, r62_28, r62_31, r62_34, r62_35, r62_36, r62_39, r62_40, r62_41, r62_44, r62_45, r62_48, r62_51, r62_52, r62_55, r62_56, r62_59, r62_62, r62_63, r62_64, r62_67, r62_70, r62_73]
  exact t1 none
end CL
