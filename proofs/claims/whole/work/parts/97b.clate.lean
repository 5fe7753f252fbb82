/-! ===== the class: endLateAwaits, endLateOutsides, tick ===== -/
section CL
variable {X : Nat × (Nat → Int32)} {d : Nat} {I : Nat → Nat → Int32} {P : Nat → Nat → Option Nat} {M N : Nat → Nat → Int32} {ρ : Nat → Nat} {R W K O Q : Nat} {y x : Int32}
theorem Rel.but (h : Rel I P M ρ R W (-1)) (h0 : ∀ k, k < R → 0 ≤ M 17 k) : Rel I P M ρ R W x := by
  obtain ⟨h1, h2, h3, h4, h5, h6, h7, h8, h9⟩ := h
  refine ⟨h1, h2, h3, fun k hk => ?_, h5, fun k hk _ => h6 k hk (p_m1 (h0 k hk)), h7, h8, h9⟩
  obtain ⟨a1, a2, a3, a4, a5⟩ := h4 k hk
  exact ⟨a1, a2, a3, a4, fun _ => a5 (p_m1 (h0 k hk))⟩
/-- the ticks of one that awaits -/
theorem Rel.tick (h : Rel I P M ρ R W x) {k : Nat} {v : Int32} (h30 : R ≤ 30) (hk : k < R) : Rel (u2 I 48 (ρ k) v) P (u2 M 25 k v) ρ R W x := by
  obtain ⟨h1, h2, h3, h4, h5, h6, h7, h8, h9⟩ := h
  have eM : ∀ f, f ≠ 25 → u2 M 25 k v f = M f := fun f p => u2_ne p
  refine ⟨(h1.left rfl).right rfl, h2, fun a j ha hj => ?_, fun j hj => ?_, fun j hj => ?_, fun j hj hx => ?_, fun j hj1 hj2 => ?_, ?_, ?_⟩
  · have ea : (40 ≤ a ∧ a ≤ 45) ∧ 17 ≤ cq a ∧ cq a ≤ 23 := by
      unfold cq at *
      split at ha <;> first | (constructor <;> decide) | exact absurd rfl ha
    rw [u2_ne (by omega), eM _ (by omega)]
    exact h3 a j ha hj
  · obtain ⟨a1, a2, a3, a4, a5⟩ := h4 j hj
    rw [u2_ne (show (46 : Nat) ≠ 48 by decide), u2_ne (show (47 : Nat) ≠ 48 by decide), eM 18 (by decide), eM 19 (by decide), eM 27 (by decide), eM 17 (by decide)]
    refine ⟨a1, a2, a3, a4, fun hx => ?_⟩
    by_cases hjk : j = k
    · subst hjk; rw [u2_same, u2_same]
    · rw [u2_oth (fun z => hjk (h2.2 j k (by omega) (by omega) z)), u2_oth hjk]; exact a5 hx
  · rw [eM 26 (by decide), eM 17 (by decide)]; exact h5 j hj
  · rw [eM 17 (by decide)] at hx ⊢
    rw [eM 24 (by decide)]; exact h6 j hj hx
  · rw [u2_ne (by decide)]; exact h7 j hj1 hj2
  · unfold relL
    rw [u2_ne (by decide), u2_ne (by decide), eM 30 (by decide)]; exact h8
  · rw [eM 37 (by decide)]; exact h9
/-- nobody is told any more: q is 2 for a caller, 3 for an outside call -/
theorem Rel.untell (h : Rel I P M ρ R W x) {j q : Nat} (h30 : R ≤ 30) (hj : j < R) (hq : (q = 2 ∧ P 3 (ρ j) = none) ∨ (q = 3 ∧ P 2 (ρ j) = none)) : Rel I (u2 P q (ρ j) none) (u2 M 26 j (-1)) ρ R W x := by
  obtain ⟨h1, h2, h3, h4, h5, h6, h7, h8, h9⟩ := h
  have eM : ∀ f, f ≠ 26 → u2 M 26 j (-1) f = M f := fun f p => u2_ne p
  have eP : ∀ f, f ≠ 2 → f ≠ 3 → u2 P q (ρ j) none f = P f := fun f a b => u2_ne (by omega)
  refine ⟨h1.right rfl, ⟨fun k hk => by rw [eP 10 (by decide) (by decide)]; exact h2.1 k hk, h2.2⟩, fun a k ha hk => ?_, fun k hk => ?_, fun k hk => ?_, fun k hk hx => ?_, h7, ?_, ?_⟩
  · have ea : (40 ≤ a ∧ a ≤ 45) ∧ 17 ≤ cq a ∧ cq a ≤ 23 := by
      unfold cq at *
      split at ha <;> first | (constructor <;> decide) | exact absurd rfl ha
    rw [eM _ (by omega)]
    exact h3 a k ha hk
  · rw [eP 0 (by decide) (by decide), eP 1 (by decide) (by decide), eM 18 (by decide), eM 19 (by decide), eM 27 (by decide), eM 17 (by decide), eM 25 (by decide)]; exact h4 k hk
  · rw [eM 17 (by decide)]
    by_cases hkj : k = j
    · subst hkj
      rw [u2_same]
      refine Or.inl ⟨rfl, ?_, ?_⟩
      · rcases hq with ⟨rfl, hq⟩ | ⟨rfl, hq⟩
        · rw [u2_same]
        · rw [u2_ne (by decide)]; exact hq
      · rcases hq with ⟨rfl, hq⟩ | ⟨rfl, hq⟩
        · rw [u2_ne (by decide)]; exact hq
        · rw [u2_same]
    · have hne : ¬ ρ k = ρ j := fun z => hkj (h2.2 k j (by omega) (by omega) z)
      rw [u2_oth hkj, u2_off hne, u2_off hne]
      exact h5 k hk
  · rw [eM 17 (by decide)] at hx ⊢
    rw [eM 24 (by decide), eP 4 (by decide) (by decide)]; exact h6 k hk hx
  · unfold relL
    rw [eM 30 (by decide)]; exact h8
  · rw [eM 37 (by decide)]; exact h9
theorem RJ.set45 (h : RJ I P M ρ R W K O Q y x) {v : Int32} : RJ I P (u2 M 45 0 v) ρ R W K O Q y x := ⟨h.1.upS (h.1.s.right rfl) (fun _ _ => rfl) (fun b hb => u2_ne (by omega)) (by rw [u2_ne (by decide)]), h.2.set45⟩
theorem lim_iff {l v : Int32} (h : 0 ≤ l) : (0 < l ∧ l ≤ v) ↔ ¬ (l = 0 ∨ v < l) := by
  constructor
  · rintro ⟨a, b⟩ (c | c)
    · rw [c] at a; exact absurd a (by decide)
    · exact absurd b (Int32.not_le.mpr c)
  · intro z
    refine ⟨Int32.lt_of_le_of_ne h (fun e => z (Or.inl e.symm)), Int32.not_lt.mp (fun e => z (Or.inr e))⟩
theorem c57s {n : Int32} {k : Nat} (h : RJ I P M ρ R W (R + 32) O Q (-1) (-1)) (hk : k < R) (hn : M 17 k = n) (hd : 5 ≤ d) : ∃ I' P' ρ' R' W', RJ I' P' (mLate1 n M) ρ' R' W' (R' + 32) O Q (-1) (-1) ∧ P' 12 = P 12 ∧ kp M ρ R (mLate1 n M) ρ' R' ∧ (∀ a1 a2, jl gw X d 57 19 [some (.ref 1), a1, some (.int a2), some (.ref (7 + ρ k))] [] (he I P N) = jl gw X d 57 7 [some (.ref 1), a1, some (.int (a2 + 1)), some (.ref (7 + ρ k))] [] (he I' P' N)) := by
  have h30 := h.2.h30
  have h0 := (h.2.n.1 k hk).1
  obtain ⟨g1, m, b1, b2, b3, b4, b5, b6, b7, b8, b9, b10, -⟩ := h.row hk
  have e48 : I 48 (ρ k) = M 25 k := (h.1.p k hk).2.2.2.2 (p_m1 h0)
  have e3 : I 3 = M 37 := h.1.s 3 (by decide)
  have hm := h.1.m
  rcases h.2.late_cases n with ⟨z1, z2⟩ | ⟨i, i1, i2, hcase⟩
  · exact absurd hn (z1 k hk)
  · have hik := h.2.n.inj i1 hk (i2.trans hn.symm)
    subst hik
    rcases hcase with ⟨i3, i4⟩ | ⟨i3, i4, i5⟩ | ⟨i3, i4, j, j1, j2, j3, hcase⟩
    · rw [i4]
      refine ⟨I, P, ρ, R, W, h.set45, rfl, kp.same (u2_ne (by decide)), fun a1 a2 => ?_⟩
      simp (disch := first | decide | omega | assumption | (simp (disch := decide) only [u2_ne, u2_same, mQueue]; assumption)) only [kV_some, kI_some, kR_some, kR_any, kH_some, kC_none, kC_some, jv_rsv_ref, jv_rsv_rf, jv_nz_ref, jv_nz_null, jv_nz_rf0, jv_nz_rf1, jv_rq_r1, jv_rq_r0, n10, n11, n00, Nat.reduceEqDiff, Option.bind_some, Option.bind_none, jv_isr_ref, jv_isr_rf, jv_isr_null, va_rf_some, va_rf_none, jv_cat1_int, jv_cat1_ref, jv_cat1_rf, if_true, if_false, eq_self, Option.toList_some, Option.toList_none, List.cons_append, List.nil_append, Bool.and_self, Bool.and_true, i32_10, i32_01, i32_80, nI_div8, nI_mul4, nI_mul8, nI_mul32, nI_add, ↓reduceIte, u2_ne, u2_same, r57_0, r57_1, r57_4, r57_5, r57_6, r57_8, r57_9, r57_12, r57_13, r57_16, r57_17, r57_18, r57_19, r57_20, r57_23, r57_24, r57_27, r57_28, r57_29, r57_32, r57_33, r57_34, r57_37, r57_38, r57_39, r57_42, r57_45, r57_48, r57_49, r57_50, r57_53, r57_56, r57_57, r57_58, r57_60, r57_61, r57_64, r57_67, r57_70, gt_rq_5, b10, i3]
    · have hJ1 := h.2.late1 n
      obtain ⟨R', W', hJ, -⟩ := hJ1
      rw [i5] at hJ ⊢
      have hRe : R' = R := hJ.R_eq (by rw [u2_ne (by decide), u2_ne (by decide)]; exact h.2.hR) (by omega)
      have hWe : W' = W := hJ.W_eq (by rw [u2_ne (by decide), u2_ne (by decide)]; exact h.2.hW) (by have := h.2.ok.W; omega)
      subst hRe
      subst hWe
      have hl := c58 (X := X) (d := d) (I := u2 I 48 (ρ i) (M 25 i + 1)) (P := P) (N := N) (v := M 25 i + 1) (by omega)
      rw [u2_ne (show (3 : Nat) ≠ 48 by decide), e3, if_neg (fun z => (lim_iff hm).mp z i4)] at hl
      refine ⟨u2 I 48 (ρ i) (M 25 i + 1), P, ρ, R', W', ⟨h.set45.1.tick h30 hk, hJ⟩, rfl, kp.same (by rw [u2_ne (by decide), u2_ne (by decide)]), fun a1 a2 => ?_⟩
      simp (disch := first | decide | omega | assumption | (simp (disch := decide) only [u2_ne, u2_same, mQueue]; assumption)) only [kV_some, kI_some, kR_some, kR_any, kH_some, kC_none, kC_some, jv_rsv_ref, jv_rsv_rf, jv_nz_ref, jv_nz_null, jv_nz_rf0, jv_nz_rf1, jv_rq_r1, jv_rq_r0, n10, n11, n00, Nat.reduceEqDiff, Option.bind_some, Option.bind_none, jv_isr_ref, jv_isr_rf, jv_isr_null, va_rf_some, va_rf_none, jv_cat1_int, jv_cat1_ref, jv_cat1_rf, if_true, if_false, eq_self, Option.toList_some, Option.toList_none, List.cons_append, List.nil_append, Bool.and_self, Bool.and_true, i32_10, i32_01, i32_80, nI_div8, nI_mul4, nI_mul8, nI_mul32, nI_add, ↓reduceIte, u2_ne, u2_same, r57_0, r57_1, r57_4, r57_5, r57_6, r57_8, r57_9, r57_12, r57_13, r57_16, r57_17, r57_18, r57_19, r57_20, r57_23, r57_24, r57_27, r57_28, r57_29, r57_32, r57_33, r57_34, r57_37, r57_38, r57_39, r57_42, r57_45, r57_48, r57_49, r57_50, r57_53, r57_56, r57_57, r57_58, r57_60, r57_61, r57_64, r57_67, r57_70, gt_rq_5, b10, i3, gt_rq_13, e48, pt_rq_13, ic_1, hl]
    · have hX := h.2.lateX (n := n) hk i3 j1 j2
      have h48 := h.set45 (v := n) |>.1.tick (v := M 25 i + 1) h30 hk
      have hca : M 26 j = M 17 i := by
        rcases h.2.a.1 i hk (p_m1 h0) with ⟨-, q, q1, q2, q3⟩ | ⟨z, -⟩
        · have := h.2.n.inj j1 q1 (j2.symm.trans q2)
          subst this
          exact q3
        · exact absurd i3 z
      have hp3 : P 3 (ρ j) = none := by
        rcases h.1.c j j1 with ⟨z1, z2, z3⟩ | ⟨c, c1, c2, c3, c4⟩ | ⟨c, c1, c2, c3, c4⟩
        · exact z3
        · exact absurd (hca.symm.trans c2) (ng_ne (by omega) h0)
        · exact c4
      have hp4 : P 4 (ρ i) = some (7 + ρ j) := by
        rcases h.1.a i hk (p_m1 h0) with ⟨z1, z2⟩ | ⟨c, c1, c2, c3⟩
        · rw [j2] at z1; exact absurd z1 (p_m1 (h.2.n.1 j j1).1)
        · have := h.2.n.inj j1 c1 (j2.symm.trans c2)
          subst this
          exact c3
      have hρj : ρ j < 30 := (h.1.r.1 j (by omega)).2
      have hX2 := (h48.untell (j := j) (q := 2) h30 j1 (Or.inl ⟨rfl, hp3⟩)).but (x := M 17 i) (fun k hk => by rw [u2_ne (by decide), u2_ne (by decide), u2_ne (by decide)]; exact (h.2.n.1 k hk).1)
      have hRJ : RJ (u2 I 48 (ρ i) (M 25 i + 1)) (u2 P 2 (ρ j) none) (u2 (u2 (u2 M 45 0 n) 25 i (M 25 i + 1)) 26 j (-1)) ρ R W (R + 32) O Q (-1) (M 17 i) := ⟨hX2, hX⟩
      have hl := c58 (X := X) (d := d) (I := u2 I 48 (ρ i) (M 25 i + 1)) (P := P) (N := N) (v := M 25 i + 1) (by omega)
      rw [u2_ne (show (3 : Nat) ≠ 48 by decide), e3, if_pos ((lim_iff hm).mpr i4)] at hl
      have e23 : u2 (u2 (u2 M 45 0 n) 25 i (M 25 i + 1)) 26 j (-1) 23 = M 23 := by simp [u2_ne]
      have e17 : u2 (u2 (u2 M 45 0 n) 25 i (M 25 i + 1)) 26 j (-1) 17 = M 17 := by simp [u2_ne]
      have ec : mCatch (u2 (u2 (u2 M 45 0 n) 25 i (M 25 i + 1)) 26 j (-1)) i = mCatch M i := by unfold mCatch mMeth; simp [u2_ne]
      obtain ⟨d', rfl⟩ : ∃ q, d = q + 1 := ⟨d - 1, by omega⟩
      rcases hcase with ⟨hc, ee⟩ | ⟨hc, ee⟩
      · obtain ⟨I', P', k1, k2, k3⟩ := c38t (X := X) (d := d') (N := N) (v := 0) (code := 103) hRJ hk (by rw [e17]) (by rw [e23]; exact i3) (Or.inr (by decide)) (fun _ => by rw [ec]; exact hc) (by omega)
        have hgl : jv_F gw X (d' + 1) 59 [.ref 1, .ref (7 + ρ i)] (he (u2 I 48 (ρ i) (M 25 i + 1)) P N) = some (some (.int 1), he I' P' N) := by
          rw [e59 rfl]
          simp (disch := first | decide | omega | assumption | (simp (disch := decide) only [u2_ne, u2_same, mQueue]; assumption)) only [kV_some, kI_some, kR_some, kR_any, kH_some, kC_none, kC_some, jv_rsv_ref, jv_rsv_rf, jv_nz_ref, jv_nz_null, jv_nz_rf0, jv_nz_rf1, jv_rq_r1, jv_rq_r0, n10, n11, n00, Nat.reduceEqDiff, Option.bind_some, Option.bind_none, jv_isr_ref, jv_isr_rf, jv_isr_null, va_rf_some, va_rf_none, jv_cat1_int, jv_cat1_ref, jv_cat1_rf, if_true, if_false, eq_self, Option.toList_some, Option.toList_none, List.cons_append, List.nil_append, Bool.and_self, Bool.and_true, i32_10, i32_01, i32_80, nI_div8, nI_mul4, nI_mul8, nI_mul32, nI_add, ↓reduceIte, u2_ne, u2_same, r59_0, r59_1, r59_4, r59_7, r59_8, r59_11, r59_12, r59_15, r59_16, r59_17, r59_19, r59_20, r59_23, gt_rq_12, hp4, pt_rq_10n, ic_1, k1, or_true, true_or]
        rw [ee]
        refine ⟨I', P', ρ, R, W + 1, k2, by rw [k3 12 (by decide), u2_ne (by decide)], kp.same (by rw [mResume_at (by decide)]; exact e17), fun a1 a2 => ?_⟩
        simp (disch := first | decide | omega | assumption | (simp (disch := decide) only [u2_ne, u2_same, mQueue]; assumption)) only [kV_some, kI_some, kR_some, kR_any, kH_some, kC_none, kC_some, jv_rsv_ref, jv_rsv_rf, jv_nz_ref, jv_nz_null, jv_nz_rf0, jv_nz_rf1, jv_rq_r1, jv_rq_r0, n10, n11, n00, Nat.reduceEqDiff, Option.bind_some, Option.bind_none, jv_isr_ref, jv_isr_rf, jv_isr_null, va_rf_some, va_rf_none, jv_cat1_int, jv_cat1_ref, jv_cat1_rf, if_true, if_false, eq_self, Option.toList_some, Option.toList_none, List.cons_append, List.nil_append, Bool.and_self, Bool.and_true, i32_10, i32_01, i32_80, nI_div8, nI_mul4, nI_mul8, nI_mul32, nI_add, ↓reduceIte, u2_ne, u2_same, r57_0, r57_1, r57_4, r57_5, r57_6, r57_8, r57_9, r57_12, r57_13, r57_16, r57_17, r57_18, r57_19, r57_20, r57_23, r57_24, r57_27, r57_28, r57_29, r57_32, r57_33, r57_34, r57_37, r57_38, r57_39, r57_42, r57_45, r57_48, r57_49, r57_50, r57_53, r57_56, r57_57, r57_58, r57_60, r57_61, r57_64, r57_67, r57_70, gt_rq_5, b10, i3, gt_rq_13, e48, pt_rq_13, ic_1, hl, hgl]
      · obtain ⟨k1, k2⟩ := c38f (X := X) (d := d') (N := N) (v := 0) (code := 103) hRJ hk (by rw [e17]) (by decide) (by rw [ec]; exact hc) (by omega)
        have hgl : jv_F gw X (d' + 1) 59 [.ref 1, .ref (7 + ρ i)] (he (u2 I 48 (ρ i) (M 25 i + 1)) P N) = some (some (.int 0), he (u2 (u2 I 48 (ρ i) (M 25 i + 1)) 48 (ρ i) 0) (u2 (u2 P 2 (ρ j) none) 4 (ρ i) none) N) := by
          rw [e59 rfl]
          simp (disch := first | decide | omega | assumption | (simp (disch := decide) only [u2_ne, u2_same, mQueue]; assumption)) only [kV_some, kI_some, kR_some, kR_any, kH_some, kC_none, kC_some, jv_rsv_ref, jv_rsv_rf, jv_nz_ref, jv_nz_null, jv_nz_rf0, jv_nz_rf1, jv_rq_r1, jv_rq_r0, n10, n11, n00, Nat.reduceEqDiff, Option.bind_some, Option.bind_none, jv_isr_ref, jv_isr_rf, jv_isr_null, va_rf_some, va_rf_none, jv_cat1_int, jv_cat1_ref, jv_cat1_rf, if_true, if_false, eq_self, Option.toList_some, Option.toList_none, List.cons_append, List.nil_append, Bool.and_self, Bool.and_true, i32_10, i32_01, i32_80, nI_div8, nI_mul4, nI_mul8, nI_mul32, nI_add, ↓reduceIte, u2_ne, u2_same, r59_0, r59_1, r59_4, r59_7, r59_8, r59_11, r59_12, r59_15, r59_16, r59_17, r59_19, r59_20, r59_23, gt_rq_12, hp4, pt_rq_10n, ic_1, k1, or_true, true_or]
        obtain ⟨R0, rfl⟩ : ∃ q, R = q + 1 := ⟨R - 1, by omega⟩
        obtain ⟨I', P', ρ', R', W', t1, t2, t3, t4⟩ := c35 (X := X) (d := d' + 1) (N := N) (v := 0) (code := 103) (i := i) (M := u2 (u2 (u2 M 45 0 n) 25 i (M 25 i + 1)) 26 j (-1)) (R := R0) (W := W) (by rw [e23, if_neg (by rw [i3]; decide)]; exact k2) hk (Or.inl (by rw [e17])) (fun q hq => hX.noline hk (by rw [e23, i3]; decide) hq) (Or.inr (by decide)) hd
        rw [ee]
        refine ⟨I', P', ρ', R', W', t2, by rw [t3, u2_ne (by decide), u2_ne (by decide)], ?_, fun a1 a2 => ?_⟩
        · have k0 : kp M ρ (R0 + 1) (u2 (u2 (u2 M 45 0 n) 25 i (M 25 i + 1)) 26 j (-1)) ρ (R0 + 1) := kp.same e17
          exact k0.trans t4
        · simp (disch := first | decide | omega | assumption | (simp (disch := decide) only [u2_ne, u2_same, mQueue]; assumption)) only [kV_some, kI_some, kR_some, kR_any, kH_some, kC_none, kC_some, jv_rsv_ref, jv_rsv_rf, jv_nz_ref, jv_nz_null, jv_nz_rf0, jv_nz_rf1, jv_rq_r1, jv_rq_r0, n10, n11, n00, Nat.reduceEqDiff, Option.bind_some, Option.bind_none, jv_isr_ref, jv_isr_rf, jv_isr_null, va_rf_some, va_rf_none, jv_cat1_int, jv_cat1_ref, jv_cat1_rf, if_true, if_false, eq_self, Option.toList_some, Option.toList_none, List.cons_append, List.nil_append, Bool.and_self, Bool.and_true, i32_10, i32_01, i32_80, nI_div8, nI_mul4, nI_mul8, nI_mul32, nI_add, ↓reduceIte, u2_ne, u2_same, r57_0, r57_1, r57_4, r57_5, r57_6, r57_8, r57_9, r57_12, r57_13, r57_16, r57_17, r57_18, r57_19, r57_20, r57_23, r57_24, r57_27, r57_28, r57_29, r57_32, r57_33, r57_34, r57_37, r57_38, r57_39, r57_42, r57_45, r57_48, r57_49, r57_50, r57_53, r57_56, r57_57, r57_58, r57_60, r57_61, r57_64, r57_67, r57_70, gt_rq_5, b10, i3, gt_rq_13, e48, pt_rq_13, ic_1, hl, hgl, t1]
theorem c57l {M0 : Nat → Nat → Int32} {ρ0 : Nat → Nat} {R0 Q0 : Nat} {md : Int32} (hn : JN (M0 17) md R0 Q0) (hρ : ∀ j k, j < R0 → k < R0 → ρ0 j = ρ0 k → j = k) (hρ2 : ∀ k, k < R0 → ρ0 k < 30) (h30 : R0 ≤ 30) (hd : 5 ≤ d) : ∀ (r i : Nat) (M I : Nat → Nat → Int32) (P : Nat → Nat → Option Nat) (ρ : Nat → Nat) (R W : Nat), RJ I P M ρ R W (R + 32) O Q (-1) (-1) → kp M0 ρ0 R0 M ρ R → (∀ k, k < R0 → P 12 k = some (7 + ρ0 k)) → i + r = R0 → ∃ I' P' ρ' R' W', (∀ a3, jl gw X d 57 7 [some (.ref 1), some (.int (nI R0)), some (.int (nI i)), a3] [] (he I P N) = some (none, he I' P' N)) ∧ RJ I' P' (mLateL (nl M0 r i) M) ρ' R' W' (R' + 32) O Q (-1) (-1) := by
  intro r
  induction r with
  | zero =>
    intro i M I P ρ R W h hk hp hi
    have hi : i = R0 := by omega
    subst hi
    refine ⟨I, P, ρ, R, W, fun a4 => ?_, h⟩
    rw [r57_7]
    simp (disch := first | decide | omega | assumption | (simp (disch := decide) only [u2_ne, u2_same, mQueue]; assumption)) only [kV_some, kI_some, kR_some, kR_any, kH_some, kC_none, kC_some, jv_rsv_ref, jv_rsv_rf, jv_nz_ref, jv_nz_null, jv_nz_rf0, jv_nz_rf1, jv_rq_r1, jv_rq_r0, n10, n11, n00, Nat.reduceEqDiff, Option.bind_some, Option.bind_none, jv_isr_ref, jv_isr_rf, jv_isr_null, va_rf_some, va_rf_none, jv_cat1_int, jv_cat1_ref, jv_cat1_rf, if_true, if_false, eq_self, Option.toList_some, Option.toList_none, List.cons_append, List.nil_append, Bool.and_self, Bool.and_true, i32_10, i32_01, i32_80, nI_div8, nI_mul4, nI_mul8, nI_mul32, nI_add, ↓reduceIte, u2_ne, u2_same, r57_0, r57_1, r57_4, r57_5, r57_6, r57_8, r57_9, r57_12, r57_13, r57_16, r57_17, r57_18, r57_19, r57_20, r57_23, r57_24, r57_27, r57_28, r57_29, r57_32, r57_33, r57_34, r57_37, r57_38, r57_39, r57_42, r57_45, r57_48, r57_49, r57_50, r57_53, r57_56, r57_57, r57_58, r57_60, r57_61, r57_64, r57_67, r57_70, Int32.le_refl]
  | succ r ih =>
    intro i M I P ρ R W h hk hp hi
    have h1 : ¬ nI R0 ≤ nI i := nI_ge (by omega) (by omega)
    have p1 := hp i (by omega)
    have q1 := hρ2 i (by omega)
    rw [nl, mLateL]
    rcases h.live hk hn hρ (show i < R0 by omega) q1 with ⟨k, k1, k2, k3⟩ | ⟨k2, k3⟩
    · obtain ⟨I1, P1, ρ1, R1, W1, e2, e3, e4, e5⟩ := c57s (X := X) (d := d) (N := N) h k1 k3 hd
      obtain ⟨I', P', ρ', R', W', t1, t2⟩ := ih (i + 1) _ I1 P1 ρ1 R1 W1 e2 (hk.trans e4) (fun q hq => by rw [e3]; exact hp q hq) (by omega)
      refine ⟨I', P', ρ', R', W', fun a3 => ?_, t2⟩
      rw [k2] at e5
      rw [← t1 (some (.ref (7 + ρ0 i))), ← nI_1, ← e5 (some (.int (nI R0))) (nI i), r57_7]
      simp (disch := first | decide | omega | assumption | (simp (disch := decide) only [u2_ne, u2_same, mQueue]; assumption)) only [kV_some, kI_some, kR_some, kR_any, kH_some, kC_none, kC_some, jv_rsv_ref, jv_rsv_rf, jv_nz_ref, jv_nz_null, jv_nz_rf0, jv_nz_rf1, jv_rq_r1, jv_rq_r0, n10, n11, n00, Nat.reduceEqDiff, Option.bind_some, Option.bind_none, jv_isr_ref, jv_isr_rf, jv_isr_null, va_rf_some, va_rf_none, jv_cat1_int, jv_cat1_ref, jv_cat1_rf, if_true, if_false, eq_self, Option.toList_some, Option.toList_none, List.cons_append, List.nil_append, Bool.and_self, Bool.and_true, i32_10, i32_01, i32_80, nI_div8, nI_mul4, nI_mul8, nI_mul32, nI_add, ↓reduceIte, u2_ne, u2_same, r57_0, r57_1, r57_4, r57_5, r57_6, r57_8, r57_9, r57_12, r57_13, r57_16, r57_17, r57_18, r57_20, r57_23, r57_24, r57_27, r57_28, r57_29, r57_32, r57_33, r57_34, r57_37, r57_38, r57_39, r57_42, r57_45, r57_48, r57_49, r57_50, r57_53, r57_56, r57_57, r57_58, r57_60, r57_61, r57_64, r57_67, r57_70, h1, gt_1_6, rl_40, p1]
    · have hcons : mLate1 (M0 17 i) M = M := by
        rcases h.2.late_cases (M0 17 i) with ⟨z1, z2⟩ | ⟨j, j1, j2, -⟩
        · exact z2
        · exact absurd j2 (k3 j j1)
      rw [hcons]
      obtain ⟨I', P', ρ', R', W', t1, t2⟩ := ih (i + 1) M I P ρ R W h hk hp (by omega)
      refine ⟨I', P', ρ', R', W', fun a3 => ?_, t2⟩
      have n3 : ¬ (3 : Int32) = 2 := by decide
      rw [r57_7]
      simp (disch := first | decide | omega | assumption | (simp (disch := decide) only [u2_ne, u2_same, mQueue]; assumption)) only [kV_some, kI_some, kR_some, kR_any, kH_some, kC_none, kC_some, jv_rsv_ref, jv_rsv_rf, jv_nz_ref, jv_nz_null, jv_nz_rf0, jv_nz_rf1, jv_rq_r1, jv_rq_r0, n10, n11, n00, Nat.reduceEqDiff, Option.bind_some, Option.bind_none, jv_isr_ref, jv_isr_rf, jv_isr_null, va_rf_some, va_rf_none, jv_cat1_int, jv_cat1_ref, jv_cat1_rf, if_true, if_false, eq_self, Option.toList_some, Option.toList_none, List.cons_append, List.nil_append, Bool.and_self, Bool.and_true, i32_10, i32_01, i32_80, nI_div8, nI_mul4, nI_mul8, nI_mul32, nI_add, ↓reduceIte, u2_ne, u2_same, r57_0, r57_1, r57_4, r57_5, r57_6, r57_8, r57_9, r57_12, r57_13, r57_16, r57_17, r57_18, r57_19, r57_20, r57_23, r57_24, r57_27, r57_28, r57_29, r57_32, r57_33, r57_34, r57_37, r57_38, r57_39, r57_42, r57_45, r57_48, r57_49, r57_50, r57_53, r57_56, r57_57, r57_58, r57_60, r57_61, r57_64, r57_67, r57_70, h1, gt_1_6, rl_40, p1, gt_rq_5, k2, n3, nI_1]
      exact t1 _
theorem c57 (h : RJ I P M ρ R W (R + 32) O Q (-1) (-1)) (hd : 6 ≤ d) : ∃ I' P' ρ' R' W', jv_F gw X d 57 [.ref 1] (he I P N) = some (none, he I' P' N) ∧ RJ I' P' (mLateL (nus M R) M) ρ' R' W' (R' + 32) O Q (-1) (-1) := by
  obtain ⟨d, rfl⟩ : ∃ q, d = q + 1 := ⟨d - 1, by omega⟩
  obtain ⟨P1, e1, e2, e3, e4⟩ := c34 (X := X) (d := d) (N := N) h (by omega)
  have h30 := h.2.h30
  obtain ⟨I', P', ρ', R', W', t1, t2⟩ := c57l (X := X) (d := d) (N := N) h.2.n (fun j k hj hk => h.1.r.2 j k (by omega) (by omega)) (fun k hk => (h.1.r.1 k (by omega)).2) h30 (by omega) R 0 M I P1 ρ R W e2 kp.refl e4 (by omega)
  rw [nus_nl]
  refine ⟨I', P', ρ', R', W', ?_, t2⟩
  rw [e57]
  simp (disch := first | decide | omega | assumption | (simp (disch := decide) only [u2_ne, u2_same, mQueue]; assumption)) only [kV_some, kI_some, kR_some, kR_any, kH_some, kC_none, kC_some, jv_rsv_ref, jv_rsv_rf, jv_nz_ref, jv_nz_null, jv_nz_rf0, jv_nz_rf1, jv_rq_r1, jv_rq_r0, n10, n11, n00, Nat.reduceEqDiff, Option.bind_some, Option.bind_none, jv_isr_ref, jv_isr_rf, jv_isr_null, va_rf_some, va_rf_none, jv_cat1_int, jv_cat1_ref, jv_cat1_rf, if_true, if_false, eq_self, Option.toList_some, Option.toList_none, List.cons_append, List.nil_append, Bool.and_self, Bool.and_true, i32_10, i32_01, i32_80, nI_div8, nI_mul4, nI_mul8, nI_mul32, nI_add, ↓reduceIte, u2_ne, u2_same, r57_0, r57_1, r57_4, r57_5, r57_6, r57_8, r57_9, r57_12, r57_13, r57_16, r57_17, r57_18, r57_19, r57_20, r57_23, r57_24, r57_27, r57_28, r57_29, r57_32, r57_33, r57_34, r57_37, r57_38, r57_39, r57_42, r57_45, r57_48, r57_49, r57_50, r57_53, r57_56, r57_57, r57_58, r57_60, r57_61, r57_64, r57_67, r57_70, ic_1, e1]
  exact t1 none
end CL
