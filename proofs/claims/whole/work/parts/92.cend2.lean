/-! ===== the class: end, with its callers; whole ===== -/
section CL
variable {X : Nat × (Nat → Int32)} {d : Nat} {I : Nat → Nat → Int32} {P : Nat → Nat → Option Nat} {M N : Nat → Nat → Int32} {ρ : Nat → Nat} {R W K O Q : Nat} {y x : Int32}
theorem Rel.p11 {P2 : Nat → Nat → Option Nat} (h : Rel I P M ρ R W x) (e : ∀ f, f ≠ 11 → f ≠ 12 → P2 f = P f) : Rel I P2 M ρ R W x := by
  obtain ⟨s1, s2, s3, s4, s5, s6, s7, s8, s9⟩ := h
  exact ⟨s1, ⟨fun k hk => by rw [e 10 (by decide) (by decide)]; exact s2.1 k hk, s2.2⟩, s3, fun k hk => by rw [e 0 (by decide) (by decide), e 1 (by decide) (by decide)]; exact s4 k hk, fun k hk => by rw [e 2 (by decide) (by decide), e 3 (by decide) (by decide)]; exact s5 k hk, fun k hk => by rw [e 4 (by decide) (by decide)]; exact s6 k hk, s7, s8, s9⟩
theorem rP_off {i q g t : Nat} {v : Option Nat} (f : Nat) (hf : f ≠ 11) : rP (u2 P 11 t v) i R q f = rP P i R q f := by
  by_cases h10 : f = 10
  · subst h10
    unfold rP
    rw [u2_eq, u2_eq]
    congr 1
  · rw [rP_ne h10, rP_ne h10, u2_ne hf]
theorem RJ.cut1 {i t g : Nat} {v code : Int32} (h : RJ I P M ρ (R + 1) W (R + 32 + (if M 23 i = 1 then 0 else 1)) O Q y x) (hi : i < R + 1) (hx : M 17 i = x ∨ (¬ M 23 i = 2 ∧ x = -1)) (hl : ∀ k, k < W → ¬ M 30 k = M 17 i) (hb : 0 ≤ M 26 i) : RJ (rI I (ρ i) R) (rP (u2 P 11 t (some (113 + g))) i R (ρ i)) (mOne M (R + 1) t i v code) (rρ ρ i R) R W (R + 32) O Q (-1) (M 26 i) := by
  have h30 := h.2.h30
  have hone := J.one (K := R + 32) (v := v) (code := code) (t := t) h.2 hi (by omega) hx hl
  have hcut := h.cut (t := t) hi hx
  have hnx : nx (M 26 i) = M 26 i := by unfold nx; rw [if_pos hb]
  rw [hnx] at hone hcut
  refine ⟨?_, hone⟩
  unfold mOne
  rw [mTell_no (fun z => absurd (Int32.le_trans hb z) (by decide))]
  exact hcut.p11 (fun f hf _ => rP_off (g := g) f hf)
theorem c35B {i j t : Nat} {v code : Int32} (h : RJ I P M ρ (R + 1) W (R + 32 + (if M 23 i = 1 then 0 else 1)) O Q y x) (hi : i < R + 1) (ht : t < 30) (hx : M 17 i = x ∨ (¬ M 23 i = 2 ∧ x = -1)) (hl : ∀ k, k < W → ¬ M 30 k = M 17 i) (h0 : code = 0 ∨ 0 < code) (hb : 0 ≤ M 26 i) (hj : j < R) (hj4 : mOne M (R + 1) t i v code 17 j = M 26 i) (hj6 : mOne M (R + 1) t i v code 23 j = 2) (hc : 0 < code → mCatch (mOne M (R + 1) t i v code) j = 1) (hd : 3 ≤ d) : ∃ I' P' g, (∀ a1 a6, jl gw X d 35 6 [some (.ref 1), a1, some (.int code), some (.int v), some (.int (nI t)), some (.ref (7 + ρ i)), a6] [] (he I P N) = jl gw X d 35 6 [some (.ref 1), a1, some (.int code), some (.int v), some (.int (nI (t + 1))), some .null, a6] [] (he I' P' N)) ∧ RJ I' P' (mResume (mOne M (R + 1) t i v code) j v code) (rρ ρ i R) R (W + 1) (R + 32) O Q (-1) (-1) ∧ M 18 i = nI g ∧ g < 32 ∧ P' 11 = va_up (P 11) t (some (113 + g)) ∧ P' 12 = P 12 := by
  have h30 := h.2.h30
  obtain ⟨d', rfl⟩ : ∃ q, d = q + 1 := ⟨d - 1, by omega⟩
  obtain ⟨g, m, q1, q2, q3, q4, hρ, q6, q7, q8, q9, q10, q11, -⟩ := h.row hi
  have hsz := h.size
  have hr2 : relR (u2 P 11 t (some (113 + g))) ρ := ⟨fun k hk => by rw [u2_ne (by decide)]; exact h.1.r.1 k hk, h.1.r.2⟩
  have hrem := c36 (X := X) (d := d' + 1) (I := I) (N := N) hr2 hsz h30 hi (by omega)
  have h1 : ¬ (30 : Int32) ≤ nI t := nI_ge (b := 30) ht (by decide)
  have hc1 := h.cut1 (t := t) (g := g) (v := v) (code := code) hi hx hl hb
  obtain ⟨I', P', k1, k2, k3⟩ := c38t (X := X) (d := d') (N := N) (v := v) hc1 hj hj4 hj6 h0 hc (by omega)
  refine ⟨I', P', g, fun a1 a6 => ?_, k2, q3, q1, ?_, ?_⟩
  · have hz2 : rP (u2 P 11 t (some (113 + g))) i R (ρ i) 2 (ρ i) = some (7 + rρ ρ i R j) := by
      rw [rP_ne (by decide), u2_ne (by decide)]
      rcases h.1.c i hi with ⟨z1, z2, z3⟩ | ⟨c, c1, c2, c3, c4⟩ | ⟨c, c1, c2, c3, c4⟩
      · rw [z1] at hb; exact absurd hb (by decide)
      · rw [c2] at hb; exact absurd hb (Int32.not_le.mpr (ng_lt (by omega)))
      · rw [mOne_cut (by omega), cut_sg hj] at hj4
        have := h.2.n.inj c1 (sg_lt hj) (c2.symm.trans hj4.symm)
        rw [rρ_sg hj, ← this]
        exact c3
    have hrj : rρ ρ i R j < 30 := (hc1.1.r.1 j (by omega)).2
    have htc : jv_F gw X (d' + 1) 37 [.ref 1, .ref (7 + ρ i), .int code, .int v] (he (rI I (ρ i) R) (rP (u2 P 11 t (some (113 + g))) i R (ρ i)) N) = some (some .null, he I' P' N) := by
      rw [e37 rfl]
      simp (disch := first | decide | omega | assumption | (simp (disch := decide) only [u2_ne, u2_same, mQueue]; assumption)) only [kV_some, kI_some, kR_some, kR_any, kH_some, kC_none, kC_some, jv_rsv_ref, jv_rsv_rf, jv_nz_ref, jv_nz_null, jv_nz_rf0, jv_nz_rf1, jv_rq_r1, jv_rq_r0, n10, n11, n00, Nat.reduceEqDiff, Option.bind_some, Option.bind_none, jv_isr_ref, jv_isr_rf, jv_isr_null, va_rf_some, va_rf_none, jv_cat1_int, jv_cat1_ref, jv_cat1_rf, if_true, if_false, eq_self, Option.toList_some, Option.toList_none, List.cons_append, List.nil_append, Bool.and_self, Bool.and_true, i32_10, i32_01, i32_80, nI_div8, nI_mul4, nI_mul8, nI_mul32, nI_add, ↓reduceIte, u2_ne, u2_same, r37_0, r37_1, r37_4, r37_6, r37_8, r37_11, r37_12, r37_14, r37_15, r37_16, r37_19, r37_22, r37_23, r37_26, r37_28, r37_29, r37_30, r37_33, r37_36, r37_37, r37_40, r37_41, r37_42, r37_45, r37_46, gt_rq_10, hz2, ic_1, k1]
    rw [r35_6]
    simp (disch := first | decide | omega | assumption | (simp (disch := decide) only [u2_ne, u2_same, mQueue]; assumption)) only [kV_some, kI_some, kR_some, kR_any, kH_some, kC_none, kC_some, jv_rsv_ref, jv_rsv_rf, jv_nz_ref, jv_nz_null, jv_nz_rf0, jv_nz_rf1, jv_rq_r1, jv_rq_r0, n10, n11, n00, Nat.reduceEqDiff, Option.bind_some, Option.bind_none, jv_isr_ref, jv_isr_rf, jv_isr_null, va_rf_some, va_rf_none, jv_cat1_int, jv_cat1_ref, jv_cat1_rf, if_true, if_false, eq_self, Option.toList_some, Option.toList_none, List.cons_append, List.nil_append, Bool.and_self, Bool.and_true, i32_10, i32_01, i32_80, nI_div8, nI_mul4, nI_mul8, nI_mul32, nI_add, ↓reduceIte, u2_ne, u2_same, r35_0, r35_1, r35_3, r35_4, r35_8, r35_11, r35_13, r35_15, r35_18, r35_19, r35_22, r35_24, r35_26, r35_29, r35_30, r35_33, r35_34, r35_37, r35_39, r35_42, r35_43, r35_45, r35_46, r35_47, r35_50, r35_52, r35_55, r35_57, r35_58, r35_59, r35_63, r35_66, r35_67, r35_68, r35_71, r35_73, r35_74, r35_77, r35_80, r35_83, h1, gt_1_5, gt_rq_1, q7, wl_39g, gt_1_3, ic_5, hrem, ic_1, htc, nI_1]
  · rw [k3 11 (by decide), rP_11, u2_eq]
  · rw [k3 12 (by decide), rP_ne (by decide), u2_ne (by decide)]
theorem c35C {i j t : Nat} {v code : Int32} (h : RJ I P M ρ (R + 1) W (R + 32 + (if M 23 i = 1 then 0 else 1)) O Q y x) (hi : i < R + 1) (ht : t < 30) (hx : M 17 i = x ∨ (¬ M 23 i = 2 ∧ x = -1)) (hl : ∀ k, k < W → ¬ M 30 k = M 17 i) (h0 : 0 < code) (hb : 0 ≤ M 26 i) (hj : j < R) (hj4 : mOne M (R + 1) t i v code 17 j = M 26 i) (hj6 : mOne M (R + 1) t i v code 23 j = 2) (hc : mCatch (mOne M (R + 1) t i v code) j = 0) (hd : 3 ≤ d) : ∃ I' P' g, (∀ a1 a6, jl gw X d 35 6 [some (.ref 1), a1, some (.int code), some (.int v), some (.int (nI t)), some (.ref (7 + ρ i)), a6] [] (he I P N) = jl gw X d 35 6 [some (.ref 1), a1, some (.int code), some (.int v), some (.int (nI (t + 1))), some (.ref (7 + rρ ρ i R j)), a6] [] (he I' P' N)) ∧ RJ I' P' (mOne M (R + 1) t i v code) (rρ ρ i R) R W (R + 32) O Q (-1) (M 26 i) ∧ M 18 i = nI g ∧ g < 32 ∧ P' 11 = va_up (P 11) t (some (113 + g)) ∧ P' 12 = P 12 := by
  have h30 := h.2.h30
  obtain ⟨d', rfl⟩ : ∃ q, d = q + 1 := ⟨d - 1, by omega⟩
  obtain ⟨g, m, q1, q2, q3, q4, hρ, q6, q7, q8, q9, q10, q11, -⟩ := h.row hi
  have hsz := h.size
  have hr2 : relR (u2 P 11 t (some (113 + g))) ρ := ⟨fun k hk => by rw [u2_ne (by decide)]; exact h.1.r.1 k hk, h.1.r.2⟩
  have hrem := c36 (X := X) (d := d' + 1) (I := I) (N := N) hr2 hsz h30 hi (by omega)
  have h1 : ¬ (30 : Int32) ≤ nI t := nI_ge (b := 30) ht (by decide)
  have hc1 := h.cut1 (t := t) (g := g) (v := v) (code := code) hi hx hl hb
  obtain ⟨k1, k2⟩ := c38f (X := X) (d := d') (N := N) (v := v) hc1 hj hj4 h0 hc (by omega)
  refine ⟨_, _, g, fun a1 a6 => ?_, k2, q3, q1, ?_, ?_⟩
  · have hz2 : rP (u2 P 11 t (some (113 + g))) i R (ρ i) 2 (ρ i) = some (7 + rρ ρ i R j) := by
      rw [rP_ne (by decide), u2_ne (by decide)]
      rcases h.1.c i hi with ⟨z1, z2, z3⟩ | ⟨c, c1, c2, c3, c4⟩ | ⟨c, c1, c2, c3, c4⟩
      · rw [z1] at hb; exact absurd hb (by decide)
      · rw [c2] at hb; exact absurd hb (Int32.not_le.mpr (ng_lt (by omega)))
      · rw [mOne_cut (by omega), cut_sg hj] at hj4
        have := h.2.n.inj c1 (sg_lt hj) (c2.symm.trans hj4.symm)
        rw [rρ_sg hj, ← this]
        exact c3
    have hrj : rρ ρ i R j < 30 := (hc1.1.r.1 j (by omega)).2
    have htc : jv_F gw X (d' + 1) 37 [.ref 1, .ref (7 + ρ i), .int code, .int v] (he (rI I (ρ i) R) (rP (u2 P 11 t (some (113 + g))) i R (ρ i)) N) = some (some (.ref (7 + rρ ρ i R j)), he (u2 (rI I (ρ i) R) 48 (rρ ρ i R j) 0) (u2 (rP (u2 P 11 t (some (113 + g))) i R (ρ i)) 4 (rρ ρ i R j) none) N) := by
      rw [e37 rfl]
      simp (disch := first | decide | omega | assumption | (simp (disch := decide) only [u2_ne, u2_same, mQueue]; assumption)) only [kV_some, kI_some, kR_some, kR_any, kH_some, kC_none, kC_some, jv_rsv_ref, jv_rsv_rf, jv_nz_ref, jv_nz_null, jv_nz_rf0, jv_nz_rf1, jv_rq_r1, jv_rq_r0, n10, n11, n00, Nat.reduceEqDiff, Option.bind_some, Option.bind_none, jv_isr_ref, jv_isr_rf, jv_isr_null, va_rf_some, va_rf_none, jv_cat1_int, jv_cat1_ref, jv_cat1_rf, if_true, if_false, eq_self, Option.toList_some, Option.toList_none, List.cons_append, List.nil_append, Bool.and_self, Bool.and_true, i32_10, i32_01, i32_80, nI_div8, nI_mul4, nI_mul8, nI_mul32, nI_add, ↓reduceIte, u2_ne, u2_same, r37_0, r37_1, r37_4, r37_6, r37_8, r37_11, r37_12, r37_14, r37_15, r37_16, r37_19, r37_22, r37_23, r37_26, r37_28, r37_29, r37_30, r37_33, r37_36, r37_37, r37_40, r37_41, r37_42, r37_45, r37_46, gt_rq_10, hz2, ic_1, k1]
    rw [r35_6]
    simp (disch := first | decide | omega | assumption | (simp (disch := decide) only [u2_ne, u2_same, mQueue]; assumption)) only [kV_some, kI_some, kR_some, kR_any, kH_some, kC_none, kC_some, jv_rsv_ref, jv_rsv_rf, jv_nz_ref, jv_nz_null, jv_nz_rf0, jv_nz_rf1, jv_rq_r1, jv_rq_r0, n10, n11, n00, Nat.reduceEqDiff, Option.bind_some, Option.bind_none, jv_isr_ref, jv_isr_rf, jv_isr_null, va_rf_some, va_rf_none, jv_cat1_int, jv_cat1_ref, jv_cat1_rf, if_true, if_false, eq_self, Option.toList_some, Option.toList_none, List.cons_append, List.nil_append, Bool.and_self, Bool.and_true, i32_10, i32_01, i32_80, nI_div8, nI_mul4, nI_mul8, nI_mul32, nI_add, ↓reduceIte, u2_ne, u2_same, r35_0, r35_1, r35_3, r35_4, r35_8, r35_11, r35_13, r35_15, r35_18, r35_19, r35_22, r35_24, r35_26, r35_29, r35_30, r35_33, r35_34, r35_37, r35_39, r35_42, r35_43, r35_45, r35_46, r35_47, r35_50, r35_52, r35_55, r35_57, r35_58, r35_59, r35_63, r35_66, r35_67, r35_68, r35_71, r35_73, r35_74, r35_77, r35_80, r35_83, h1, gt_1_5, gt_rq_1, q7, wl_39g, gt_1_3, ic_5, hrem, ic_1, htc, nI_1]
  · rw [u2_ne (by decide), rP_11, u2_eq]
  · rw [u2_ne (by decide), rP_ne (by decide), u2_ne (by decide)]
/-- whoever is there was there, as the same object -/
def kp (M : Nat → Nat → Int32) (ρ : Nat → Nat) (R : Nat) (M2 : Nat → Nat → Int32) (ρ2 : Nat → Nat) (R2 : Nat) : Prop := ∀ k, k < R2 → ∃ j, j < R ∧ ρ2 k = ρ j ∧ M2 17 k = M 17 j
theorem kp.refl : kp M ρ R M ρ R := fun k hk => ⟨k, hk, rfl, rfl⟩
theorem kp.trans {M2 M3 : Nat → Nat → Int32} {ρ2 ρ3 : Nat → Nat} {R2 R3 : Nat} (a : kp M ρ R M2 ρ2 R2) (b : kp M2 ρ2 R2 M3 ρ3 R3) : kp M ρ R M3 ρ3 R3 := by
  intro k hk
  obtain ⟨j, j1, j2, j3⟩ := b k hk
  obtain ⟨q, q1, q2, q3⟩ := a j j1
  exact ⟨q, q1, j2.trans q2, j3.trans q3⟩
theorem kp.same {M2 : Nat → Nat → Int32} (e : M2 17 = M 17) : kp M ρ R M2 ρ R := fun k hk => ⟨k, hk, rfl, by rw [e]⟩
theorem kp.one {i t : Nat} {v code : Int32} : kp M ρ (R + 1) (mOne M (R + 1) t i v code) (rρ ρ i R) R := fun k hk => ⟨sg i k, sg_lt hk, rρ_sg hk, by rw [mOne_cut (by omega), cut_sg hk]⟩
def okT (P : Nat → Nat → Option Nat) (M : Nat → Nat → Int32) (t : Nat) : Prop := M 44 0 = nI t ∧ ∀ k, k < t → ∃ g : Nat, g < 32 ∧ P 11 k = some (113 + g) ∧ M 43 k = nI g
theorem okT.one {P2 : Nat → Nat → Option Nat} {t i g : Nat} {v code : Int32} (h : okT P M t) (hg : g < 32) (e : P2 11 = va_up (P 11) t (some (113 + g))) (e2 : M 18 i = nI g) : okT P2 (mOne M (R + 1) t i v code) (t + 1) := by
  refine ⟨mOne_44, fun k hk => ?_⟩
  rw [mOne_43, e]
  by_cases hkt : k = t
  · exact ⟨g, hg, by simp [va_up, hkt], by rw [if_pos hkt]; exact e2⟩
  · obtain ⟨g2, a, b, c⟩ := h.2 k (by omega)
    exact ⟨g2, a, by simp [va_up, hkt]; exact b, by rw [if_neg hkt]; exact c⟩
theorem c35L {v code : Int32} (h0 : code = 0 ∨ 0 < code) (hd : 3 ≤ d) : ∀ (R : Nat) (M I : Nat → Nat → Int32) (P : Nat → Nat → Option Nat) (ρ : Nat → Nat) (W i t : Nat) (y x : Int32), RJ I P M ρ (R + 1) W (R + 32 + (if M 23 i = 1 then 0 else 1)) O Q y x → i < R + 1 → okT P M t → t + R < 30 → (M 17 i = x ∨ (¬ M 23 i = 2 ∧ x = -1)) → (∀ k, k < W → ¬ M 30 k = M 17 i) → ∃ I' P' ρ' R' W' t', (∀ a1 a6, jl gw X d 35 6 [some (.ref 1), a1, some (.int code), some (.int v), some (.int (nI t)), some (.ref (7 + ρ i)), a6] [] (he I P N) = jl gw X d 35 6 [some (.ref 1), a1, some (.int code), some (.int v), some (.int (nI t')), some .null, a6] [] (he I' P' N)) ∧ RJ I' P' (mOverL v code (R + 1) M i t) ρ' R' W' (R' + 32) O Q (-1) (-1) ∧ okT P' (mOverL v code (R + 1) M i t) t' ∧ t' ≤ 30 ∧ P' 12 = P 12 ∧ kp M ρ (R + 1) (mOverL v code (R + 1) M i t) ρ' R' := by
  intro R
  induction R with
  | zero =>
    intro M I P ρ W i t y x h hi hb ht hx hl
    rcases h.2.caller (t := t) (v := v) (code := code) hi hx with z | ⟨j, j1, -⟩
    · have hz : ¬ (0 ≤ mWho (mOne M (0 + 1) t i v code) (M 26 i) 0 ∧ mOne M (0 + 1) t i v code 23 (nn (mWho (mOne M (0 + 1) t i v code) (M 26 i) 0)) = 2 ∧ mOne M (0 + 1) t i v code 24 (nn (mWho (mOne M (0 + 1) t i v code) (M 26 i) 0)) = M 17 i) := by
        intro q
        have : mWho (mOne M (0 + 1) t i v code) (M 26 i) 0 = -1 := by unfold mWho; rw [if_neg (Int32.not_le.mpr z.1)]
        rw [this] at q
        exact absurd q.1 (by decide)
      obtain ⟨I', P', g, k1, k2, k3, k4, k5, k6⟩ := c35A (X := X) (d := d) (N := N) (t := t) (v := v) (code := code) h hi (by omega) hx hl h0 z.1 hd
      refine ⟨I', P', rρ ρ i 0, 0, W, t + 1, k1, ?_, ?_, by omega, k6, ?_⟩
      · rw [mOverL, if_neg hz]; exact k2
      · rw [mOverL, if_neg hz]; exact hb.one k4 k5 k3
      · rw [mOverL, if_neg hz]; exact kp.one
    · omega
  | succ R ih =>
    intro M I P ρ W i t y x h hi hb ht hx hl
    have h30 := h.2.h30
    rcases h.2.caller (t := t) (v := v) (code := code) hi hx with z | ⟨j, j1, j2, j3, j4, j5, j6, j7⟩
    · have hz : ¬ (0 ≤ mWho (mOne M (R + 1 + 1) t i v code) (M 26 i) (R + 1) ∧ mOne M (R + 1 + 1) t i v code 23 (nn (mWho (mOne M (R + 1 + 1) t i v code) (M 26 i) (R + 1))) = 2 ∧ mOne M (R + 1 + 1) t i v code 24 (nn (mWho (mOne M (R + 1 + 1) t i v code) (M 26 i) (R + 1))) = M 17 i) := by
        intro q
        have : mWho (mOne M (R + 1 + 1) t i v code) (M 26 i) (R + 1) = -1 := by unfold mWho; rw [if_neg (Int32.not_le.mpr z.1)]
        rw [this] at q
        exact absurd q.1 (by decide)
      obtain ⟨I', P', g, k1, k2, k3, k4, k5, k6⟩ := c35A (X := X) (d := d) (N := N) (t := t) (v := v) (code := code) h hi (by omega) hx hl h0 z.1 hd
      refine ⟨I', P', rρ ρ i (R + 1), R + 1, W, t + 1, k1, ?_, ?_, by omega, k6, ?_⟩
      · rw [mOverL, if_neg hz]; exact k2
      · rw [mOverL, if_neg hz]; exact hb.one k4 k5 k3
      · rw [mOverL, if_neg hz]; exact kp.one
    · have hw : mWho (mOne M (R + 1 + 1) t i v code) (M 26 i) (R + 1) = nI j := by unfold mWho; rw [if_pos j2]; exact j5
      have hnj : nn (nI j) = j := nn_nI (by omega)
      have hz : 0 ≤ mWho (mOne M (R + 1 + 1) t i v code) (M 26 i) (R + 1) ∧ mOne M (R + 1 + 1) t i v code 23 (nn (mWho (mOne M (R + 1 + 1) t i v code) (M 26 i) (R + 1))) = 2 ∧ mOne M (R + 1 + 1) t i v code 24 (nn (mWho (mOne M (R + 1 + 1) t i v code) (M 26 i) (R + 1))) = M 17 i := by
        rw [hw, hnj]
        exact ⟨nI_pos' (by omega), j6, j7⟩
      by_cases hc : 0 < code ∧ mCatch (mOne M (R + 1 + 1) t i v code) (nn (mWho (mOne M (R + 1 + 1) t i v code) (M 26 i) (R + 1))) = 0
      · have hcj : mCatch (mOne M (R + 1 + 1) t i v code) j = 0 := by have := hc.2; rw [hw, hnj] at this; exact this
        obtain ⟨I1, P1, g, k1, k2, k3, k4, k5, k6⟩ := c35C (X := X) (d := d) (N := N) (t := t) (v := v) (code := code) h hi (by omega) hx hl hc.1 j2 j1 j4 j6 hcj hd
        obtain ⟨I', P', ρ', R', W', t', e1, e2, e3, e4, e5, e6⟩ := ih (mOne M (R + 1 + 1) t i v code) I1 P1 (rρ ρ i (R + 1)) W j (t + 1) (-1) (M 26 i) (by rw [if_neg (by rw [j6]; decide)]; exact k2) (by omega) (hb.one k4 k5 k3) (by omega) (Or.inl j4) (fun k hk => k2.2.noline (by omega) (by rw [j6]; decide) hk)
        rw [mOverL, if_pos hz, if_pos hc, hw, hnj]
        exact ⟨I', P', ρ', R', W', t', fun a1 a6 => (k1 a1 a6).trans (e1 a1 a6), e2, e3, e4, e5.trans k6, kp.one.trans e6⟩
      · have hcc : 0 < code → mCatch (mOne M (R + 1 + 1) t i v code) j = 1 := fun z => (mCatch_01 _ j).resolve_left (fun z2 => hc ⟨z, by rw [hw, hnj]; exact z2⟩)
        obtain ⟨I1, P1, g, k1, k2, k3, k4, k5, k6⟩ := c35B (X := X) (d := d) (N := N) (t := t) (v := v) (code := code) h hi (by omega) hx hl h0 j2 j1 j4 j6 hcc hd
        rw [mOverL, if_pos hz, if_neg hc, hw, hnj]
        have hb1 := hb.one (P2 := P1) (R := R + 1) (i := i) (v := v) (code := code) k4 k5 k3
        exact ⟨I1, P1, rρ ρ i (R + 1), R + 1, W + 1, t + 1, k1, k2, ⟨by rw [mResume_at (by decide)]; exact hb1.1, fun k hk => by rw [mResume_at (by decide)]; exact hb1.2 k hk⟩, by omega, k6, kp.one.trans (kp.same (mResume_at (by decide)))⟩
theorem nm_pred (n : Nat) : nI n - 1 = nm n := by rw [← nm_m, Int32.sub_eq_add_neg]
theorem c35S (hd : 4 ≤ d) : ∀ (n : Nat) (M I : Nat → Nat → Int32) (W : Nat), RJ I P M ρ R W K O Q y x → n ≤ 30 → (∀ k, k < n → ∃ g : Nat, g < 32 ∧ P 11 k = some (113 + g) ∧ M 43 k = nI g) → ∃ I' W', (∀ a1 a2 a3 a4 a5, jl gw X d 35 61 [some (.ref 1), a1, a2, a3, a4, a5, some (.int (nm n))] [] (he I P N) = some (none, he I' P N)) ∧ RJ I' P (mSettleL R n M) ρ R W' K O Q y x
  | 0, M, I, W, h, _, _ => by
    refine ⟨I, W, fun a1 a2 a3 a4 a5 => ?_, h⟩
    have h1 : (nm 0) < 0 := by decide
    rw [r35_61]
    simp (disch := first | decide | omega | assumption | (simp (disch := decide) only [u2_ne, u2_same, mQueue]; assumption)) only [kV_some, kI_some, kR_some, kR_any, kH_some, kC_none, kC_some, jv_rsv_ref, jv_rsv_rf, jv_nz_ref, jv_nz_null, jv_nz_rf0, jv_nz_rf1, jv_rq_r1, jv_rq_r0, n10, n11, n00, Nat.reduceEqDiff, Option.bind_some, Option.bind_none, jv_isr_ref, jv_isr_rf, jv_isr_null, va_rf_some, va_rf_none, jv_cat1_int, jv_cat1_ref, jv_cat1_rf, if_true, if_false, eq_self, Option.toList_some, Option.toList_none, List.cons_append, List.nil_append, Bool.and_self, Bool.and_true, i32_10, i32_01, i32_80, nI_div8, nI_mul4, nI_mul8, nI_mul32, nI_add, ↓reduceIte, u2_ne, u2_same, r35_0, r35_1, r35_3, r35_4, r35_8, r35_11, r35_13, r35_15, r35_18, r35_19, r35_22, r35_24, r35_26, r35_29, r35_30, r35_33, r35_34, r35_37, r35_39, r35_42, r35_43, r35_45, r35_46, r35_47, r35_50, r35_52, r35_55, r35_57, r35_58, r35_59, r35_63, r35_66, r35_67, r35_68, r35_71, r35_73, r35_74, r35_77, r35_80, r35_83, h1]
  | n + 1, M, I, W, h, hn, hb => by
    obtain ⟨g, g1, g2, g3⟩ := hb n (by omega)
    have hgn : nn (M 43 n) = g := by rw [g3, nn_nI (by omega)]
    obtain ⟨I1, W1, k1, k2⟩ := c41 (X := X) (d := d) (N := N) h g1 hd
    obtain ⟨I', W', e1, e2⟩ := c35S hd n _ I1 W1 k2 (by omega) (fun k hk => by rw [mSettle_at (by decide) (by decide) (by decide) (by decide)]; exact hb k (by omega))
    rw [mSettleL, hgn]
    refine ⟨I', W', fun a1 a2 a3 a4 a5 => ?_, e2⟩
    have h1 : ¬ nI n < 0 := nI_pos (by omega)
    have e : nm (n + 1) = nI n := rfl
    rw [r35_61, e]
    simp (disch := first | decide | omega | assumption | (simp (disch := decide) only [u2_ne, u2_same, mQueue]; assumption)) only [kV_some, kI_some, kR_some, kR_any, kH_some, kC_none, kC_some, jv_rsv_ref, jv_rsv_rf, jv_nz_ref, jv_nz_null, jv_nz_rf0, jv_nz_rf1, jv_rq_r1, jv_rq_r0, n10, n11, n00, Nat.reduceEqDiff, Option.bind_some, Option.bind_none, jv_isr_ref, jv_isr_rf, jv_isr_null, va_rf_some, va_rf_none, jv_cat1_int, jv_cat1_ref, jv_cat1_rf, if_true, if_false, eq_self, Option.toList_some, Option.toList_none, List.cons_append, List.nil_append, Bool.and_self, Bool.and_true, i32_10, i32_01, i32_80, nI_div8, nI_mul4, nI_mul8, nI_mul32, nI_add, ↓reduceIte, u2_ne, u2_same, r35_0, r35_1, r35_3, r35_4, r35_8, r35_11, r35_13, r35_15, r35_18, r35_19, r35_22, r35_24, r35_26, r35_29, r35_30, r35_33, r35_34, r35_37, r35_39, r35_42, r35_43, r35_45, r35_46, r35_47, r35_50, r35_52, r35_55, r35_57, r35_58, r35_59, r35_63, r35_66, r35_67, r35_68, r35_71, r35_73, r35_74, r35_77, r35_80, r35_83, h1, gt_1_5, rl_39, g2, ic_1, k1, nm_m]
    exact e1 _ _ _ _ _
theorem c35 {i : Nat} {v code : Int32} (h : RJ I P M ρ (R + 1) W (R + 32 + (if M 23 i = 1 then 0 else 1)) O Q y x) (hi : i < R + 1) (hx : M 17 i = x ∨ (¬ M 23 i = 2 ∧ x = -1)) (hl : ∀ k, k < W → ¬ M 30 k = M 17 i) (h0 : code = 0 ∨ 0 < code) (hd : 5 ≤ d) : ∃ I' P' ρ' R' W', jv_F gw X d 35 [.ref 1, .ref (7 + ρ i), .int code, .int v] (he I P N) = some (none, he I' P' N) ∧ RJ I' P' (mOver M (R + 1) i v code) ρ' R' W' (R' + 32) O Q (-1) (-1) ∧ P' 12 = P 12 ∧ kp M ρ (R + 1) (mOver M (R + 1) i v code) ρ' R' := by
  obtain ⟨d, rfl⟩ : ∃ q, d = q + 1 := ⟨d - 1, by omega⟩
  have h30 := h.2.h30
  have e : ∀ f, f ≠ 44 → u2 M 44 0 0 f = M f := fun f a => u2_ne a
  have hR44 : Rel I P (u2 M 44 0 0) ρ (R + 1) W x := h.1.upS (h.1.s.right rfl) (fun _ _ => rfl) (fun b hb => u2_ne (by omega)) (by rw [u2_ne (by decide)])
  obtain ⟨I1, P1, ρ', R', W1, t', q1, q2, q3, q4, q5, q6⟩ := c35L (X := X) (d := d) (N := N) (v := v) (code := code) h0 (by omega) R (u2 M 44 0 0) I P ρ W i 0 y x ⟨hR44, by rw [e 23 (by decide)]; exact h.2.set44⟩ hi ⟨u2_same, fun k hk => by omega⟩ (by omega) (by rw [e 17 (by decide), e 23 (by decide)]; exact hx) (by rw [e 17 (by decide), e 30 (by decide)]; exact hl)
  have hR' : nn (mOverL v code (R + 1) (u2 M 44 0 0) i 0 28 0) = R' := by rw [q2.2.hR, nn_nI (by have := q2.2.h30; omega)]
  have ht' : nn (mOverL v code (R + 1) (u2 M 44 0 0) i 0 44 0) = t' := by rw [q3.1, nn_nI (by omega)]
  obtain ⟨I', W', p1, p2⟩ := c35S (X := X) (d := d) (N := N) (by omega) t' _ I1 W1 q2 q4 q3.2
  obtain ⟨-, -, s17, -, -⟩ := J.settleL t' _ W1 q2.2 (fun k hk => by obtain ⟨g, a, b, c⟩ := q3.2 k hk; exact ⟨g, a, c⟩)
  unfold mOver
  rw [hR', ht']
  refine ⟨I', P1, ρ', R', W', ?_, p2, q5, ?_⟩
  · rw [e35 rfl]
    simp (disch := first | decide | omega | assumption | (simp (disch := decide) only [u2_ne, u2_same, mQueue]; assumption)) only [kV_some, kI_some, kR_some, kR_any, kH_some, kC_none, kC_some, jv_rsv_ref, jv_rsv_rf, jv_nz_ref, jv_nz_null, jv_nz_rf0, jv_nz_rf1, jv_rq_r1, jv_rq_r0, n10, n11, n00, Nat.reduceEqDiff, Option.bind_some, Option.bind_none, jv_isr_ref, jv_isr_rf, jv_isr_null, va_rf_some, va_rf_none, jv_cat1_int, jv_cat1_ref, jv_cat1_rf, if_true, if_false, eq_self, Option.toList_some, Option.toList_none, List.cons_append, List.nil_append, Bool.and_self, Bool.and_true, i32_10, i32_01, i32_80, nI_div8, nI_mul4, nI_mul8, nI_mul32, nI_add, ↓reduceIte, u2_ne, u2_same, r35_0, r35_1, r35_3, r35_4, r35_8, r35_11, r35_13, r35_15, r35_18, r35_19, r35_22, r35_24, r35_26, r35_29, r35_30, r35_33, r35_34, r35_37, r35_39, r35_42, r35_43, r35_45, r35_46, r35_47, r35_50, r35_52, r35_55, r35_57, r35_58, r35_59, r35_63, r35_66, r35_67, r35_68, r35_71, r35_73, r35_74, r35_77, r35_80, r35_83]
    rw [show (0 : Int32) = nI 0 from rfl, q1, r35_6]
    simp (disch := first | decide | omega | assumption | (simp (disch := decide) only [u2_ne, u2_same, mQueue]; assumption)) only [kV_some, kI_some, kR_some, kR_any, kH_some, kC_none, kC_some, jv_rsv_ref, jv_rsv_rf, jv_nz_ref, jv_nz_null, jv_nz_rf0, jv_nz_rf1, jv_rq_r1, jv_rq_r0, n10, n11, n00, Nat.reduceEqDiff, Option.bind_some, Option.bind_none, jv_isr_ref, jv_isr_rf, jv_isr_null, va_rf_some, va_rf_none, jv_cat1_int, jv_cat1_ref, jv_cat1_rf, if_true, if_false, eq_self, Option.toList_some, Option.toList_none, List.cons_append, List.nil_append, Bool.and_self, Bool.and_true, i32_10, i32_01, i32_80, nI_div8, nI_mul4, nI_mul8, nI_mul32, nI_add, ↓reduceIte, u2_ne, u2_same, r35_0, r35_1, r35_3, r35_4, r35_8, r35_11, r35_13, r35_15, r35_18, r35_19, r35_22, r35_24, r35_26, r35_29, r35_30, r35_33, r35_34, r35_37, r35_39, r35_42, r35_43, r35_45, r35_46, r35_47, r35_50, r35_52, r35_55, r35_57, r35_58, r35_59, r35_63, r35_66, r35_67, r35_68, r35_71, r35_73, r35_74, r35_77, r35_80, r35_83, nm_pred]
    exact p1 _ _ _ _ _
  · have k1 : kp M ρ (R + 1) (u2 M 44 0 0) ρ (R + 1) := kp.same (e 17 (by decide))
    exact k1.trans (q6.trans (kp.same s17))
theorem mTell_v {b v v2 code : Int32} (h : 0 < code) : mTell M b v code = mTell M b v2 code := by unfold mTell; simp [h]
theorem mOne_v {i t : Nat} {v v2 code : Int32} (h : 0 < code) : mOne M R t i v code = mOne M R t i v2 code := by unfold mOne; exact mTell_v h
theorem mResume_v {j : Nat} {v v2 code : Int32} (h : 0 < code) : mResume M j v code = mResume M j v2 code := by unfold mResume; simp [h]
theorem mOverL_v {v v2 code : Int32} (h : 0 < code) : ∀ (R : Nat) (M : Nat → Nat → Int32) (i t : Nat), mOverL v code R M i t = mOverL v2 code R M i t
  | 0, _, _, _ => rfl
  | R + 1, M, i, t => by rw [mOverL, mOverL, mOne_v (v2 := v2) h, mOverL_v h R, mResume_v (v2 := v2) h]
theorem mOver_v {i : Nat} {v v2 code : Int32} (h : 0 < code) : mOver M R i v code = mOver M R i v2 code := by unfold mOver; rw [mOverL_v (v2 := v2) h]
end CL
