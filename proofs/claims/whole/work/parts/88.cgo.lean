/-! ===== the class: catches, goOn ===== -/
section CL
variable {X : Nat × (Nat → Int32)} {d : Nat} {I : Nat → Nat → Int32} {P : Nat → Nat → Option Nat} {M N : Nat → Nat → Int32} {ρ : Nat → Nat} {R W K O Q : Nat} {y x : Int32}
theorem c39 (h : RJ I P M ρ R W K O Q y x) {i : Nat} {code : Int32} (hi : i < R) (hd : 1 ≤ d) : jv_F gw X d 39 [.ref (7 + ρ i), .int code] (he I P N) = some (some (.int (mCatch M i)), he (if mCatch M i = 1 then u2 (u2 I 44 (ρ i) (-code)) 45 (ρ i) (M 22 i + 1) else I) P N) := by
  obtain ⟨d, rfl⟩ : ∃ q, d = q + 1 := ⟨d - 1, by omega⟩
  rw [e39]
  obtain ⟨g, m, a, b1, b2, b3, b4, b5, b6⟩ := h.2.row hi
  obtain ⟨g1, m1, q1, q2, q3, q4, hρ, q6, q7, q8, q9, q10, q11, -⟩ := h.row hi
  have eg : g1 = g := (nI_eq (by omega) (by omega)).mp (q3.symm.trans b1)
  have em : m1 = m := (nI_eq (by omega) (by omega)).mp (q4.symm.trans b3)
  subst eg
  subst em
  have hq : mMeth M i = 4 * (g1 / 8) + m1 := by unfold mMeth; rw [b1, b3, nn_nI (by omega), nn_nI (by omega)]
  obtain ⟨n, hn, hn8⟩ := h.2.ok.2.2.2.2.1 (4 * (g1 / 8) + m1) (by omega)
  have e12 : I 12 = M 4 := h.1.s 12 (by decide)
  have e15 : I 15 = M 5 := h.1.s 15 (by decide)
  have h8 : g1 / 8 < 4 := by omega
  unfold mCatch
  rw [hq, hn, b5, nn_nI (by omega)]
  by_cases h1 : a < n
  · have h1a : ¬ nI n ≤ nI a := nI_ge h1 (by omega)
    have h1b : nI a < nI n := nI_lt h1 (by omega)
    by_cases h2 : M 5 (8 * (4 * (g1 / 8) + m1) + a) = 11
    · simp (disch := first | decide | omega | assumption | (simp (disch := decide) only [u2_ne, u2_same, mQueue]; assumption)) only [kV_some, kI_some, kR_some, kR_any, kH_some, kC_none, kC_some, jv_rsv_ref, jv_rsv_rf, jv_nz_ref, jv_nz_null, jv_nz_rf0, jv_nz_rf1, jv_rq_r1, jv_rq_r0, n10, n11, n00, Nat.reduceEqDiff, Option.bind_some, Option.bind_none, jv_isr_ref, jv_isr_rf, jv_isr_null, va_rf_some, va_rf_none, jv_cat1_int, jv_cat1_ref, jv_cat1_rf, if_true, if_false, eq_self, Option.toList_some, Option.toList_none, List.cons_append, List.nil_append, Bool.and_self, Bool.and_true, i32_10, i32_01, i32_80, nI_div8, nI_mul4, nI_mul8, nI_mul32, nI_add, ↓reduceIte, u2_ne, u2_same, r39_0, r39_1, r39_4, r39_5, r39_8, r39_11, r39_14, r39_15, r39_18, r39_21, r39_22, r39_25, r39_26, r39_28, r39_31, r39_32, r39_33, r39_34, r39_35, r39_36, r39_39, r39_40, r39_41, r39_44, r39_45, r39_46, r39_49, r39_50, gt_rq_7, q11, b5, gt_rq_3, q8, gt_mt_3, e12, hn, h1a, h1b, gt_mt_0, rd_ops, e15, h2, and_self, pt_rq_6, pt_rq_7, or_true]
    · simp (disch := first | decide | omega | assumption | (simp (disch := decide) only [u2_ne, u2_same, mQueue]; assumption)) only [kV_some, kI_some, kR_some, kR_any, kH_some, kC_none, kC_some, jv_rsv_ref, jv_rsv_rf, jv_nz_ref, jv_nz_null, jv_nz_rf0, jv_nz_rf1, jv_rq_r1, jv_rq_r0, n10, n11, n00, Nat.reduceEqDiff, Option.bind_some, Option.bind_none, jv_isr_ref, jv_isr_rf, jv_isr_null, va_rf_some, va_rf_none, jv_cat1_int, jv_cat1_ref, jv_cat1_rf, if_true, if_false, eq_self, Option.toList_some, Option.toList_none, List.cons_append, List.nil_append, Bool.and_self, Bool.and_true, i32_10, i32_01, i32_80, nI_div8, nI_mul4, nI_mul8, nI_mul32, nI_add, ↓reduceIte, u2_ne, u2_same, r39_0, r39_1, r39_4, r39_5, r39_8, r39_11, r39_14, r39_15, r39_18, r39_21, r39_22, r39_25, r39_26, r39_28, r39_31, r39_32, r39_33, r39_34, r39_35, r39_36, r39_39, r39_40, r39_41, r39_44, r39_45, r39_46, r39_49, r39_50, gt_rq_7, q11, b5, gt_rq_3, q8, gt_mt_3, e12, hn, h1a, h1b, gt_mt_0, rd_ops, e15, h2, and_false, true_or]
  · have h1a : nI n ≤ nI a := nI_le (by omega) (by omega)
    have h1b : ¬ nI a < nI n := nI_nlt (by omega) (by omega)
    simp (disch := first | decide | omega | assumption | (simp (disch := decide) only [u2_ne, u2_same, mQueue]; assumption)) only [kV_some, kI_some, kR_some, kR_any, kH_some, kC_none, kC_some, jv_rsv_ref, jv_rsv_rf, jv_nz_ref, jv_nz_null, jv_nz_rf0, jv_nz_rf1, jv_rq_r1, jv_rq_r0, n10, n11, n00, Nat.reduceEqDiff, Option.bind_some, Option.bind_none, jv_isr_ref, jv_isr_rf, jv_isr_null, va_rf_some, va_rf_none, jv_cat1_int, jv_cat1_ref, jv_cat1_rf, if_true, if_false, eq_self, Option.toList_some, Option.toList_none, List.cons_append, List.nil_append, Bool.and_self, Bool.and_true, i32_10, i32_01, i32_80, nI_div8, nI_mul4, nI_mul8, nI_mul32, nI_add, ↓reduceIte, u2_ne, u2_same, r39_0, r39_1, r39_4, r39_5, r39_8, r39_11, r39_14, r39_15, r39_18, r39_21, r39_22, r39_25, r39_26, r39_28, r39_31, r39_32, r39_33, r39_34, r39_35, r39_36, r39_39, r39_40, r39_41, r39_44, r39_45, r39_46, r39_49, r39_50, gt_rq_7, q11, b5, gt_rq_3, q8, gt_mt_3, e12, hn, h1a, h1b, false_and, true_or]
/-- who waited for nothing more -/
theorem Rel.aw (h : Rel I P M ρ R W x) {j : Nat} (h30 : R ≤ 30) (hn : JN (M 17) (M 29 0) R Q) (hj : j < R) (hx : M 17 j = x ∨ x = -1) : Rel (u2 I 48 (ρ j) 0) (u2 P 4 (ρ j) none) (u2 (u2 M 24 j (-1)) 25 j 0) ρ R W (-1) := by
  obtain ⟨h1, h2, h3, h4, h5, h6, h7, h8, h9⟩ := h
  have hne : ∀ k, k < R → ¬ k = j → ¬ ρ k = ρ j := fun k hk hkj z => hkj (h2.2 k j (by omega) (by omega) z)
  have hxx : ∀ k, k < R → ¬ k = j → ¬ M 17 k = x := fun k hk hkj z => by
    rcases hx with hx | hx
    · exact hkj (hn.inj hk hj (z.trans hx.symm))
    · rw [hx] at z; exact p_m1 (hn.1 k hk).1 z
  have eM : ∀ f, f ≠ 24 → f ≠ 25 → u2 (u2 M 24 j (-1)) 25 j 0 f = M f := fun f p q => by rw [u2_ne q, u2_ne p]
  refine ⟨((h1.left rfl).right rfl).right rfl, ⟨fun k hk => by rw [u2_ne (by decide)]; exact h2.1 k hk, h2.2⟩, fun a k ha hk => ?_, fun k hk => ?_, fun k hk => ?_, fun k hk _ => ?_, fun k hk1 hk2 => ?_, ?_, ?_⟩
  · have ea : (40 ≤ a ∧ a ≤ 45) ∧ 17 ≤ cq a ∧ cq a ≤ 23 := by
      unfold cq at *
      split at ha <;> first | (constructor <;> decide) | exact absurd rfl ha
    rw [u2_ne (by omega), eM _ (by omega) (by omega)]
    exact h3 a k ha hk
  · obtain ⟨a1, a2, a3, a4, a5⟩ := h4 k hk
    rw [u2_ne (show (0 : Nat) ≠ 4 by decide), u2_ne (show (1 : Nat) ≠ 4 by decide), u2_ne (show (46 : Nat) ≠ 48 by decide), u2_ne (show (47 : Nat) ≠ 48 by decide), eM 18 (by decide) (by decide), eM 19 (by decide) (by decide), eM 27 (by decide) (by decide), eM 17 (by decide) (by decide)]
    refine ⟨a1, a2, a3, a4, fun _ => ?_⟩
    by_cases hkj : k = j
    · subst hkj; rw [u2_same, u2_same]
    · rw [u2_oth (hne k hk hkj), u2_oth hkj, u2_ne (by decide)]; exact a5 (hxx k hk hkj)
  · rw [u2_ne (show (2 : Nat) ≠ 4 by decide), u2_ne (show (3 : Nat) ≠ 4 by decide), eM 26 (by decide) (by decide), eM 17 (by decide) (by decide)]; exact h5 k hk
  · rw [eM 17 (by decide) (by decide), u2_ne (show (24 : Nat) ≠ 25 by decide)]
    by_cases hkj : k = j
    · subst hkj; rw [u2_same, u2_same]; exact Or.inl ⟨rfl, rfl⟩
    · rw [u2_oth (hne k hk hkj), u2_oth hkj]; exact h6 k hk (hxx k hk hkj)
  · rw [u2_ne (by decide)]; exact h7 k hk1 hk2
  · unfold relL
    rw [u2_ne (by decide), u2_ne (by decide), eM 30 (by decide) (by decide)]; exact h8
  · rw [eM 37 (by decide) (by decide)]; exact h9
theorem Rel.aw0 (h : Rel I P M ρ R W x) {j : Nat} (h30 : R ≤ 30) (hj : j < R) (hx : M 17 j = x) : Rel (u2 I 48 (ρ j) 0) (u2 P 4 (ρ j) none) M ρ R W x := by
  obtain ⟨h1, h2, h3, h4, h5, h6, h7, h8, h9⟩ := h
  have hne : ∀ k, k < R → ¬ M 17 k = x → ¬ ρ k = ρ j := fun k hk hkx z => by
    have := h2.2 k j (by omega) (by omega) z
    rw [this] at hkx
    exact hkx hx
  refine ⟨h1.left rfl, ⟨fun k hk => by rw [u2_ne (by decide)]; exact h2.1 k hk, h2.2⟩, fun a k ha hk => ?_, fun k hk => ?_, fun k hk => ?_, fun k hk hkx => ?_, fun k hk1 hk2 => ?_, ?_, h9⟩
  · have ea : (40 ≤ a ∧ a ≤ 45) ∧ 17 ≤ cq a ∧ cq a ≤ 23 := by
      unfold cq at *
      split at ha <;> first | (constructor <;> decide) | exact absurd rfl ha
    rw [u2_ne (by omega)]
    exact h3 a k ha hk
  · obtain ⟨a1, a2, a3, a4, a5⟩ := h4 k hk
    rw [u2_ne (show (0 : Nat) ≠ 4 by decide), u2_ne (show (1 : Nat) ≠ 4 by decide), u2_ne (show (46 : Nat) ≠ 48 by decide), u2_ne (show (47 : Nat) ≠ 48 by decide)]
    exact ⟨a1, a2, a3, a4, fun z => by rw [u2_oth (hne k hk z)]; exact a5 z⟩
  · rw [u2_ne (show (2 : Nat) ≠ 4 by decide), u2_ne (show (3 : Nat) ≠ 4 by decide)]; exact h5 k hk
  · rw [u2_oth (hne k hk hkx)]; exact h6 k hk hkx
  · rw [u2_ne (by decide)]; exact h7 k hk1 hk2
  · unfold relL
    rw [u2_ne (by decide), u2_ne (by decide)]; exact h8
theorem mResume_alt {j : Nat} {v code : Int32} : mResume M j v code = mQueue (u2 (if 0 < code then u2 (u2 (u2 (u2 M 24 j (-1)) 25 j 0) 21 j (-code)) 22 j (M 22 j + 1) else u2 (u2 (u2 M 24 j (-1)) 25 j 0) 21 j v) 23 j 1) (M 17 j) := by
  unfold mResume
  by_cases h : 0 < code
  · rw [if_pos h, if_pos h]
    congr 1
    rw [u2_comm (f := 23) (f2 := 24) (by decide), u2_comm (f := 23) (f2 := 25) (by decide), u2_comm (f := 22) (f2 := 24) (by decide), u2_comm (f := 22) (f2 := 25) (by decide), u2_comm (f := 21) (f2 := 24) (by decide), u2_comm (f := 21) (f2 := 25) (by decide)]
  · rw [if_neg h, if_neg h]
    congr 1
    rw [u2_comm (f := 23) (f2 := 24) (by decide), u2_comm (f := 23) (f2 := 25) (by decide), u2_comm (f := 21) (f2 := 24) (by decide), u2_comm (f := 21) (f2 := 25) (by decide)]
theorem c38t (h : RJ I P M ρ R W K O Q y x) {j : Nat} {v code : Int32} (hj : j < R) (hx : M 17 j = x) (h23 : M 23 j = 2) (h0 : code = 0 ∨ 0 < code) (hc : 0 < code → mCatch M j = 1) (hd : 2 ≤ d) : ∃ I' P', jv_F gw X d 38 [.ref 1, .ref (7 + ρ j), .int code, .int v] (he I P N) = some (some (.int 1), he I' P' N) ∧ RJ I' P' (mResume M j v code) ρ R (W + 1) K O Q y (-1) ∧ (∀ f, f ≠ 4 → P' f = P f) := by
  obtain ⟨d, rfl⟩ : ∃ q, d = q + 1 := ⟨d - 1, by omega⟩
  have h30 := h.2.h30
  have hJ := h.2.resume (v := v) (code := code) hj h23 hx hc
  have hcnt := hJ.ok.2.2.2.2.2.2.1
  have hK := hJ.ok.2.2.2.2.2.2.2
  obtain ⟨g, m, q1, q2, q3, q4, hρ, q6, q7, q8, q9, q10, q11, -⟩ := h.row hj
  have ha := h.1.aw (Q := Q) h30 h.2.n hj (Or.inl hx)
  have hrj0 : RJ (u2 I 48 (ρ j) 0) (u2 P 4 (ρ j) none) M ρ R W K O Q y x := ⟨h.1.aw0 h30 hj hx, h.2⟩
  have hca := c39 (X := X) (d := d) (N := N) (code := code) hrj0 hj (by omega)
  rw [mResume_alt] at hJ ⊢
  rcases h0 with h0 | h0
  · subst h0
    rw [if_neg (by decide)] at hJ ⊢
    have hr1 := ha.row (a := 44) (b := 21) (v := v) h30 hj (by omega) rfl
    have hr2 := hr1.row (a := 43) (b := 23) (v := 1) h30 hj (by omega) rfl
    obtain ⟨I2, k1, k2⟩ := hr2.queue (by simp [u2_ne, h.2.hW]) (by omega) (M 17 j)
    have k1' := k1 X d N (by omega)
    have e40 : u2 (u2 (u2 I 48 (ρ j) 0) 44 (ρ j) v) 43 (ρ j) 1 40 (ρ j) = M 17 j := by simp [u2_ne, q9]
    refine ⟨I2, _, ?_, ⟨k2, hJ⟩, fun f hf => u2_ne hf⟩
    rw [e38 rfl]
    simp (disch := first | decide | omega | assumption | (simp (disch := decide) only [u2_ne, u2_same, mQueue]; assumption)) only [kV_some, kI_some, kR_some, kR_any, kH_some, kC_none, kC_some, jv_rsv_ref, jv_rsv_rf, jv_nz_ref, jv_nz_null, jv_nz_rf0, jv_nz_rf1, jv_rq_r1, jv_rq_r0, n10, n11, n00, Nat.reduceEqDiff, Option.bind_some, Option.bind_none, jv_isr_ref, jv_isr_rf, jv_isr_null, va_rf_some, va_rf_none, jv_cat1_int, jv_cat1_ref, jv_cat1_rf, if_true, if_false, eq_self, Option.toList_some, Option.toList_none, List.cons_append, List.nil_append, Bool.and_self, Bool.and_true, i32_10, i32_01, i32_80, nI_div8, nI_mul4, nI_mul8, nI_mul32, nI_add, ↓reduceIte, u2_ne, u2_same, r38_0, r38_1, r38_4, r38_5, r38_8, r38_9, r38_10, r38_13, r38_16, r38_17, r38_18, r38_21, r38_24, r38_25, r38_26, r38_27, r38_28, r38_31, r38_32, r38_35, r38_36, r38_39, r38_42, r38_43, ic_rq, c22, pt_rq_6, pt_rq_5, gt_1_4, gt_rq_0, q9, ic_37, k1', or_true]
  · have hcc := hc h0
    have hn0 : ¬ code = 0 := fun z => by rw [z] at h0; exact absurd h0 (by decide)
    rw [if_pos h0] at hJ ⊢
    rw [hcc, if_pos rfl] at hca
    have hr1 := ha.row (a := 44) (b := 21) (v := -code) h30 hj (by omega) rfl
    have hr3 := hr1.row (a := 45) (b := 22) (v := M 22 j + 1) h30 hj (by omega) rfl
    have hr2 := hr3.row (a := 43) (b := 23) (v := 1) h30 hj (by omega) rfl
    obtain ⟨I2, k1, k2⟩ := hr2.queue (by simp [u2_ne, h.2.hW]) (by omega) (M 17 j)
    have k1' := k1 X d N (by omega)
    refine ⟨I2, _, ?_, ⟨k2, hJ⟩, fun f hf => u2_ne hf⟩
    rw [e38 rfl]
    simp (disch := first | decide | omega | assumption | (simp (disch := decide) only [u2_ne, u2_same, mQueue]; assumption)) only [kV_some, kI_some, kR_some, kR_any, kH_some, kC_none, kC_some, jv_rsv_ref, jv_rsv_rf, jv_nz_ref, jv_nz_null, jv_nz_rf0, jv_nz_rf1, jv_rq_r1, jv_rq_r0, n10, n11, n00, Nat.reduceEqDiff, Option.bind_some, Option.bind_none, jv_isr_ref, jv_isr_rf, jv_isr_null, va_rf_some, va_rf_none, jv_cat1_int, jv_cat1_ref, jv_cat1_rf, if_true, if_false, eq_self, Option.toList_some, Option.toList_none, List.cons_append, List.nil_append, Bool.and_self, Bool.and_true, i32_10, i32_01, i32_80, nI_div8, nI_mul4, nI_mul8, nI_mul32, nI_add, ↓reduceIte, u2_ne, u2_same, r38_0, r38_1, r38_4, r38_5, r38_8, r38_9, r38_10, r38_13, r38_16, r38_17, r38_18, r38_21, r38_24, r38_25, r38_26, r38_27, r38_28, r38_31, r38_32, r38_35, r38_36, r38_39, r38_42, r38_43, ic_rq, c22, hn0, hca, pt_rq_5, gt_1_4, gt_rq_0, q9, ic_37, k1', or_true]
theorem c38f (h : RJ I P M ρ R W K O Q y x) {j : Nat} {v code : Int32} (hj : j < R) (hx : M 17 j = x) (h0 : 0 < code) (hc : mCatch M j = 0) (hd : 2 ≤ d) : jv_F gw X d 38 [.ref 1, .ref (7 + ρ j), .int code, .int v] (he I P N) = some (some (.int 0), he (u2 I 48 (ρ j) 0) (u2 P 4 (ρ j) none) N) ∧ RJ (u2 I 48 (ρ j) 0) (u2 P 4 (ρ j) none) M ρ R W K O Q y x := by
  obtain ⟨d, rfl⟩ : ∃ q, d = q + 1 := ⟨d - 1, by omega⟩
  have h30 := h.2.h30
  obtain ⟨g, m, q1, q2, q3, q4, hρ, -⟩ := h.row hj
  have hrj0 : RJ (u2 I 48 (ρ j) 0) (u2 P 4 (ρ j) none) M ρ R W K O Q y x := ⟨h.1.aw0 h30 hj hx, h.2⟩
  have hca := c39 (X := X) (d := d) (N := N) (code := code) hrj0 hj (by omega)
  have hn0 : ¬ code = 0 := fun z => by rw [z] at h0; exact absurd h0 (by decide)
  rw [hc, if_neg (by decide)] at hca
  refine ⟨?_, hrj0⟩
  rw [e38 rfl]
  simp (disch := first | decide | omega | assumption | (simp (disch := decide) only [u2_ne, u2_same, mQueue]; assumption)) only [kV_some, kI_some, kR_some, kR_any, kH_some, kC_none, kC_some, jv_rsv_ref, jv_rsv_rf, jv_nz_ref, jv_nz_null, jv_nz_rf0, jv_nz_rf1, jv_rq_r1, jv_rq_r0, n10, n11, n00, Nat.reduceEqDiff, Option.bind_some, Option.bind_none, jv_isr_ref, jv_isr_rf, jv_isr_null, va_rf_some, va_rf_none, jv_cat1_int, jv_cat1_ref, jv_cat1_rf, if_true, if_false, eq_self, Option.toList_some, Option.toList_none, List.cons_append, List.nil_append, Bool.and_self, Bool.and_true, i32_10, i32_01, i32_80, nI_div8, nI_mul4, nI_mul8, nI_mul32, nI_add, ↓reduceIte, u2_ne, u2_same, r38_0, r38_1, r38_4, r38_5, r38_8, r38_9, r38_10, r38_13, r38_16, r38_17, r38_18, r38_21, r38_24, r38_25, r38_26, r38_27, r38_28, r38_31, r38_32, r38_35, r38_36, r38_39, r38_42, r38_43, ic_rq, c22, hn0, hca, true_or]
end CL
