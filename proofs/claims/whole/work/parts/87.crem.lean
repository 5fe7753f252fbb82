/-! ===== the class: remove ===== -/
theorem wl_6q {I : Nat → Nat → Int32} {P : Nat → Nat → Option Nat} {N : Nat → Nat → Int32} {j q : Nat} (hj : j < 30) (hq : q < 30) : jv_rst gw (he I P N) 6 (nI j) (some (7 + q)) = some (he I (u2 P 10 j (some (7 + q))) N) := wl_6 hj (ic_rq hq)
theorem wl_40q {I : Nat → Nat → Int32} {P : Nat → Nat → Option Nat} {N : Nat → Nat → Int32} {j q : Nat} (hj : j < 30) (hq : q < 30) : jv_rst gw (he I P N) 40 (nI j) (some (7 + q)) = some (he I (u2 P 12 j (some (7 + q))) N) := wl_40 hj (ic_rq hq)
theorem wl_39g {I : Nat → Nat → Int32} {P : Nat → Nat → Option Nat} {N : Nat → Nat → Int32} {j g : Nat} (hj : j < 30) (hg : g < 32) : jv_rst gw (he I P N) 39 (nI j) (some (113 + g)) = some (he I (u2 P 11 j (some (113 + g))) N) := wl_39 hj (ic_gr hg)
def pS (P : Nat → Nat → Option Nat) (i k : Nat) : Nat → Nat → Option Nat := fun f j => if f = 10 ∧ i ≤ j ∧ j < k then P 10 (j + 1) else P f j
theorem pS_0 {P : Nat → Nat → Option Nat} {i : Nat} : pS P i i = P := by
  funext f j
  unfold pS
  rw [if_neg (by omega)]
theorem pS_hi {P : Nat → Nat → Option Nat} {i k f j : Nat} (h : k ≤ j) : pS P i k f j = P f j := by
  unfold pS
  rw [if_neg (by omega)]
theorem pS_ne {P : Nat → Nat → Option Nat} {i k f : Nat} (h : f ≠ 10) : pS P i k f = P f := by
  funext j
  unfold pS
  rw [if_neg (fun z => h z.1)]
theorem pS_s {P : Nat → Nat → Option Nat} {i k : Nat} (h : i ≤ k) : u2 (pS P i k) 10 k (P 10 (k + 1)) = pS P i (k + 1) := by
  funext f j
  by_cases hf : f = 10
  · subst hf
    rw [u2_at]
    unfold pS
    by_cases hj : j = k
    · subst hj; rw [if_pos rfl, if_pos ⟨rfl, h, by omega⟩]
    · rw [if_neg hj]
      by_cases hz : i ≤ j ∧ j < k
      · rw [if_pos ⟨rfl, hz⟩, if_pos ⟨rfl, hz.1, by omega⟩]
      · rw [if_neg (fun z => hz z.2), if_neg (fun z => hz ⟨z.2.1, by omega⟩)]
  · rw [u2_ne hf, pS_ne hf, pS_ne hf]
theorem u2_id {α : Type} {P : Nat → Nat → α} {f k : Nat} {v : α} (h : P f k = v) : u2 P f k v = P := by
  funext a b
  by_cases e : a = f
  · subst e
    rw [u2_at]
    by_cases e2 : b = k
    · subst e2; rw [if_pos rfl, h]
    · rw [if_neg e2]
  · rw [u2_ne e]
section CL
variable {X : Nat × (Nat → Int32)} {d : Nat} {I : Nat → Nat → Int32} {P : Nat → Nat → Option Nat} {M N : Nat → Nat → Int32} {ρ : Nat → Nat} {R W K O Q : Nat} {y x : Int32}
theorem c36a (h2 : relR P ρ) {i : Nat} (hsz : I 50 0 = nI (R + 1)) (h30 : R + 1 ≤ 30) (hi : i < R + 1) : ∀ (r j : Nat), j + r = i → jl gw X d 36 4 [some (.ref 5), some (.ref (7 + ρ i)), some (.int (nI j)), some (.int (nI j))] [] (he I P N) = jl gw X d 36 4 [some (.ref 5), some (.ref (7 + ρ i)), some (.int (nI i)), some (.int (nI (i + 1)))] [] (he I P N) := by
  intro r
  have hρi := (h2.1 i (by omega)).2
  have hpi := (h2.1 i (by omega)).1
  induction r with
  | zero =>
    intro j hj
    have hj : j = i := by omega
    subst hj
    have h1 : ¬ nI (R + 1) ≤ nI j := nI_ge (by omega) (by omega)
    conv => lhs; rw [r36_4]
    simp (disch := first | decide | omega | assumption | (simp (disch := decide) only [u2_ne, u2_same, mQueue]; assumption)) only [kV_some, kI_some, kR_some, kR_any, kH_some, kC_none, kC_some, jv_rsv_ref, jv_rsv_rf, jv_nz_ref, jv_nz_null, jv_nz_rf0, jv_nz_rf1, jv_rq_r1, jv_rq_r0, n10, n11, n00, Nat.reduceEqDiff, Option.bind_some, Option.bind_none, jv_isr_ref, jv_isr_rf, jv_isr_null, va_rf_some, va_rf_none, jv_cat1_int, jv_cat1_ref, jv_cat1_rf, if_true, if_false, eq_self, Option.toList_some, Option.toList_none, List.cons_append, List.nil_append, Bool.and_self, Bool.and_true, i32_10, i32_01, i32_80, nI_div8, nI_mul4, nI_mul8, nI_mul32, nI_add, ↓reduceIte, u2_ne, u2_same, r36_0, r36_1, r36_2, r36_3, r36_5, r36_6, r36_9, r36_12, r36_13, r36_16, r36_17, r36_18, r36_19, r36_22, r36_23, r36_26, r36_27, r36_28, r36_31, r36_32, r36_33, r36_34, r36_37, r36_40, r36_43, r36_44, r36_45, r36_48, r36_49, r36_50, r36_53, r36_56, r36_57, r36_60, r36_61, r36_62, r36_63, r36_64, r36_65, r36_68, gt_5_1, hsz, h1, gt_5_0, rl_6, hpi, not_true_eq_false, nI_1]
  | succ r ih =>
    intro j hj
    have h1 : ¬ nI (R + 1) ≤ nI j := nI_ge (by omega) (by omega)
    have hρj := (h2.1 j (by omega)).2
    have hpj := (h2.1 j (by omega)).1
    have hne : ¬ 7 + ρ j = 7 + ρ i := fun z => by have := h2.2 j i (by omega) (by omega) (by omega); omega
    have hid := u2_id hpj
    rw [r36_4]
    simp (disch := first | decide | omega | assumption | (simp (disch := decide) only [u2_ne, u2_same, mQueue]; assumption)) only [kV_some, kI_some, kR_some, kR_any, kH_some, kC_none, kC_some, jv_rsv_ref, jv_rsv_rf, jv_nz_ref, jv_nz_null, jv_nz_rf0, jv_nz_rf1, jv_rq_r1, jv_rq_r0, n10, n11, n00, Nat.reduceEqDiff, Option.bind_some, Option.bind_none, jv_isr_ref, jv_isr_rf, jv_isr_null, va_rf_some, va_rf_none, jv_cat1_int, jv_cat1_ref, jv_cat1_rf, if_true, if_false, eq_self, Option.toList_some, Option.toList_none, List.cons_append, List.nil_append, Bool.and_self, Bool.and_true, i32_10, i32_01, i32_80, nI_div8, nI_mul4, nI_mul8, nI_mul32, nI_add, ↓reduceIte, u2_ne, u2_same, r36_0, r36_1, r36_2, r36_3, r36_5, r36_6, r36_9, r36_12, r36_13, r36_16, r36_17, r36_18, r36_19, r36_22, r36_23, r36_26, r36_27, r36_28, r36_31, r36_32, r36_33, r36_34, r36_37, r36_40, r36_43, r36_44, r36_45, r36_48, r36_49, r36_50, r36_53, r36_56, r36_57, r36_60, r36_61, r36_62, r36_63, r36_64, r36_65, r36_68, gt_5_1, hsz, h1, gt_5_0, rl_6, hpj, hne, not_false_eq_true, wl_6q, hid, nI_1]
    exact ih (j + 1) (by omega)
theorem c36b (h2 : relR P ρ) {i : Nat} (hsz : I 50 0 = nI (R + 1)) (h30 : R + 1 ≤ 30) (hi : i < R + 1) : ∀ (r j : Nat), j + r = R → i ≤ j → jl gw X d 36 4 [some (.ref 5), some (.ref (7 + ρ i)), some (.int (nI j)), some (.int (nI (j + 1)))] [] (he I (pS P i j) N) = jl gw X d 36 43 [some (.ref 5), some (.ref (7 + ρ i)), some (.int (nI R)), some (.int (nI (R + 1)))] [] (he I (pS P i R) N) := by
  intro r
  induction r with
  | zero =>
    intro j hj hij
    have hj : j = R := by omega
    subst hj
    rw [r36_4]
    simp (disch := first | decide | omega | assumption | (simp (disch := decide) only [u2_ne, u2_same, mQueue]; assumption)) only [kV_some, kI_some, kR_some, kR_any, kH_some, kC_none, kC_some, jv_rsv_ref, jv_rsv_rf, jv_nz_ref, jv_nz_null, jv_nz_rf0, jv_nz_rf1, jv_rq_r1, jv_rq_r0, n10, n11, n00, Nat.reduceEqDiff, Option.bind_some, Option.bind_none, jv_isr_ref, jv_isr_rf, jv_isr_null, va_rf_some, va_rf_none, jv_cat1_int, jv_cat1_ref, jv_cat1_rf, if_true, if_false, eq_self, Option.toList_some, Option.toList_none, List.cons_append, List.nil_append, Bool.and_self, Bool.and_true, i32_10, i32_01, i32_80, nI_div8, nI_mul4, nI_mul8, nI_mul32, nI_add, ↓reduceIte, u2_ne, u2_same, r36_0, r36_1, r36_2, r36_3, r36_5, r36_6, r36_9, r36_12, r36_13, r36_16, r36_17, r36_18, r36_19, r36_22, r36_23, r36_26, r36_27, r36_28, r36_31, r36_32, r36_33, r36_34, r36_37, r36_40, r36_44, r36_45, r36_48, r36_49, r36_50, r36_53, r36_56, r36_57, r36_60, r36_61, r36_62, r36_63, r36_64, r36_65, r36_68, gt_5_1, hsz, Int32.le_refl]
  | succ r ih =>
    intro j hj hij
    have h1 : ¬ nI (R + 1) ≤ nI (j + 1) := nI_ge (by omega) (by omega)
    have hρj := (h2.1 (j + 1) (by omega)).2
    have hpj := (h2.1 (j + 1) (by omega)).1
    have hpj' : pS P i j 10 (j + 1) = some (7 + ρ (j + 1)) := by rw [pS_hi (by omega)]; exact hpj
    have hne : ¬ 7 + ρ (j + 1) = 7 + ρ i := fun z => by have := h2.2 (j + 1) i (by omega) (by omega) (by omega); omega
    have hs := pS_s (P := P) hij
    rw [hpj] at hs
    rw [r36_4]
    simp (disch := first | decide | omega | assumption | (simp (disch := decide) only [u2_ne, u2_same, mQueue]; assumption)) only [kV_some, kI_some, kR_some, kR_any, kH_some, kC_none, kC_some, jv_rsv_ref, jv_rsv_rf, jv_nz_ref, jv_nz_null, jv_nz_rf0, jv_nz_rf1, jv_rq_r1, jv_rq_r0, n10, n11, n00, Nat.reduceEqDiff, Option.bind_some, Option.bind_none, jv_isr_ref, jv_isr_rf, jv_isr_null, va_rf_some, va_rf_none, jv_cat1_int, jv_cat1_ref, jv_cat1_rf, if_true, if_false, eq_self, Option.toList_some, Option.toList_none, List.cons_append, List.nil_append, Bool.and_self, Bool.and_true, i32_10, i32_01, i32_80, nI_div8, nI_mul4, nI_mul8, nI_mul32, nI_add, ↓reduceIte, u2_ne, u2_same, r36_0, r36_1, r36_2, r36_3, r36_5, r36_6, r36_9, r36_12, r36_13, r36_16, r36_17, r36_18, r36_19, r36_22, r36_23, r36_26, r36_27, r36_28, r36_31, r36_32, r36_33, r36_34, r36_37, r36_40, r36_44, r36_45, r36_48, r36_49, r36_50, r36_53, r36_56, r36_57, r36_60, r36_61, r36_62, r36_63, r36_64, r36_65, r36_68, gt_5_1, hsz, h1, gt_5_0, rl_6, hpj', hne, not_false_eq_true, wl_6q, hs, nI_1]
    exact ih (j + 1) (by omega) (by omega)
def rI (I : Nat → Nat → Int32) (q R : Nat) : Nat → Nat → Int32 := u2 (u2 I 43 q 3) 50 0 (nI R)
def rP (P : Nat → Nat → Option Nat) (i R q : Nat) : Nat → Nat → Option Nat := u2 (pS P i R) 10 R (some (7 + q))
def rρ (ρ : Nat → Nat) (i R : Nat) : Nat → Nat := fun k => if k = R then ρ i else if i ≤ k ∧ k < R then ρ (k + 1) else ρ k
theorem rρ_sg {i k : Nat} (hk : k < R) : rρ ρ i R k = ρ (sg i k) := by
  unfold rρ sg
  rw [if_neg (by omega)]
  by_cases h : i ≤ k
  · rw [if_pos ⟨h, hk⟩, if_pos h]
  · rw [if_neg (fun z => h z.1), if_neg h]
theorem c36 (h2 : relR P ρ) {i : Nat} (hsz : I 50 0 = nI (R + 1)) (h30 : R + 1 ≤ 30) (hi : i < R + 1) (hd : 1 ≤ d) : jv_F gw X d 36 [.ref 5, .ref (7 + ρ i)] (he I P N) = some (none, he (rI I (ρ i) R) (rP P i R (ρ i)) N) := by
  obtain ⟨d, rfl⟩ : ∃ q, d = q + 1 := ⟨d - 1, by omega⟩
  rw [e36 rfl]
  have hρi := (h2.1 i (by omega)).2
  have h1 : ¬ nI (R + 1) ≤ nI R := nI_ge (by omega) (by omega)
  have ha := c36a (X := X) (d := d) (I := I) (N := N) h2 hsz h30 hi i 0 (by omega)
  have hb := c36b (X := X) (d := d) (I := I) (N := N) h2 hsz h30 hi (R - i) i (by omega) (Nat.le_refl _)
  rw [pS_0] at hb
  simp (disch := first | decide | omega | assumption | (simp (disch := decide) only [u2_ne, u2_same, mQueue]; assumption)) only [kV_some, kI_some, kR_some, kR_any, kH_some, kC_none, kC_some, jv_rsv_ref, jv_rsv_rf, jv_nz_ref, jv_nz_null, jv_nz_rf0, jv_nz_rf1, jv_rq_r1, jv_rq_r0, n10, n11, n00, Nat.reduceEqDiff, Option.bind_some, Option.bind_none, jv_isr_ref, jv_isr_rf, jv_isr_null, va_rf_some, va_rf_none, jv_cat1_int, jv_cat1_ref, jv_cat1_rf, if_true, if_false, eq_self, Option.toList_some, Option.toList_none, List.cons_append, List.nil_append, Bool.and_self, Bool.and_true, i32_10, i32_01, i32_80, nI_div8, nI_mul4, nI_mul8, nI_mul32, nI_add, ↓reduceIte, u2_ne, u2_same, r36_0, r36_1, r36_2, r36_3, r36_5, r36_6, r36_9, r36_12, r36_13, r36_16, r36_17, r36_18, r36_19, r36_22, r36_23, r36_26, r36_27, r36_28, r36_31, r36_32, r36_33, r36_34, r36_37, r36_40, r36_43, r36_44, r36_45, r36_48, r36_49, r36_50, r36_53, r36_56, r36_57, r36_60, r36_61, r36_62, r36_63, r36_64, r36_65, r36_68]
  rw [show (0 : Int32) = nI 0 from rfl, ha, hb, r36_43]
  simp (disch := first | decide | omega | assumption | (simp (disch := decide) only [u2_ne, u2_same, mQueue]; assumption)) only [kV_some, kI_some, kR_some, kR_any, kH_some, kC_none, kC_some, jv_rsv_ref, jv_rsv_rf, jv_nz_ref, jv_nz_null, jv_nz_rf0, jv_nz_rf1, jv_rq_r1, jv_rq_r0, n10, n11, n00, Nat.reduceEqDiff, Option.bind_some, Option.bind_none, jv_isr_ref, jv_isr_rf, jv_isr_null, va_rf_some, va_rf_none, jv_cat1_int, jv_cat1_ref, jv_cat1_rf, if_true, if_false, eq_self, Option.toList_some, Option.toList_none, List.cons_append, List.nil_append, Bool.and_self, Bool.and_true, i32_10, i32_01, i32_80, nI_div8, nI_mul4, nI_mul8, nI_mul32, nI_add, ↓reduceIte, u2_ne, u2_same, r36_0, r36_1, r36_2, r36_3, r36_5, r36_6, r36_9, r36_12, r36_13, r36_16, r36_17, r36_18, r36_19, r36_22, r36_23, r36_26, r36_27, r36_28, r36_31, r36_32, r36_33, r36_34, r36_37, r36_40, r36_43, r36_44, r36_45, r36_48, r36_49, r36_50, r36_53, r36_56, r36_57, r36_60, r36_61, r36_62, r36_63, r36_64, r36_65, r36_68, pt_rq_5, gt_5_1, hsz, h1, gt_5_0, wl_6q, pt_5_1]
  rfl
theorem rP_ne {i q f : Nat} (h : f ≠ 10) : rP P i R q f = P f := by unfold rP; rw [u2_ne h, pS_ne h]
/-- the rows behind move up; the one that went lies behind them -/
theorem Rel.cut (h : Rel I P M ρ (R + 1) W x) {i : Nat} {x2 : Int32} {M2 : Nat → Nat → Int32} (h30 : R + 1 ≤ 30) (hi : i < R + 1) (e : ∀ f, 17 ≤ f ∧ f ≤ 27 → M2 f = cut (M f) i R) (e28 : M2 28 = va_up (M 28) 0 (nI R)) (eo : ∀ f, f < 17 ∨ 28 < f → f ≠ 43 → f ≠ 44 → M2 f = M f) (hcal : ∀ k c, k < R + 1 → c < R + 1 → M 26 k = M 17 c → ¬ c = i) (haw : ∀ k, k < R + 1 → ¬ k = i → ¬ M 17 k = x2 → ¬ M 17 k = x ∧ ¬ M 24 k = M 17 i) : Rel (rI I (ρ i) R) (rP P i R (ρ i)) M2 (rρ ρ i R) R W x2 := by
  obtain ⟨h1, h2, h3, h4, h5, h6, h7, h8, h9⟩ := h
  have hrho : ∀ k, k < R → rρ ρ i R k = ρ (sg i k) := fun k hk => rρ_sg hk
  have hsgne : ∀ k, k < R → ¬ ρ (sg i k) = ρ i := fun k hk z => by
    have hl := sg_lt (i := i) hk
    exact sg_ne (h2.2 _ _ (by omega) (by omega) z)
  have eI : ∀ a, a ≠ 43 → a ≠ 50 → rI I (ρ i) R a = I a := fun a p q => by unfold rI; rw [u2_ne q, u2_ne p]
  have eIo : ∀ a j, a ≠ 50 → ¬ j = ρ i → rI I (ρ i) R a j = I a j := fun a j p q => by unfold rI; rw [u2_ne p, u2_off q]
  refine ⟨?_, ⟨fun k hk => ?_, fun j k hj hk z => ?_⟩, fun a k ha hk => ?_, fun k hk => ?_, fun k hk => ?_, fun k hk hx => ?_, fun k hk1 hk2 => ?_, ?_, ?_⟩
  · intro a ha
    by_cases ea : a = 50
    · subst ea
      show rI I (ρ i) R 50 = M2 28
      unfold rI
      rw [e28, u2_eq, u2_ne (by decide), h1 50 (by decide)]
      rfl
    · have ha43 : a ≠ 43 := fun z => by rw [z] at ha; exact ha rfl
      have hb : (cl a < 17 ∨ 28 < cl a) ∧ cl a ≠ 43 ∧ cl a ≠ 44 := by
        unfold cl at *
        split at ha <;> first | exact absurd rfl ha | exact absurd rfl ea | decide
      rw [eI a ha43 ea, eo (cl a) hb.1 hb.2.1 hb.2.2]
      exact h1 a ha
  · unfold rP rρ
    rw [u2_at]
    by_cases hkR : k = R
    · rw [if_pos hkR, if_pos hkR]; exact ⟨rfl, (h2.1 i (by omega)).2⟩
    · rw [if_neg hkR, if_neg hkR]
      unfold pS
      by_cases hz : i ≤ k ∧ k < R
      · rw [if_pos ⟨rfl, hz⟩, if_pos hz]; exact h2.1 (k + 1) (by omega)
      · rw [if_neg (fun z => hz z.2), if_neg hz]; exact h2.1 k hk
  · have key : ∀ k, k < 30 → ∃ q, q < 30 ∧ rρ ρ i R k = ρ q ∧ q = if k = R then i else if i ≤ k ∧ k < R then k + 1 else k := by
      intro k hk
      unfold rρ
      by_cases hkR : k = R
      · exact ⟨i, by omega, by rw [if_pos hkR], by rw [if_pos hkR]⟩
      · by_cases hz : i ≤ k ∧ k < R
        · exact ⟨k + 1, by omega, by rw [if_neg hkR, if_pos hz], by rw [if_neg hkR, if_pos hz]⟩
        · exact ⟨k, hk, by rw [if_neg hkR, if_neg hz], by rw [if_neg hkR, if_neg hz]⟩
    obtain ⟨q1, a1, a2, a3⟩ := key j hj
    obtain ⟨q2, b1, b2, b3⟩ := key k hk
    rw [a2, b2] at z
    have := h2.2 q1 q2 a1 b1 z
    split at a3 <;> split at b3 <;> (try split at a3) <;> (try split at b3) <;> omega
  · have ea : (40 ≤ a ∧ a ≤ 45) ∧ 17 ≤ cq a ∧ cq a ≤ 27 := by
      unfold cq at *
      split at ha <;> first | (constructor <;> decide) | exact absurd rfl ha
    rw [hrho k hk, eIo a _ (by omega) (hsgne k hk), e _ ea.2, cut_sg hk]
    exact h3 a _ ha (sg_lt hk)
  · have hl := sg_lt (i := i) hk
    rw [hrho k hk, rP_ne (by decide), rP_ne (by decide), eI 46 (by decide) (by decide), eI 47 (by decide) (by decide), eI 48 (by decide) (by decide), e 18 (by omega), e 19 (by omega), e 27 (by omega), e 25 (by omega), e 17 (by omega), cut_sg hk, cut_sg hk, cut_sg hk, cut_sg hk, cut_sg hk]
    obtain ⟨a1, a2, a3, a4, a5⟩ := h4 _ hl
    exact ⟨a1, a2, a3, a4, fun z => a5 (haw _ hl sg_ne z).1⟩
  · have hl := sg_lt (i := i) hk
    rw [hrho k hk, rP_ne (by decide), rP_ne (by decide), e 26 (by omega), cut_sg hk]
    rcases h5 _ hl with z | z | ⟨c, c1, c2, c3, c4⟩
    · exact Or.inl z
    · exact Or.inr (Or.inl z)
    · obtain ⟨q, q1, rfl⟩ := sg_on c1 (hcal _ _ hl c1 c2) hi
      exact Or.inr (Or.inr ⟨q, q1, by rw [e 17 (by omega), cut_sg q1]; exact c2, by rw [hrho q q1]; exact c3, c4⟩)
  · have hl := sg_lt (i := i) hk
    rw [e 17 (by omega), cut_sg hk] at hx
    rw [hrho k hk, rP_ne (by decide), e 24 (by omega), cut_sg hk]
    obtain ⟨n1, n2⟩ := haw _ hl sg_ne hx
    rcases h6 _ hl n1 with z | ⟨c, c1, c2, c3⟩
    · exact Or.inl z
    · have hci : ¬ c = i := fun z => by rw [z] at c2; exact n2 c2
      obtain ⟨q, q1, rfl⟩ := sg_on c1 hci hi
      exact Or.inr ⟨q, q1, by rw [e 17 (by omega), cut_sg q1]; exact c2, by rw [hrho q q1]; exact c3⟩
  · by_cases hkR : k = R
    · have : rρ ρ i R k = ρ i := by unfold rρ; rw [if_pos hkR]
      rw [this]
      unfold rI
      rw [u2_ne (by decide), u2_same]
    · have : rρ ρ i R k = ρ k := by unfold rρ; rw [if_neg hkR, if_neg (by omega)]
      rw [this, eIo 43 _ (by decide) (fun z => by have := h2.2 k i hk2 (by omega) z; omega)]
      exact h7 k (by omega) hk2
  · unfold relL
    rw [eI 52 (by decide) (by decide), eI 54 (by decide) (by decide), eo 30 (by omega) (by decide) (by decide)]
    exact h8
  · rw [eo 37 (by omega) (by decide) (by decide)]; exact h9
end CL
