/-! ===== the class: copyByNumber, failWaiting, arrive ===== -/
theorem inj_surj : ∀ (n : Nat) (f : Nat → Nat), (∀ k, k < n → f k < n) → (∀ j k, j < n → k < n → f j = f k → j = k) → ∀ q, q < n → ∃ k, k < n ∧ f k = q
  | 0, _, _, _, q, hq => by omega
  | n + 1, f, h1, h2, q, hq => by
    by_cases hn : f n = n
    · by_cases hqn : q = n
      · exact ⟨n, by omega, by omega⟩
      · have h1' : ∀ k, k < n → f k < n := fun k hk => by
          have a := h1 k (by omega)
          have b : ¬ f k = n := fun z => by have := h2 k n (by omega) (by omega) (by omega); omega
          omega
        obtain ⟨k, k1, k2⟩ := inj_surj n f h1' (fun j k hj hk => h2 j k (by omega) (by omega)) q (by omega)
        exact ⟨k, by omega, k2⟩
    · have hl : f n < n := by have := h1 n (by omega); omega
      have key := inj_surj n (fun k => if f k = n then f n else f k) (fun k hk => by
        have a := h1 k (by omega)
        show (if f k = n then f n else f k) < n
        split <;> omega) (fun j k hj hk e => by
        have e' : (if f j = n then f n else f j) = (if f k = n then f n else f k) := e
        have nj : ¬ f j = f n := fun z => by have := h2 j n (by omega) (by omega) z; omega
        have nk : ¬ f k = f n := fun z => by have := h2 k n (by omega) (by omega) z; omega
        split at e' <;> split at e'
        · exact h2 j k (by omega) (by omega) (by omega)
        · omega
        · omega
        · exact h2 j k (by omega) (by omega) e')
      by_cases hqn : q = n
      · obtain ⟨k, k1, k2⟩ := key (f n) hl
        have k2' : (if f k = n then f n else f k) = f n := k2
        split at k2'
        · exact ⟨k, by omega, by omega⟩
        · have := h2 k n (by omega) (by omega) k2'
          omega
      · obtain ⟨k, k1, k2⟩ := key q (by omega)
        have k2' : (if f k = n then f n else f k) = q := k2
        split at k2'
        · exact ⟨n, by omega, k2'⟩
        · exact ⟨k, by omega, k2'⟩
theorem rqn1 (b : Nat) : (jv_rq .null (.ref b) = 1) = False := eq_false (by show ¬ (0 : Nat) = 1; decide)
theorem rqn0 (b : Nat) : (jv_rq .null (.ref b) = 0) = True := eq_true rfl
section CL
variable {X : Nat × (Nat → Int32)} {d : Nat} {I : Nat → Nat → Int32} {P : Nat → Nat → Option Nat} {M N : Nat → Nat → Int32} {ρ : Nat → Nat} {R W K O Q : Nat} {y x : Int32}
theorem relR.surj (h : relR P ρ) {q : Nat} (hq : q < 30) : ∃ k, k < 30 ∧ ρ k = q := inj_surj 30 ρ (fun k hk => (h.1 k hk).2) h.2 q hq
theorem c34l (hsz : I 50 0 = nI R) (h30 : R ≤ 30) : ∀ (r i : Nat) (P : Nat → Nat → Option Nat), relR P ρ → i + r = R → (∀ k, k < i → P 12 k = some (7 + ρ k)) → ∃ P', jl gw X d 34 2 [some (.ref 1), some (.int (nI i))] [] (he I P N) = some (some (.int (nI R)), he I P' N) ∧ (∀ f, f ≠ 12 → P' f = P f) ∧ ∀ k, k < R → P' 12 k = some (7 + ρ k) := by
  intro r
  induction r with
  | zero =>
    intro i P h hi hk
    have hi : i = R := by omega
    subst hi
    refine ⟨P, ?_, fun _ _ => rfl, hk⟩
    rw [r34_2]
    simp (disch := first | decide | omega | assumption | (simp (disch := decide) only [u2_ne, u2_same, mQueue]; assumption)) only [kV_some, kI_some, kR_some, kR_any, kH_some, kC_none, kC_some, jv_rsv_ref, jv_rsv_rf, jv_nz_ref, jv_nz_null, jv_nz_rf0, jv_nz_rf1, jv_rq_r1, jv_rq_r0, n10, n11, n00, Nat.reduceEqDiff, Option.bind_some, Option.bind_none, jv_isr_ref, jv_isr_rf, jv_isr_null, va_rf_some, va_rf_none, jv_cat1_int, jv_cat1_ref, jv_cat1_rf, if_true, if_false, eq_self, Option.toList_some, Option.toList_none, List.cons_append, List.nil_append, Bool.and_self, Bool.and_true, i32_10, i32_01, i32_80, nI_div8, nI_mul4, nI_mul8, nI_mul32, nI_add, ↓reduceIte, u2_ne, u2_same, r34_0, r34_1, r34_3, r34_4, r34_7, r34_10, r34_13, r34_14, r34_17, r34_18, r34_19, r34_22, r34_25, r34_26, r34_27, r34_28, r34_31, r34_34, r34_35, r34_38, r34_41, gt_1_3, gt_5_1, hsz, Int32.le_refl]
  | succ r ih =>
    intro i P h hi hk
    obtain ⟨p1, p2⟩ := h.1 i (by omega)
    have h1 : ¬ nI R ≤ nI i := nI_ge (by omega) (by omega)
    obtain ⟨P', e1, e2, e3⟩ := ih (i + 1) (u2 P 12 i (some (7 + ρ i))) ⟨fun k hk => by rw [u2_ne (by decide)]; exact h.1 k hk, h.2⟩ (by omega) (fun k hk2 => by
      rw [u2_at]
      by_cases hki : k = i
      · rw [if_pos hki, hki]
      · rw [if_neg hki]; exact hk k (by omega))
    refine ⟨P', ?_, fun f hf => by rw [e2 f hf, u2_ne hf], e3⟩
    rw [r34_2]
    simp (disch := first | decide | omega | assumption | (simp (disch := decide) only [u2_ne, u2_same, mQueue]; assumption)) only [kV_some, kI_some, kR_some, kR_any, kH_some, kC_none, kC_some, jv_rsv_ref, jv_rsv_rf, jv_nz_ref, jv_nz_null, jv_nz_rf0, jv_nz_rf1, jv_rq_r1, jv_rq_r0, n10, n11, n00, Nat.reduceEqDiff, Option.bind_some, Option.bind_none, jv_isr_ref, jv_isr_rf, jv_isr_null, va_rf_some, va_rf_none, jv_cat1_int, jv_cat1_ref, jv_cat1_rf, if_true, if_false, eq_self, Option.toList_some, Option.toList_none, List.cons_append, List.nil_append, Bool.and_self, Bool.and_true, i32_10, i32_01, i32_80, nI_div8, nI_mul4, nI_mul8, nI_mul32, nI_add, ↓reduceIte, u2_ne, u2_same, r34_0, r34_1, r34_3, r34_4, r34_7, r34_10, r34_13, r34_14, r34_17, r34_18, r34_19, r34_22, r34_25, r34_26, r34_27, r34_28, r34_31, r34_34, r34_35, r34_38, r34_41, gt_1_3, gt_5_1, hsz, h1, gt_1_6, gt_5_0, rl_6, p1, wl_40q, nI_1]
    exact e1
theorem c34 (h : RJ I P M ρ R W K O Q y x) (hd : 1 ≤ d) : ∃ P', jv_F gw X d 34 [.ref 1] (he I P N) = some (some (.int (nI R)), he I P' N) ∧ RJ I P' M ρ R W K O Q y x ∧ (∀ f, f ≠ 12 → P' f = P f) ∧ ∀ k, k < R → P' 12 k = some (7 + ρ k) := by
  obtain ⟨d, rfl⟩ : ∃ q, d = q + 1 := ⟨d - 1, by omega⟩
  obtain ⟨P', e1, e2, e3⟩ := c34l (X := X) (d := d) (N := N) h.size h.2.h30 R 0 P h.1.r (by omega) (fun k hk => by omega)
  refine ⟨P', ?_, ⟨h.1.p11 (fun f _ hf => e2 f hf), h.2⟩, e2, e3⟩
  rw [e34]
  simp (disch := first | decide | omega | assumption | (simp (disch := decide) only [u2_ne, u2_same, mQueue]; assumption)) only [kV_some, kI_some, kR_some, kR_any, kH_some, kC_none, kC_some, jv_rsv_ref, jv_rsv_rf, jv_nz_ref, jv_nz_null, jv_nz_rf0, jv_nz_rf1, jv_rq_r1, jv_rq_r0, n10, n11, n00, Nat.reduceEqDiff, Option.bind_some, Option.bind_none, jv_isr_ref, jv_isr_rf, jv_isr_null, va_rf_some, va_rf_none, jv_cat1_int, jv_cat1_ref, jv_cat1_rf, if_true, if_false, eq_self, Option.toList_some, Option.toList_none, List.cons_append, List.nil_append, Bool.and_self, Bool.and_true, i32_10, i32_01, i32_80, nI_div8, nI_mul4, nI_mul8, nI_mul32, nI_add, ↓reduceIte, u2_ne, u2_same, r34_0, r34_1, r34_3, r34_4, r34_7, r34_10, r34_13, r34_14, r34_17, r34_18, r34_19, r34_22, r34_25, r34_26, r34_27, r34_28, r34_31, r34_34, r34_35, r34_38, r34_41]
  exact e1
/-- an object that was there: it is there still, or it is over -/
theorem RJ.live {M0 : Nat → Nat → Int32} {ρ0 : Nat → Nat} {R0 i : Nat} {md : Int32} {Q0 : Nat} (h : RJ I P M ρ R W K O Q y x) (hk : kp M0 ρ0 R0 M ρ R) (hn : JN (M0 17) md R0 Q0) (h0 : ∀ j k, j < R0 → k < R0 → ρ0 j = ρ0 k → j = k) (hi : i < R0) (hq : ρ0 i < 30) : (∃ k, k < R ∧ ρ k = ρ0 i ∧ M 17 k = M0 17 i) ∨ (I 43 (ρ0 i) = 3 ∧ ∀ k, k < R → ¬ M 17 k = M0 17 i) := by
  obtain ⟨k, k1, k2⟩ := h.1.r.surj hq
  by_cases hkR : k < R
  · obtain ⟨j, j1, j2, j3⟩ := hk k hkR
    have := h0 j i j1 hi (j2.symm.trans k2)
    subst this
    exact Or.inl ⟨k, hkR, k2, j3⟩
  · refine Or.inr ⟨by rw [← k2]; exact h.1.f k (by omega) k1, fun k' hk' z => ?_⟩
    obtain ⟨j, j1, j2, j3⟩ := hk k' hk'
    have := hn.inj j1 hi (j3.symm.trans z)
    subst this
    have h30 := h.2.h30
    have := h.1.r.2 k' k (by omega) k1 (j2.trans k2.symm)
    omega
def nl (M : Nat → Nat → Int32) : Nat → Nat → List Int32
  | 0, _ => []
  | r + 1, i => M 17 i :: nl M r (i + 1)
theorem nl_r : ∀ (r i : Nat), nl M r i = (List.range' i r).map (M 17)
  | 0, _ => rfl
  | r + 1, i => by rw [nl, List.range'_succ, List.map_cons, nl_r r (i + 1)]
theorem nus_nl : nus M R = nl M R 0 := by unfold nus; rw [nl_r, List.range_eq_range']
theorem c33l {M0 : Nat → Nat → Int32} {ρ0 : Nat → Nat} {R0 Q0 g : Nat} {md : Int32} (hn : JN (M0 17) md R0 Q0) (hρ : ∀ j k, j < R0 → k < R0 → ρ0 j = ρ0 k → j = k) (hρ2 : ∀ k, k < R0 → ρ0 k < 30) (h30 : R0 ≤ 30) (hg : g < 32) (hd : 5 ≤ d) : ∀ (r i : Nat) (M I : Nat → Nat → Int32) (P : Nat → Nat → Option Nat) (ρ : Nat → Nat) (R W : Nat), RJ I P M ρ R W (R + 32) O Q (-1) (-1) → ¬ M 8 g = 2 → kp M0 ρ0 R0 M ρ R → (∀ k, k < R0 → P 12 k = some (7 + ρ0 k)) → i + r = R0 → ∃ I' P' ρ' R' W', (∀ a4, jl gw X d 33 7 [some (.ref 1), some (.ref (113 + g)), some (.int (nI R0)), some (.int (nI i)), a4] [] (he I P N) = some (none, he I' P' N)) ∧ RJ I' P' (mFailL g (nl M0 r i) M) ρ' R' W' (R' + 32) O Q (-1) (-1) := by
  intro r
  induction r with
  | zero =>
    intro i M I P ρ R W h h8 hk hp hi
    have hi : i = R0 := by omega
    subst hi
    refine ⟨I, P, ρ, R, W, fun a4 => ?_, h⟩
    rw [r33_7]
    simp (disch := first | decide | omega | assumption | (simp (disch := decide) only [u2_ne, u2_same, mQueue]; assumption)) only [kV_some, kI_some, kR_some, kR_any, kH_some, kC_none, kC_some, jv_rsv_ref, jv_rsv_rf, jv_nz_ref, jv_nz_null, jv_nz_rf0, jv_nz_rf1, jv_rq_r1, jv_rq_r0, n10, n11, n00, Nat.reduceEqDiff, Option.bind_some, Option.bind_none, jv_isr_ref, jv_isr_rf, jv_isr_null, va_rf_some, va_rf_none, jv_cat1_int, jv_cat1_ref, jv_cat1_rf, if_true, if_false, eq_self, Option.toList_some, Option.toList_none, List.cons_append, List.nil_append, Bool.and_self, Bool.and_true, i32_10, i32_01, i32_80, nI_div8, nI_mul4, nI_mul8, nI_mul32, nI_add, ↓reduceIte, u2_ne, u2_same, r33_0, r33_1, r33_4, r33_5, r33_6, r33_8, r33_9, r33_12, r33_13, r33_16, r33_17, r33_18, r33_20, r33_22, r33_25, r33_26, r33_29, r33_31, r33_34, r33_37, r33_38, r33_40, r33_42, r33_43, r33_46, r33_49, r33_52, Int32.le_refl]
  | succ r ih =>
    intro i M I P ρ R W h h8 hk hp hi
    have h1 : ¬ nI R0 ≤ nI i := nI_ge (by omega) (by omega)
    have p1 := hp i (by omega)
    have q1 := hρ2 i (by omega)
    rw [nl]
    rcases h.live hk hn hρ (show i < R0 by omega) q1 with ⟨k, k1, k2, k3⟩ | ⟨k2, k3⟩
    · obtain ⟨g2, m, b1, b2, b3, b4, b5, b6, b7, b8, b9, b10, -⟩ := h.row k1
      rw [k2] at b7 b10
      by_cases eg : g2 = g
      · subst eg
        have hw := h.2.wait hg h8 k1 b3
        obtain ⟨R1, rfl⟩ : ∃ q, R = q + 1 := ⟨R - 1, by omega⟩
        have hK : RJ I P M ρ (R1 + 1) W (R1 + 32 + (if M 23 k = 1 then 0 else 1)) O Q (-1) (-1) := by rw [if_neg (by rw [hw]; decide)]; exact h
        obtain ⟨I1, P1, ρ1, R2, W1, e1, e2, e3, e4⟩ := c35 (X := X) (d := d) (N := N) (v := 0) (code := 101) hK k1 (Or.inr ⟨by rw [hw]; decide, rfl⟩) (fun q hq => h.2.noline k1 (by rw [hw]; decide) hq) (Or.inr (by decide)) hd
        obtain ⟨-, -, -, -, -, s8⟩ := J.over (v := 0) (code := 101) (i := k) hK.2 k1 (Or.inr ⟨by rw [hw]; decide, rfl⟩) (fun q hq => h.2.noline k1 (by rw [hw]; decide) hq)
        have hcons : mFailL g2 (M0 17 i :: nl M0 r (i + 1)) M = mFailL g2 (nl M0 r (i + 1)) (mOver M (R1 + 1) k 0 101) := by
          rcases mFailL_cons (g := g2) (n := M0 17 i) (ns := nl M0 r (i + 1)) h.2 with ⟨j, j1, j2, j3, j4⟩ | ⟨j3, j4⟩
          · have := h.2.n.inj j1 k1 (j2.trans k3.symm)
            subst this
            exact j4
          · exact absurd b3 (j3 k k1 k3)
        rw [hcons]
        obtain ⟨I', P', ρ', R', W', t1, t2⟩ := ih (i + 1) _ I1 P1 ρ1 R2 W1 e2 (by rw [s8 g2 h8]; exact h8) (hk.trans e4) (fun q hq => by rw [e3]; exact hp q hq) (by omega)
        refine ⟨I', P', ρ', R', W', fun a4 => ?_, t2⟩
        rw [k2] at e1
        rw [hw] at b10
        rw [r33_7]
        simp (disch := first | decide | omega | assumption | (simp (disch := decide) only [u2_ne, u2_same, mQueue]; assumption)) only [kV_some, kI_some, kR_some, kR_any, kH_some, kC_none, kC_some, jv_rsv_ref, jv_rsv_rf, jv_nz_ref, jv_nz_null, jv_nz_rf0, jv_nz_rf1, jv_rq_r1, jv_rq_r0, n10, n11, n00, Nat.reduceEqDiff, Option.bind_some, Option.bind_none, jv_isr_ref, jv_isr_rf, jv_isr_null, va_rf_some, va_rf_none, jv_cat1_int, jv_cat1_ref, jv_cat1_rf, if_true, if_false, eq_self, Option.toList_some, Option.toList_none, List.cons_append, List.nil_append, Bool.and_self, Bool.and_true, i32_10, i32_01, i32_80, nI_div8, nI_mul4, nI_mul8, nI_mul32, nI_add, ↓reduceIte, u2_ne, u2_same, r33_0, r33_1, r33_4, r33_5, r33_6, r33_8, r33_9, r33_12, r33_13, r33_16, r33_17, r33_18, r33_20, r33_22, r33_25, r33_26, r33_29, r33_31, r33_34, r33_37, r33_38, r33_40, r33_42, r33_43, r33_46, r33_49, r33_52, h1, gt_1_6, rl_40, p1, gt_rq_1, b7, gt_rq_5, b10, ic_1, e1, nI_1]
        exact t1 _
      · have hcons : mFailL g (M0 17 i :: nl M0 r (i + 1)) M = mFailL g (nl M0 r (i + 1)) M := by
          rcases mFailL_cons (g := g) (n := M0 17 i) (ns := nl M0 r (i + 1)) h.2 with ⟨j, j1, j2, j3, j4⟩ | ⟨j3, j4⟩
          · have := h.2.n.inj j1 k1 (j2.trans k3.symm)
            subst this
            exact absurd ((nI_eq (by omega) (by omega)).mp (b3.symm.trans j3)) eg
          · exact j4
        rw [hcons]
        obtain ⟨I', P', ρ', R', W', t1, t2⟩ := ih (i + 1) M I P ρ R W h h8 hk hp (by omega)
        refine ⟨I', P', ρ', R', W', fun a4 => ?_, t2⟩
        have eg' : ¬ 113 + g2 = 113 + g := by omega
        rw [r33_7]
        simp (disch := first | decide | omega | assumption | (simp (disch := decide) only [u2_ne, u2_same, mQueue]; assumption)) only [kV_some, kI_some, kR_some, kR_any, kH_some, kC_none, kC_some, jv_rsv_ref, jv_rsv_rf, jv_nz_ref, jv_nz_null, jv_nz_rf0, jv_nz_rf1, jv_rq_r1, jv_rq_r0, n10, n11, n00, Nat.reduceEqDiff, Option.bind_some, Option.bind_none, jv_isr_ref, jv_isr_rf, jv_isr_null, va_rf_some, va_rf_none, jv_cat1_int, jv_cat1_ref, jv_cat1_rf, if_true, if_false, eq_self, Option.toList_some, Option.toList_none, List.cons_append, List.nil_append, Bool.and_self, Bool.and_true, i32_10, i32_01, i32_80, nI_div8, nI_mul4, nI_mul8, nI_mul32, nI_add, ↓reduceIte, u2_ne, u2_same, r33_0, r33_1, r33_4, r33_5, r33_6, r33_8, r33_9, r33_12, r33_13, r33_16, r33_17, r33_18, r33_20, r33_22, r33_25, r33_26, r33_29, r33_31, r33_34, r33_37, r33_38, r33_40, r33_42, r33_43, r33_46, r33_49, r33_52, h1, gt_1_6, rl_40, p1, gt_rq_1, b7, eg', not_false_eq_true, nI_1]
        exact t1 _
    · have hcons : mFailL g (M0 17 i :: nl M0 r (i + 1)) M = mFailL g (nl M0 r (i + 1)) M := by
        rcases mFailL_cons (g := g) (n := M0 17 i) (ns := nl M0 r (i + 1)) h.2 with ⟨j, j1, j2, j3, j4⟩ | ⟨j3, j4⟩
        · exact absurd j2 (k3 j j1)
        · exact j4
      rw [hcons]
      obtain ⟨I', P', ρ', R', W', t1, t2⟩ := ih (i + 1) M I P ρ R W h h8 hk hp (by omega)
      refine ⟨I', P', ρ', R', W', fun a4 => ?_, t2⟩
      have n3 : ¬ (3 : Int32) = 0 := by decide
      rw [r33_7]
      rcases hp0 : P 0 (ρ0 i) with _ | w
      · simp (disch := first | decide | omega | assumption | (simp (disch := decide) only [u2_ne, u2_same, mQueue]; assumption)) only [kV_some, kI_some, kR_some, kR_any, kH_some, kC_none, kC_some, jv_rsv_ref, jv_rsv_rf, jv_nz_ref, jv_nz_null, jv_nz_rf0, jv_nz_rf1, jv_rq_r1, jv_rq_r0, n10, n11, n00, Nat.reduceEqDiff, Option.bind_some, Option.bind_none, jv_isr_ref, jv_isr_rf, jv_isr_null, va_rf_some, va_rf_none, jv_cat1_int, jv_cat1_ref, jv_cat1_rf, if_true, if_false, eq_self, Option.toList_some, Option.toList_none, List.cons_append, List.nil_append, Bool.and_self, Bool.and_true, i32_10, i32_01, i32_80, nI_div8, nI_mul4, nI_mul8, nI_mul32, nI_add, ↓reduceIte, u2_ne, u2_same, r33_0, r33_1, r33_4, r33_5, r33_6, r33_8, r33_9, r33_12, r33_13, r33_16, r33_17, r33_18, r33_20, r33_22, r33_25, r33_26, r33_29, r33_31, r33_34, r33_37, r33_38, r33_40, r33_42, r33_43, r33_46, r33_49, r33_52, h1, gt_1_6, rl_40, p1, gt_rq_1, hp0, rqn1, rqn0, not_false_eq_true, nI_1]
        exact t1 _
      · by_cases hw : w = 113 + g
        · subst hw
          simp (disch := first | decide | omega | assumption | (simp (disch := decide) only [u2_ne, u2_same, mQueue]; assumption)) only [kV_some, kI_some, kR_some, kR_any, kH_some, kC_none, kC_some, jv_rsv_ref, jv_rsv_rf, jv_nz_ref, jv_nz_null, jv_nz_rf0, jv_nz_rf1, jv_rq_r1, jv_rq_r0, n10, n11, n00, Nat.reduceEqDiff, Option.bind_some, Option.bind_none, jv_isr_ref, jv_isr_rf, jv_isr_null, va_rf_some, va_rf_none, jv_cat1_int, jv_cat1_ref, jv_cat1_rf, if_true, if_false, eq_self, Option.toList_some, Option.toList_none, List.cons_append, List.nil_append, Bool.and_self, Bool.and_true, i32_10, i32_01, i32_80, nI_div8, nI_mul4, nI_mul8, nI_mul32, nI_add, ↓reduceIte, u2_ne, u2_same, r33_0, r33_1, r33_4, r33_5, r33_6, r33_8, r33_9, r33_12, r33_13, r33_16, r33_17, r33_18, r33_20, r33_22, r33_25, r33_26, r33_29, r33_31, r33_34, r33_37, r33_38, r33_40, r33_42, r33_43, r33_46, r33_49, r33_52, h1, gt_1_6, rl_40, p1, gt_rq_1, hp0, gt_rq_5, k2, n3, nI_1]
          exact t1 _
        · simp (disch := first | decide | omega | assumption | (simp (disch := decide) only [u2_ne, u2_same, mQueue]; assumption)) only [kV_some, kI_some, kR_some, kR_any, kH_some, kC_none, kC_some, jv_rsv_ref, jv_rsv_rf, jv_nz_ref, jv_nz_null, jv_nz_rf0, jv_nz_rf1, jv_rq_r1, jv_rq_r0, n10, n11, n00, Nat.reduceEqDiff, Option.bind_some, Option.bind_none, jv_isr_ref, jv_isr_rf, jv_isr_null, va_rf_some, va_rf_none, jv_cat1_int, jv_cat1_ref, jv_cat1_rf, if_true, if_false, eq_self, Option.toList_some, Option.toList_none, List.cons_append, List.nil_append, Bool.and_self, Bool.and_true, i32_10, i32_01, i32_80, nI_div8, nI_mul4, nI_mul8, nI_mul32, nI_add, ↓reduceIte, u2_ne, u2_same, r33_0, r33_1, r33_4, r33_5, r33_6, r33_8, r33_9, r33_12, r33_13, r33_16, r33_17, r33_18, r33_20, r33_22, r33_25, r33_26, r33_29, r33_31, r33_34, r33_37, r33_38, r33_40, r33_42, r33_43, r33_46, r33_49, r33_52, h1, gt_1_6, rl_40, p1, gt_rq_1, hp0, hw, not_false_eq_true, nI_1]
          exact t1 _
theorem c33 {g : Nat} (h : RJ I P M ρ R W (R + 32) O Q (-1) (-1)) (hg : g < 32) (h8 : ¬ M 8 g = 2) (hd : 6 ≤ d) : ∃ I' P' ρ' R' W', jv_F gw X d 33 [.ref 1, .ref (113 + g)] (he I P N) = some (none, he I' P' N) ∧ RJ I' P' (mFailL g (nus M R) M) ρ' R' W' (R' + 32) O Q (-1) (-1) := by
  obtain ⟨d, rfl⟩ : ∃ q, d = q + 1 := ⟨d - 1, by omega⟩
  obtain ⟨P1, e1, e2, e3, e4⟩ := c34 (X := X) (d := d) (N := N) h (by omega)
  have h30 := h.2.h30
  obtain ⟨I', P', ρ', R', W', t1, t2⟩ := c33l (X := X) (d := d) (N := N) h.2.n (fun j k hj hk => h.1.r.2 j k (by omega) (by omega)) (fun k hk => (h.1.r.1 k (by omega)).2) h30 hg (by omega) R 0 M I P1 ρ R W e2 h8 kp.refl e4 (by omega)
  rw [nus_nl]
  refine ⟨I', P', ρ', R', W', ?_, t2⟩
  rw [e33 rfl]
  simp (disch := first | decide | omega | assumption | (simp (disch := decide) only [u2_ne, u2_same, mQueue]; assumption)) only [kV_some, kI_some, kR_some, kR_any, kH_some, kC_none, kC_some, jv_rsv_ref, jv_rsv_rf, jv_nz_ref, jv_nz_null, jv_nz_rf0, jv_nz_rf1, jv_rq_r1, jv_rq_r0, n10, n11, n00, Nat.reduceEqDiff, Option.bind_some, Option.bind_none, jv_isr_ref, jv_isr_rf, jv_isr_null, va_rf_some, va_rf_none, jv_cat1_int, jv_cat1_ref, jv_cat1_rf, if_true, if_false, eq_self, Option.toList_some, Option.toList_none, List.cons_append, List.nil_append, Bool.and_self, Bool.and_true, i32_10, i32_01, i32_80, nI_div8, nI_mul4, nI_mul8, nI_mul32, nI_add, ↓reduceIte, u2_ne, u2_same, r33_0, r33_1, r33_4, r33_5, r33_6, r33_8, r33_9, r33_12, r33_13, r33_16, r33_17, r33_18, r33_20, r33_22, r33_25, r33_26, r33_29, r33_31, r33_34, r33_37, r33_38, r33_40, r33_42, r33_43, r33_46, r33_49, r33_52, ic_1, e1]
  exact t1 none
theorem Rel.leave0 (h : Rel I P M ρ R W x) {g : Nat} (h9 : M 9 g = 0) (h10 : M 10 g = 0) (h11 : M 11 g = 0) (h16 : M 16 g = 0) : Rel (cLv I g) P (u2 M 8 g 0) ρ R W x := by
  have e : mLeave M g = u2 M 8 g 0 := by
    unfold mLeave
    rw [u2_id (f := 16) (by rw [u2_ne (by decide)]; exact h16), u2_id (f := 10) (by rw [u2_ne (by decide)]; exact h10), u2_id (f := 9) (by rw [u2_ne (by decide)]; exact h9), u2_id (f := 11) (by rw [u2_ne (by decide)]; exact h11)]
  rw [← e]
  exact h.upS h.s.leave (fun a ha => cLv_at (by omega)) (fun b hb => mLeave_at (by omega)) (by rw [mLeave_at (by decide)])
theorem Rel.worked (h : Rel I P M ρ R W x) : Rel (cWk I) P (mWorked M) ρ R W x := h.upS h.s.worked (fun a ha => cWk_at (by omega)) (fun b hb => mWorked_at (by omega)) (by rw [mWorked_at (by decide)])
theorem Rel.arr (h : Rel I P M ρ R W x) {g : Nat} : Rel (u2 (cCm I g) 7 0 (I 7 0 + 1)) P (mArr M g) ρ R W x := by
  have e7 : I 7 = M 41 := h.s 7 (by decide)
  have e11 : I 11 = M 1 := h.s 11 (by decide)
  have e37 : I 37 = M 12 := h.s 37 (by decide)
  unfold cCm mArr
  rw [e7, e11, e37]
  refine h.upS (((h.s.leave.both rfl (by decide)).both rfl (by decide)).both rfl (by decide)) (fun a ha => ?_) (fun b hb => ?_) ?_
  · rw [u2_ne (by omega), u2_ne (by omega), u2_ne (by omega)]; exact cLv_at (by omega)
  · rw [u2_ne (by omega), u2_ne (by omega), u2_ne (by omega)]; exact mLeave_at (by omega)
  · rw [u2_ne (by decide), u2_ne (by decide), u2_ne (by decide), mLeave_at (by decide)]
theorem c30 {g : Nat} (h : RJ I P M ρ R W (R + 31) O Q (-2 - nI g) (-1)) (hg : g < 32) (h8 : M 8 g = 1) (hd : 7 ≤ d) : ∃ I' P' ρ' R' W', jv_F gw X d 30 [.ref 1, .ref (113 + g)] (he I P N) = some (none, he I' P' N) ∧ RJ I' P' (mCome M g R) ρ' R' W' (R' + 32) O Q (-1) (-1) := by
  obtain ⟨d, rfl⟩ : ∃ q, d = q + 1 := ⟨d - 1, by omega⟩
  have h8' : g / 8 < 4 := by omega
  have e11 : I 11 = M 1 := h.1.s 11 (by decide)
  have e5 : I 5 = M 42 := h.1.s 5 (by decide)
  unfold mCome
  by_cases hz : M 1 (g / 8) = 0 ∨ M 42 0 = 0
  · have hJ := h.2.arr hg h8
    have hR := h.1.arr (g := g)
    have e8 : mArr M g 8 g = 2 := by unfold mArr; rw [u2_ne (by decide), u2_ne (by decide), u2_same]
    obtain ⟨I', W', k1, k2⟩ := c24 (X := X) (d := d) (N := N) ⟨hR, hJ⟩ hg e8 (by omega)
    have el : mLooked (mArr M g) g R = mLook g R R 0 (mArr M g) := by unfold mLooked; rw [if_pos e8]
    rw [if_pos hz, el]
    refine ⟨I', P, ρ, R, W', ?_, k2⟩
    have hc7 : cCm I g 7 = I 7 := by unfold cCm; rw [u2_ne (by decide), u2_ne (by decide)]; exact cLv_at (by omega)
    rw [e30 rfl]
    by_cases h1 : M 1 (g / 8) = 0
    · simp (disch := first | decide | omega | assumption | (simp (disch := decide) only [u2_ne, u2_same, mQueue]; assumption)) only [kV_some, kI_some, kR_some, kR_any, kH_some, kC_none, kC_some, jv_rsv_ref, jv_rsv_rf, jv_nz_ref, jv_nz_null, jv_nz_rf0, jv_nz_rf1, jv_rq_r1, jv_rq_r0, n10, n11, n00, Nat.reduceEqDiff, Option.bind_some, Option.bind_none, jv_isr_ref, jv_isr_rf, jv_isr_null, va_rf_some, va_rf_none, jv_cat1_int, jv_cat1_ref, jv_cat1_rf, if_true, if_false, eq_self, Option.toList_some, Option.toList_none, List.cons_append, List.nil_append, Bool.and_self, Bool.and_true, i32_10, i32_01, i32_80, nI_div8, nI_mul4, nI_mul8, nI_mul32, nI_add, ↓reduceIte, u2_ne, u2_same, r30_0, r30_1, r30_4, r30_7, r30_10, r30_11, r30_14, r30_17, r30_18, r30_21, r30_22, r30_23, r30_26, r30_27, r30_28, r30_31, r30_32, r30_33, r30_36, r30_37, r30_38, r30_41, r30_42, r30_43, r30_46, gt_gr_1, gt_kd_2, e11, h1, ic_gr, c45, gt_1_13, hc7, pt_1_13, ic_1, k1]
    · have h2 := hz.resolve_left h1
      have hw := c31 (X := X) (d := d) (I := I) (P := P) (N := N) (by omega)
      have ew : cWk I = I := by unfold cWk; rw [e5, if_pos h2]
      rw [e5, if_pos h2, ew] at hw
      simp (disch := first | decide | omega | assumption | (simp (disch := decide) only [u2_ne, u2_same, mQueue]; assumption)) only [kV_some, kI_some, kR_some, kR_any, kH_some, kC_none, kC_some, jv_rsv_ref, jv_rsv_rf, jv_nz_ref, jv_nz_null, jv_nz_rf0, jv_nz_rf1, jv_rq_r1, jv_rq_r0, n10, n11, n00, Nat.reduceEqDiff, Option.bind_some, Option.bind_none, jv_isr_ref, jv_isr_rf, jv_isr_null, va_rf_some, va_rf_none, jv_cat1_int, jv_cat1_ref, jv_cat1_rf, if_true, if_false, eq_self, Option.toList_some, Option.toList_none, List.cons_append, List.nil_append, Bool.and_self, Bool.and_true, i32_10, i32_01, i32_80, nI_div8, nI_mul4, nI_mul8, nI_mul32, nI_add, ↓reduceIte, u2_ne, u2_same, r30_0, r30_1, r30_4, r30_7, r30_10, r30_11, r30_14, r30_17, r30_18, r30_21, r30_22, r30_23, r30_26, r30_27, r30_28, r30_31, r30_32, r30_33, r30_36, r30_37, r30_38, r30_41, r30_42, r30_43, r30_46, gt_gr_1, gt_kd_2, e11, h1, ic_gr, ic_1, hw, c45, gt_1_13, hc7, pt_1_13, k1]
  · have h1 : ¬ M 1 (g / 8) = 0 := fun z => hz (Or.inl z)
    have h2 : ¬ M 42 0 = 0 := fun z => hz (Or.inr z)
    have hJ := h.2.brk hg h8
    have hs : ¬ u2 (mWorked M) 8 g 0 8 g = 2 := by rw [u2_same]; decide
    have e17 : nus (u2 (mWorked M) 8 g 0) R = nus M R := by unfold nus; rw [u2_ne (by decide), mWorked_at (by decide)]
    obtain ⟨g9, g10, g11, g16⟩ : M 9 g = 0 ∧ M 10 g = 0 ∧ M 11 g = 0 ∧ M 16 g = 0 := by
      rcases (h.2.g g hg).1 with z | z
      · rw [h8] at z; exact absurd z (by decide)
      · exact z.2
    have hR : Rel (cLv (cWk I) g) P (u2 (mWorked M) 8 g 0) ρ R W (-1) := h.1.worked.leave0 (by rw [mWorked_at (by decide)]; exact g9) (by rw [mWorked_at (by decide)]; exact g10) (by rw [mWorked_at (by decide)]; exact g11) (by rw [mWorked_at (by decide)]; exact g16)
    obtain ⟨I', P', ρ', R', W', k1, k2⟩ := c33 (X := X) (d := d) (N := N) ⟨hR, hJ⟩ hg hs (by omega)
    rw [e17] at k2
    rw [if_neg hz]
    refine ⟨I', P', ρ', R', W', ?_, k2⟩
    have hw := c31 (X := X) (d := d) (I := I) (P := P) (N := N) (by omega)
    rw [e5, if_neg h2] at hw
    rw [e30 rfl]
    simp (disch := first | decide | omega | assumption | (simp (disch := decide) only [u2_ne, u2_same, mQueue]; assumption)) only [kV_some, kI_some, kR_some, kR_any, kH_some, kC_none, kC_some, jv_rsv_ref, jv_rsv_rf, jv_nz_ref, jv_nz_null, jv_nz_rf0, jv_nz_rf1, jv_rq_r1, jv_rq_r0, n10, n11, n00, Nat.reduceEqDiff, Option.bind_some, Option.bind_none, jv_isr_ref, jv_isr_rf, jv_isr_null, va_rf_some, va_rf_none, jv_cat1_int, jv_cat1_ref, jv_cat1_rf, if_true, if_false, eq_self, Option.toList_some, Option.toList_none, List.cons_append, List.nil_append, Bool.and_self, Bool.and_true, i32_10, i32_01, i32_80, nI_div8, nI_mul4, nI_mul8, nI_mul32, nI_add, ↓reduceIte, u2_ne, u2_same, r30_0, r30_1, r30_4, r30_7, r30_10, r30_11, r30_14, r30_17, r30_18, r30_21, r30_22, r30_23, r30_26, r30_27, r30_28, r30_31, r30_32, r30_33, r30_36, r30_37, r30_38, r30_41, r30_42, r30_43, r30_46, gt_gr_1, gt_kd_2, e11, h1, ic_gr, ic_1, hw, c32, k1]
end CL
