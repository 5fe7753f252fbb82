/-! ===== the class: lookAt, settle, make ===== -/
section CL
variable {X : Nat × (Nat → Int32)} {d : Nat} {I : Nat → Nat → Int32} {P : Nat → Nat → Option Nat} {M N : Nat → Nat → Int32} {ρ : Nat → Nat} {R W K O Q : Nat} {y x : Int32}
theorem mod_ne {f a b : Nat} (hf : f < 62) (ha : a < 62) (hb : b < 62) (h : ¬ a = b) : ¬ (f + a) % 62 = (f + b) % 62 := by omega
theorem Rel.queue (h : Rel I P M ρ R W x) (hW : M 31 0 = nI W) (h62 : W < 62) (e : Int32) : ∃ I', (∀ (X : Nat × (Nat → Int32)) (d : Nat) (N : Nat → Nat → Int32), 1 ≤ d → jv_F gw X d 23 [.ref 37, .int e] (he I P N) = some (none, he I' P N)) ∧ Rel I' P (mQueue M e) ρ R (W + 1) x := by
  obtain ⟨h1, h2, h3, h4, h5, h6, h7, ⟨f, f1, f2, f3⟩, h9⟩ := h
  have i53 : I 53 0 = nI W := by rw [h1 53 (by decide)]; exact hW
  refine ⟨u2 (u2 I 54 ((f + W) % 62) e) 53 0 (nI (W + 1)), fun X d N hd => c23 f2 f1 i53 h62 hd, ?_⟩
  have eq : mQueue M e = u2 (u2 M 30 W e) 31 0 (nI (W + 1)) := by unfold mQueue; rw [hW, nn_nI (by omega), nI_1]
  rw [eq]
  have eM : ∀ b, b ≠ 30 → b ≠ 31 → u2 (u2 M 30 W e) 31 0 (nI (W + 1)) b = M b := fun b p q => by rw [u2_ne q, u2_ne p]
  have eI : ∀ a, a ≠ 54 → a ≠ 53 → u2 (u2 I 54 ((f + W) % 62) e) 53 0 (nI (W + 1)) a = I a := fun b p q => by rw [u2_ne q, u2_ne p]
  refine ⟨((h1.left rfl).right rfl).both rfl (by decide), h2, fun a k ha hk => ?_, fun k hk => ?_, fun k hk => ?_, fun k hk => ?_, fun k hk1 hk2 => ?_, ⟨f, f1, ?_, fun k hk => ?_⟩, ?_⟩
  · have ea : (40 ≤ a ∧ a ≤ 48) ∧ 17 ≤ cq a ∧ cq a ≤ 27 := by
      unfold cq at *
      split at ha <;> first | (constructor <;> decide) | exact absurd rfl ha
    rw [eI a (by omega) (by omega), eM (cq a) (by omega) (by omega)]
    exact h3 a k ha hk
  · rw [eI 46 (by decide) (by decide), eI 47 (by decide) (by decide), eI 48 (by decide) (by decide), eM 18 (by decide) (by decide), eM 19 (by decide) (by decide), eM 27 (by decide) (by decide), eM 17 (by decide) (by decide), eM 25 (by decide) (by decide)]
    exact h4 k hk
  · rw [eM 26 (by decide) (by decide), eM 17 (by decide) (by decide)]; exact h5 k hk
  · rw [eM 24 (by decide) (by decide), eM 17 (by decide) (by decide)]; exact h6 k hk
  · rw [eI 43 (by decide) (by decide)]; exact h7 k hk1 hk2
  · rw [eI 52 (by decide) (by decide)]; exact f2
  · rw [u2_ne (show (54 : Nat) ≠ 53 by decide), u2_at, u2_ne (show (30 : Nat) ≠ 31 by decide), u2_at]
    by_cases hkW : k = W
    · subst hkW; rw [if_pos rfl, if_pos rfl]
    · rw [if_neg (mod_ne f1 (by omega) h62 hkW), if_neg hkW]; exact f3 k (by omega)
  · rw [eM 37 (by decide) (by decide)]; exact h9
theorem RJ.ready (h : RJ I P M ρ R W K O Q y x) {i : Nat} (hi : i < R) (h0 : M 23 i = 0) (h8 : M 8 (nn (M 18 i)) = 2) : ∃ I', (∀ (X : Nat × (Nat → Int32)) (d : Nat) (N : Nat → Nat → Int32), 1 ≤ d → jv_F gw X d 23 [.ref 37, .int (M 17 i)] (he (u2 I 43 (ρ i) 1) P N) = some (none, he I' P N)) ∧ RJ I' P (mReady M i) ρ R (W + 1) K O Q y x := by
  have hJ := h.2.ready hi h0 h8
  have hc := hJ.ok.2.2.2.2.2.2.1
  have hK := hJ.ok.2.2.2.2.2.2.2
  have hr := h.1.row (a := 43) (b := 23) (v := 1) h.2.h30 hi (by omega) rfl
  obtain ⟨I', q1, q2⟩ := hr.queue (by rw [u2_ne (by decide)]; exact h.2.hW) (by omega) (M 17 i)
  exact ⟨I', q1, q2, hJ⟩
theorem c24l {g : Nat} (hg : g < 32) (hd : 1 ≤ d) : ∀ (r i : Nat) (I M : Nat → Nat → Int32) (W : Nat), RJ I P M ρ R W K O Q y x → M 8 g = 2 → i + r = R → ∃ I' W', (∀ a3, jl gw X d 24 2 [some (.ref 1), some (.ref (113 + g)), some (.int (nI i)), a3] [] (he I P N) = some (none, he I' P N)) ∧ RJ I' P (mLook g R r i M) ρ R W' K O Q y x := by
  intro r
  induction r with
  | zero =>
    intro i I M W h h8 hi
    have hi : i = R := by omega
    subst hi
    have hsz := h.size
    refine ⟨I, W, fun a3 => ?_, h⟩
    rw [r24_2]
    simp (disch := first | decide | omega | assumption | (simp (disch := decide) only [u2_ne, u2_same, mQueue]; assumption)) only [kV_some, kI_some, kR_some, kR_any, kH_some, kC_none, kC_some, jv_rsv_ref, jv_rsv_rf, jv_nz_ref, jv_nz_null, jv_nz_rf0, jv_nz_rf1, jv_rq_r1, jv_rq_r0, n10, n11, n00, Nat.reduceEqDiff, Option.bind_some, Option.bind_none, jv_isr_ref, jv_isr_rf, jv_isr_null, va_rf_some, va_rf_none, jv_cat1_int, jv_cat1_ref, jv_cat1_rf, if_true, if_false, eq_self, Option.toList_some, Option.toList_none, List.cons_append, List.nil_append, Bool.and_self, Bool.and_true, i32_10, i32_01, i32_80, nI_div8, nI_mul4, nI_mul8, nI_mul32, nI_add, ↓reduceIte, u2_ne, u2_same, r24_0, r24_1, r24_3, r24_4, r24_7, r24_10, r24_13, r24_14, r24_17, r24_20, r24_21, r24_22, r24_23, r24_24, r24_27, r24_28, r24_31, r24_32, r24_35, r24_38, r24_39, r24_42, r24_43, r24_46, r24_49, r24_50, r24_51, r24_54, r24_55, r24_58, r24_59, r24_62, r24_65, r24_68, r24_71, gt_1_3, gt_5_1, hsz, Int32.le_refl]
  | succ r ih =>
    intro i I M W h h8 hi
    have hsz := h.size
    have h30 := h.2.h30
    have h1 : ¬ nI R ≤ nI i := nI_ge (by omega) (by omega)
    obtain ⟨g2, m, q1, q2, q3, q4, hρ, q6, q7, q8, q9, q10, -⟩ := h.row (show i < R by omega)
    by_cases hz : M 18 i = nI g ∧ M 23 i = 0 ∧ mLookC M g R i
    · have eg : g2 = g := (nI_eq (by omega) (by omega)).mp (q3.symm.trans hz.1)
      subst eg
      have hmb := c25 (X := X) (d := d) (N := N) h (show i < R by omega) q3 hg hd
      rw [if_pos hz.2.2] at hmb
      obtain ⟨I1, k1, k2⟩ := h.ready (show i < R by omega) hz.2.1 (by rw [q3, nn_nI (by omega)]; exact h8)
      have k1' := k1 X d N hd
      obtain ⟨I', W', e1, e2⟩ := ih (i + 1) I1 (mReady M i) (W + 1) k2 (by rw [mReady_ne (by decide) (by decide) (by decide)]; exact h8) (by omega)
      refine ⟨I', W', fun a3 => ?_, by rw [mLook_t hz]; exact e2⟩
      have hst := hz.2.1
      rw [r24_2]
      simp (disch := first | decide | omega | assumption | (simp (disch := decide) only [u2_ne, u2_same, mQueue]; assumption)) only [kV_some, kI_some, kR_some, kR_any, kH_some, kC_none, kC_some, jv_rsv_ref, jv_rsv_rf, jv_nz_ref, jv_nz_null, jv_nz_rf0, jv_nz_rf1, jv_rq_r1, jv_rq_r0, n10, n11, n00, Nat.reduceEqDiff, Option.bind_some, Option.bind_none, jv_isr_ref, jv_isr_rf, jv_isr_null, va_rf_some, va_rf_none, jv_cat1_int, jv_cat1_ref, jv_cat1_rf, if_true, if_false, eq_self, Option.toList_some, Option.toList_none, List.cons_append, List.nil_append, Bool.and_self, Bool.and_true, i32_10, i32_01, i32_80, nI_div8, nI_mul4, nI_mul8, nI_mul32, nI_add, ↓reduceIte, u2_ne, u2_same, r24_0, r24_1, r24_3, r24_4, r24_7, r24_10, r24_13, r24_14, r24_17, r24_20, r24_21, r24_22, r24_23, r24_24, r24_27, r24_28, r24_31, r24_32, r24_35, r24_38, r24_39, r24_42, r24_43, r24_46, r24_49, r24_50, r24_51, r24_54, r24_55, r24_58, r24_59, r24_62, r24_65, r24_68, r24_71, gt_1_3, gt_5_1, hsz, h1, gt_5_0, rl_6, q6, gt_rq_1, q7, gt_rq_5, q10, hst, ic_5, hmb, pt_rq_5, gt_1_4, gt_rq_0, q9, ic_37, k1', nI_1]
      exact e1 _
    · obtain ⟨I', W', e1, e2⟩ := ih (i + 1) I M W h h8 (by omega)
      refine ⟨I', W', fun a3 => ?_, by rw [mLook_f hz]; exact e2⟩
      rw [r24_2]
      by_cases eg : g2 = g
      · subst eg
        by_cases hst : M 23 i = 0
        · have hmb := c25 (X := X) (d := d) (N := N) h (show i < R by omega) q3 hg hd
          rw [if_neg (fun z => hz ⟨q3, hst, z⟩)] at hmb
          simp (disch := first | decide | omega | assumption | (simp (disch := decide) only [u2_ne, u2_same, mQueue]; assumption)) only [kV_some, kI_some, kR_some, kR_any, kH_some, kC_none, kC_some, jv_rsv_ref, jv_rsv_rf, jv_nz_ref, jv_nz_null, jv_nz_rf0, jv_nz_rf1, jv_rq_r1, jv_rq_r0, n10, n11, n00, Nat.reduceEqDiff, Option.bind_some, Option.bind_none, jv_isr_ref, jv_isr_rf, jv_isr_null, va_rf_some, va_rf_none, jv_cat1_int, jv_cat1_ref, jv_cat1_rf, if_true, if_false, eq_self, Option.toList_some, Option.toList_none, List.cons_append, List.nil_append, Bool.and_self, Bool.and_true, i32_10, i32_01, i32_80, nI_div8, nI_mul4, nI_mul8, nI_mul32, nI_add, ↓reduceIte, u2_ne, u2_same, r24_0, r24_1, r24_3, r24_4, r24_7, r24_10, r24_13, r24_14, r24_17, r24_20, r24_21, r24_22, r24_23, r24_24, r24_27, r24_28, r24_31, r24_32, r24_35, r24_38, r24_39, r24_42, r24_43, r24_46, r24_49, r24_50, r24_51, r24_54, r24_55, r24_58, r24_59, r24_62, r24_65, r24_68, r24_71, gt_1_3, gt_5_1, hsz, h1, gt_5_0, rl_6, q6, gt_rq_1, q7, gt_rq_5, q10, hst, ic_5, hmb, nI_1]
          exact e1 _
        · simp (disch := first | decide | omega | assumption | (simp (disch := decide) only [u2_ne, u2_same, mQueue]; assumption)) only [kV_some, kI_some, kR_some, kR_any, kH_some, kC_none, kC_some, jv_rsv_ref, jv_rsv_rf, jv_nz_ref, jv_nz_null, jv_nz_rf0, jv_nz_rf1, jv_rq_r1, jv_rq_r0, n10, n11, n00, Nat.reduceEqDiff, Option.bind_some, Option.bind_none, jv_isr_ref, jv_isr_rf, jv_isr_null, va_rf_some, va_rf_none, jv_cat1_int, jv_cat1_ref, jv_cat1_rf, if_true, if_false, eq_self, Option.toList_some, Option.toList_none, List.cons_append, List.nil_append, Bool.and_self, Bool.and_true, i32_10, i32_01, i32_80, nI_div8, nI_mul4, nI_mul8, nI_mul32, nI_add, ↓reduceIte, u2_ne, u2_same, r24_0, r24_1, r24_3, r24_4, r24_7, r24_10, r24_13, r24_14, r24_17, r24_20, r24_21, r24_22, r24_23, r24_24, r24_27, r24_28, r24_31, r24_32, r24_35, r24_38, r24_39, r24_42, r24_43, r24_46, r24_49, r24_50, r24_51, r24_54, r24_55, r24_58, r24_59, r24_62, r24_65, r24_68, r24_71, gt_1_3, gt_5_1, hsz, h1, gt_5_0, rl_6, q6, gt_rq_1, q7, gt_rq_5, q10, hst, nI_1]
          exact e1 _
      · have eg' : ¬ 113 + g2 = 113 + g := by omega
        simp (disch := first | decide | omega | assumption | (simp (disch := decide) only [u2_ne, u2_same, mQueue]; assumption)) only [kV_some, kI_some, kR_some, kR_any, kH_some, kC_none, kC_some, jv_rsv_ref, jv_rsv_rf, jv_nz_ref, jv_nz_null, jv_nz_rf0, jv_nz_rf1, jv_rq_r1, jv_rq_r0, n10, n11, n00, Nat.reduceEqDiff, Option.bind_some, Option.bind_none, jv_isr_ref, jv_isr_rf, jv_isr_null, va_rf_some, va_rf_none, jv_cat1_int, jv_cat1_ref, jv_cat1_rf, if_true, if_false, eq_self, Option.toList_some, Option.toList_none, List.cons_append, List.nil_append, Bool.and_self, Bool.and_true, i32_10, i32_01, i32_80, nI_div8, nI_mul4, nI_mul8, nI_mul32, nI_add, ↓reduceIte, u2_ne, u2_same, r24_0, r24_1, r24_3, r24_4, r24_7, r24_10, r24_13, r24_14, r24_17, r24_20, r24_21, r24_22, r24_23, r24_24, r24_27, r24_28, r24_31, r24_32, r24_35, r24_38, r24_39, r24_42, r24_43, r24_46, r24_49, r24_50, r24_51, r24_54, r24_55, r24_58, r24_59, r24_62, r24_65, r24_68, r24_71, gt_1_3, gt_5_1, hsz, h1, gt_5_0, rl_6, q6, gt_rq_1, q7, eg', not_false_eq_true, nI_1]
        exact e1 _
theorem c24 (h : RJ I P M ρ R W K O Q y x) {g : Nat} (hg : g < 32) (h8 : M 8 g = 2) (hd : 2 ≤ d) : ∃ I' W', jv_F gw X d 24 [.ref 1, .ref (113 + g)] (he I P N) = some (none, he I' P N) ∧ RJ I' P (mLook g R R 0 M) ρ R W' K O Q y x := by
  obtain ⟨d, rfl⟩ : ∃ q, d = q + 1 := ⟨d - 1, by omega⟩
  obtain ⟨I', W', e1, e2⟩ := c24l (X := X) (d := d) (P := P) (N := N) (ρ := ρ) hg (by omega) R 0 I M W h h8 (by omega)
  refine ⟨I', W', ?_, e2⟩
  rw [e24 rfl]
  simp (disch := first | decide | omega | assumption | (simp (disch := decide) only [u2_ne, u2_same, mQueue]; assumption)) only [kV_some, kI_some, kR_some, kR_any, kH_some, kC_none, kC_some, jv_rsv_ref, jv_rsv_rf, jv_nz_ref, jv_nz_null, jv_nz_rf0, jv_nz_rf1, jv_rq_r1, jv_rq_r0, n10, n11, n00, Nat.reduceEqDiff, Option.bind_some, Option.bind_none, jv_isr_ref, jv_isr_rf, jv_isr_null, va_rf_some, va_rf_none, jv_cat1_int, jv_cat1_ref, jv_cat1_rf, if_true, if_false, eq_self, Option.toList_some, Option.toList_none, List.cons_append, List.nil_append, Bool.and_self, Bool.and_true, i32_10, i32_01, i32_80, nI_div8, nI_mul4, nI_mul8, nI_mul32, nI_add, ↓reduceIte, u2_ne, u2_same, r24_0, r24_1, r24_3, r24_4, r24_7, r24_10, r24_13, r24_14, r24_17, r24_20, r24_21, r24_22, r24_23, r24_24, r24_27, r24_28, r24_31, r24_32, r24_35, r24_38, r24_39, r24_42, r24_43, r24_46, r24_49, r24_50, r24_51, r24_54, r24_55, r24_58, r24_59, r24_62, r24_65, r24_68, r24_71]
  exact e1 none
/-! the table's fields when a grain goes -/
theorem relS.leave (h : relS I M) {g : Nat} : relS (cLv I g) (mLeave M g) := by
  unfold cLv mLeave
  rw [u2_comm (f := 10) (f2 := 9) (by decide)]
  exact ((((h.both rfl (by decide)).both rfl (by decide)).both rfl (by decide)).both rfl (by decide)).both rfl (by decide)
theorem relS.worked (h : relS I M) : relS (cWk I) (mWorked M) := by
  unfold cWk mWorked
  rw [h 5 (by decide)]
  show relS (if M 42 0 = 0 then I else u2 I 5 0 (M 42 0 - 1)) (if M 42 0 = 0 then M else u2 M 42 0 (M 42 0 - 1))
  split
  · exact h
  · exact h.both rfl (by decide)
theorem relS.saved (h : relS I M) {g : Nat} : relS (cSv I g) (mSave M g) := by
  unfold cSv mSave
  rw [h 32 (by decide), h 38 (by decide)]
  exact (h.both rfl (by decide)).both rfl (by decide)
theorem relS.went (h : relS I M) {g : Nat} : relS (cGo I g) (mGo M g) := by
  unfold cGo mGo
  rw [h 11 (by decide), h 5 (by decide)]
  show relS (if M 1 (g / 8) = 0 then cLv I g else if M 42 0 = 0 then cLv (cSv I g) g else cLv (cWk I) g) _
  split
  · exact h.leave
  · split
    · exact h.saved.leave
    · exact h.worked.leave
theorem cLv_at {g a : Nat} (h : a < 30 ∨ 34 < a) : cLv I g a = I a := by
  unfold cLv
  rw [u2_ne (by omega), u2_ne (by omega), u2_ne (by omega), u2_ne (by omega), u2_ne (by omega)]
theorem cWk_at {a : Nat} (h : a ≠ 5) : cWk I a = I a := by
  unfold cWk
  split
  · rfl
  · rw [u2_ne h]
theorem cSv_at {g a : Nat} (h : a ≠ 37) (h2 : a ≠ 38) : cSv I g a = I a := by
  unfold cSv
  rw [u2_ne h2, u2_ne h]
theorem cGo_at {g a : Nat} (h : 38 < a) : cGo I g a = I a := by
  unfold cGo
  split
  · exact cLv_at (by omega)
  · split
    · rw [cLv_at (by omega), cSv_at (by omega) (by omega)]
    · rw [cLv_at (by omega), cWk_at (by omega)]
theorem RJ.go (h : RJ I P M ρ R W K O Q y x) {g : Nat} (hg : g < 32) (h8 : M 8 g = 2) (he : ∀ k, k < R → ¬ M 18 k = nI g) : RJ (cGo I g) P (mGo M g) ρ R W K O Q y x :=
  ⟨h.1.upS h.1.s.went (fun a ha => cGo_at (by omega)) (fun b hb => mGo_at (by omega)) (by rw [mGo_at (by decide)]), h.2.go hg h8 he⟩
theorem c41 (h : RJ I P M ρ R W K O Q y x) {g : Nat} (hg : g < 32) (hd : 4 ≤ d) : ∃ I' W', jv_F gw X d 41 [.ref 1, .ref (113 + g)] (he I P N) = some (none, he I' P N) ∧ RJ I' P (mSettle M g R) ρ R W' K O Q y x := by
  obtain ⟨d, rfl⟩ : ∃ q, d = q + 1 := ⟨d - 1, by omega⟩
  have i30 := h.f8
  by_cases h8 : M 8 g = 2
  · obtain ⟨I1, W1, k1, k2⟩ := c24 (X := X) (d := d) (N := N) h hg h8 (by omega)
    have el : mLooked M g R = mLook g R R 0 M := by unfold mLooked; rw [if_pos h8]
    have e8 : mLook g R R 0 M 8 = M 8 := mLook_at (by decide) (by decide) (by decide) R 0 M
    have e31 : I1 31 = mLook g R R 0 M 16 := k2.1.s 31 (by decide)
    have hne := c42 (X := X) (d := d) (N := N) k2 hg (by omega)
    unfold mSettle
    rw [el, e8]
    by_cases hlv : mLook g R R 0 M 16 g = 0
    · rw [if_neg (fun z => z.2.1 hlv)]
      refine ⟨I1, W1, ?_, k2⟩
      rw [e41 rfl]
      simp (disch := first | decide | omega | assumption | (simp (disch := decide) only [u2_ne, u2_same, mQueue]; assumption)) only [kV_some, kI_some, kR_some, kR_any, kH_some, kC_none, kC_some, jv_rsv_ref, jv_rsv_rf, jv_nz_ref, jv_nz_null, jv_nz_rf0, jv_nz_rf1, jv_rq_r1, jv_rq_r0, n10, n11, n00, Nat.reduceEqDiff, Option.bind_some, Option.bind_none, jv_isr_ref, jv_isr_rf, jv_isr_null, va_rf_some, va_rf_none, jv_cat1_int, jv_cat1_ref, jv_cat1_rf, if_true, if_false, eq_self, Option.toList_some, Option.toList_none, List.cons_append, List.nil_append, Bool.and_self, Bool.and_true, i32_10, i32_01, i32_80, nI_div8, nI_mul4, nI_mul8, nI_mul32, nI_add, ↓reduceIte, u2_ne, u2_same, r41_0, r41_1, r41_4, r41_5, r41_8, r41_9, r41_10, r41_11, r41_14, r41_15, r41_18, r41_21, r41_22, r41_25, r41_26, r41_29, r41_32, r41_33, r41_34, r41_37, gt_gr_2, i30, h8, ic_1, k1, gt_gr_3, e31, hlv]
    · rcases mEmpty_01 (M := mLook g R R 0 M) (g := nI g) (R := R) with hem | hem
      · rw [if_neg (fun z => by rw [hem] at z; exact absurd z.2.2 (by decide))]
        refine ⟨I1, W1, ?_, k2⟩
        rw [e41 rfl]
        simp (disch := first | decide | omega | assumption | (simp (disch := decide) only [u2_ne, u2_same, mQueue]; assumption)) only [kV_some, kI_some, kR_some, kR_any, kH_some, kC_none, kC_some, jv_rsv_ref, jv_rsv_rf, jv_nz_ref, jv_nz_null, jv_nz_rf0, jv_nz_rf1, jv_rq_r1, jv_rq_r0, n10, n11, n00, Nat.reduceEqDiff, Option.bind_some, Option.bind_none, jv_isr_ref, jv_isr_rf, jv_isr_null, va_rf_some, va_rf_none, jv_cat1_int, jv_cat1_ref, jv_cat1_rf, if_true, if_false, eq_self, Option.toList_some, Option.toList_none, List.cons_append, List.nil_append, Bool.and_self, Bool.and_true, i32_10, i32_01, i32_80, nI_div8, nI_mul4, nI_mul8, nI_mul32, nI_add, ↓reduceIte, u2_ne, u2_same, r41_0, r41_1, r41_4, r41_5, r41_8, r41_9, r41_10, r41_11, r41_14, r41_15, r41_18, r41_21, r41_22, r41_25, r41_26, r41_29, r41_32, r41_33, r41_34, r41_37, gt_gr_2, i30, h8, ic_1, k1, gt_gr_3, e31, hlv, gt_1_3, ic_5, hne, hem]
      · rw [if_pos ⟨h8, hlv, hem⟩]
        refine ⟨cGo I1 g, W1, ?_, k2.go hg (by rw [e8]; exact h8) (mEmpty_no hem)⟩
        have hgo := c43 (X := X) (d := d) (I := I1) (P := P) (N := N) hg (by omega)
        rw [e41 rfl]
        simp (disch := first | decide | omega | assumption | (simp (disch := decide) only [u2_ne, u2_same, mQueue]; assumption)) only [kV_some, kI_some, kR_some, kR_any, kH_some, kC_none, kC_some, jv_rsv_ref, jv_rsv_rf, jv_nz_ref, jv_nz_null, jv_nz_rf0, jv_nz_rf1, jv_rq_r1, jv_rq_r0, n10, n11, n00, Nat.reduceEqDiff, Option.bind_some, Option.bind_none, jv_isr_ref, jv_isr_rf, jv_isr_null, va_rf_some, va_rf_none, jv_cat1_int, jv_cat1_ref, jv_cat1_rf, if_true, if_false, eq_self, Option.toList_some, Option.toList_none, List.cons_append, List.nil_append, Bool.and_self, Bool.and_true, i32_10, i32_01, i32_80, nI_div8, nI_mul4, nI_mul8, nI_mul32, nI_add, ↓reduceIte, u2_ne, u2_same, r41_0, r41_1, r41_4, r41_5, r41_8, r41_9, r41_10, r41_11, r41_14, r41_15, r41_18, r41_21, r41_22, r41_25, r41_26, r41_29, r41_32, r41_33, r41_34, r41_37, gt_gr_2, i30, h8, ic_1, k1, gt_gr_3, e31, hlv, gt_1_3, ic_5, hne, hem, hgo]
  · have el : mLooked M g R = M := by unfold mLooked; rw [if_neg h8]
    unfold mSettle
    rw [el, if_neg (fun z => h8 z.1)]
    refine ⟨I, W, ?_, h⟩
    rw [e41 rfl]
    simp (disch := first | decide | omega | assumption | (simp (disch := decide) only [u2_ne, u2_same, mQueue]; assumption)) only [kV_some, kI_some, kR_some, kR_any, kH_some, kC_none, kC_some, jv_rsv_ref, jv_rsv_rf, jv_nz_ref, jv_nz_null, jv_nz_rf0, jv_nz_rf1, jv_rq_r1, jv_rq_r0, n10, n11, n00, Nat.reduceEqDiff, Option.bind_some, Option.bind_none, jv_isr_ref, jv_isr_rf, jv_isr_null, va_rf_some, va_rf_none, jv_cat1_int, jv_cat1_ref, jv_cat1_rf, if_true, if_false, eq_self, Option.toList_some, Option.toList_none, List.cons_append, List.nil_append, Bool.and_self, Bool.and_true, i32_10, i32_01, i32_80, nI_div8, nI_mul4, nI_mul8, nI_mul32, nI_add, ↓reduceIte, u2_ne, u2_same, r41_0, r41_1, r41_4, r41_5, r41_8, r41_9, r41_10, r41_11, r41_14, r41_15, r41_18, r41_21, r41_22, r41_25, r41_26, r41_29, r41_32, r41_33, r41_34, r41_37, gt_gr_2, i30, h8]
end CL
