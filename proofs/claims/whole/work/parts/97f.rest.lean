/-! ===== the same call on both: restart ===== -/
section CL
variable {X : Nat × (Nat → Int32)} {d : Nat} {I : Nat → Nat → Int32} {P : Nat → Nat → Option Nat} {M N : Nat → Nat → Int32} {ρ : Nat → Nat} {R W K O Q : Nat} {y x : Int32}
theorem J.zero (h28 : N 28 0 = nI 0) (h31 : N 31 0 = nI 0) (hl : okL N) (hn : ∃ n : Nat, N 29 0 = nI n ∧ n ≤ Q ∧ Q < 2 ^ 30) (ho : N 36 0 = nI O) (hO : O ≤ 12) (hq : ∀ c, c < O → N 34 c < N 29 0) (hg : JG (N 8) (N 9) (N 10) (N 11) (N 15) (N 14) (N 16)) (ht : JT (N 4) (N 5) (N 6) (N 7)) : J N 0 0 32 O Q (-1) (-1) := by
  refine ⟨⟨h28, by omega, h31, fun i hi => by omega, hl, fun i hi => by omega, ?_, by omega⟩, ⟨fun k hk => by omega, fun j k _ hk => by omega, hn⟩, fun k hk => by omega, ⟨fun k hk => by omega, fun j k _ hk => by omega, fun k hk => by omega⟩, ⟨fun c hc => by omega, fun k hk => by omega, fun c _ _ k hk => by omega, hO⟩, ho, hq, hg, ht⟩
  have := cnt_le (N 8) 1 32 0
  have h0 : cnt (N 23) 1 0 0 = 0 := rfl
  omega
def cCl (I : Nat → Nat → Int32) (ρ : Nat → Nat) : Nat → (Nat → Nat → Int32)
  | 0 => I
  | n + 1 => u2 (cCl I ρ n) 43 (ρ n) 3
theorem cCl_at {f : Nat} (h : f ≠ 43) : ∀ n, cCl I ρ n f = I f
  | 0 => rfl
  | n + 1 => by rw [cCl, u2_ne h, cCl_at h n]
theorem cCl_43 : ∀ (n k : Nat), (k < n → cCl I ρ n 43 (ρ k) = 3) ∧ (I 43 (ρ k) = 3 → cCl I ρ n 43 (ρ k) = 3)
  | 0, k => ⟨fun h => by omega, fun h => h⟩
  | n + 1, k => by
    rw [cCl, u2_at]
    by_cases e : ρ k = ρ n
    · rw [if_pos e]; exact ⟨fun _ => rfl, fun _ => rfl⟩
    · rw [if_neg e]
      obtain ⟨a, b⟩ := cCl_43 n k
      refine ⟨fun h => a ?_, b⟩
      by_cases hk : k = n
      · exact absurd (by rw [hk]) e
      · omega
theorem c64l (hr : relR P ρ) (hsz : I 50 0 = nI R) (h30 : R ≤ 30) : ∀ (r i : Nat), i + r = R → jl gw X d 64 2 [some (.ref 5), some (.int (nI i))] [] (he (cCl I ρ i) P N) = some (none, he (u2 (cCl I ρ R) 50 0 0) P N) := by
  intro r
  induction r with
  | zero =>
    intro i hi
    have hi : i = R := by omega
    subst hi
    have e : cCl I ρ i 50 0 = nI i := by rw [cCl_at (by decide)]; exact hsz
    rw [r64_2]
    simp (disch := first | decide | omega | assumption | (simp (disch := decide) only [u2_ne, u2_same, mQueue]; assumption)) only [kV_some, kI_some, kR_some, kR_any, kH_some, kC_none, kC_some, jv_rsv_ref, jv_rsv_rf, jv_nz_ref, jv_nz_null, jv_nz_rf0, jv_nz_rf1, jv_rq_r1, jv_rq_r0, n10, n11, n00, Nat.reduceEqDiff, Option.bind_some, Option.bind_none, jv_isr_ref, jv_isr_rf, jv_isr_null, va_rf_some, va_rf_none, jv_cat1_int, jv_cat1_ref, jv_cat1_rf, if_true, if_false, eq_self, Option.toList_some, Option.toList_none, List.cons_append, List.nil_append, Bool.and_self, Bool.and_true, i32_10, i32_01, i32_80, nI_div8, nI_mul4, nI_mul8, nI_mul32, nI_add, ↓reduceIte, u2_ne, u2_same, r64_0, r64_1, r64_3, r64_4, r64_7, r64_10, r64_11, r64_14, r64_15, r64_16, r64_17, r64_20, r64_23, r64_26, r64_27, r64_28, r64_31, gt_5_1, e, Int32.le_refl, pt_5_1]
  | succ r ih =>
    intro i hi
    have e : cCl I ρ i 50 0 = nI R := by rw [cCl_at (by decide)]; exact hsz
    have h1 : ¬ nI R ≤ nI i := nI_ge (by omega) (by omega)
    obtain ⟨p1, p2⟩ := hr.1 i (by omega)
    have ihh := ih (i + 1) (by omega)
    rw [cCl] at ihh
    rw [r64_2]
    simp (disch := first | decide | omega | assumption | (simp (disch := decide) only [u2_ne, u2_same, mQueue]; assumption)) only [kV_some, kI_some, kR_some, kR_any, kH_some, kC_none, kC_some, jv_rsv_ref, jv_rsv_rf, jv_nz_ref, jv_nz_null, jv_nz_rf0, jv_nz_rf1, jv_rq_r1, jv_rq_r0, n10, n11, n00, Nat.reduceEqDiff, Option.bind_some, Option.bind_none, jv_isr_ref, jv_isr_rf, jv_isr_null, va_rf_some, va_rf_none, jv_cat1_int, jv_cat1_ref, jv_cat1_rf, if_true, if_false, eq_self, Option.toList_some, Option.toList_none, List.cons_append, List.nil_append, Bool.and_self, Bool.and_true, i32_10, i32_01, i32_80, nI_div8, nI_mul4, nI_mul8, nI_mul32, nI_add, ↓reduceIte, u2_ne, u2_same, r64_0, r64_1, r64_3, r64_4, r64_7, r64_10, r64_11, r64_14, r64_15, r64_16, r64_17, r64_20, r64_23, r64_26, r64_27, r64_28, r64_31, gt_5_1, e, h1, gt_5_0, rl_6, p1, pt_rq_5, nI_1]
    exact ihh
theorem Rel.wipe (h : Rel I P M ρ R W x) : Rel (u2 (u2 (cCl I ρ R) 50 0 0) 53 0 0) P (u2 (u2 M 28 0 0) 31 0 0) ρ 0 0 x := by
  obtain ⟨h1, h2, h3, h4, h5, h6, h7, ⟨f, f1, f2, f3⟩, h9⟩ := h
  have hs : relS (cCl I ρ R) M := by
    intro a ha
    by_cases e : a = 43
    · subst e; exact absurd rfl ha
    · rw [cCl_at e]; exact h1 a ha
  refine ⟨(hs.both rfl (by decide)).both rfl (by decide), h2, fun a k _ hk => by omega, fun k hk => by omega, fun k hk => by omega, fun k hk => by omega, fun k _ hk => ?_, ⟨f, f1, ?_, fun k hk => by omega⟩, ?_⟩
  · rw [u2_ne (by decide), u2_ne (by decide)]
    by_cases hk2 : k < R
    · exact (cCl_43 R k).1 hk2
    · exact (cCl_43 R k).2 (h7 k (by omega) hk)
  · rw [u2_ne (by decide), u2_ne (by decide), cCl_at (by decide)]; exact f2
  · rw [u2_ne (by decide), u2_ne (by decide)]; exact h9
def cLvN (I : Nat → Nat → Int32) : Nat → (Nat → Nat → Int32)
  | 0 => I
  | n + 1 => cLv (cLvN I n) n
theorem Rel.leaves (h : Rel I P M ρ R W x) : ∀ n, Rel (cLvN I n) P (mLv M n) ρ R W x
  | 0 => h
  | n + 1 => by
    have q := h.leaves n
    rw [cLvN, mLv]
    exact q.upS q.s.leave (fun a ha => cLv_at (by omega)) (fun b hb => mLeave_at (by omega)) (by rw [mLeave_at (by decide)])
theorem c63a (hd : 1 ≤ d) : ∀ (r g : Nat), g + r = 32 → ∀ a1, jl gw X d 63 24 [some (.ref 1), a1, some (.int (nI g))] [] (he (cLvN I g) P N) = jl gw X d 63 45 [some (.ref 1), a1, some (.int (nI 32))] [] (he (cLvN I 32) P N) := by
  intro r
  induction r with
  | zero =>
    intro g hg a1
    have hg : g = 32 := by omega
    subst hg
    have h1 : (32 : Int32) ≤ nI 32 := by decide
    rw [r63_24]
    simp (disch := first | decide | omega | assumption | (simp (disch := decide) only [u2_ne, u2_same, mQueue]; assumption)) only [kV_some, kI_some, kR_some, kR_any, kH_some, kC_none, kC_some, jv_rsv_ref, jv_rsv_rf, jv_nz_ref, jv_nz_null, jv_nz_rf0, jv_nz_rf1, jv_rq_r1, jv_rq_r0, n10, n11, n00, Nat.reduceEqDiff, Option.bind_some, Option.bind_none, jv_isr_ref, jv_isr_rf, jv_isr_null, va_rf_some, va_rf_none, jv_cat1_int, jv_cat1_ref, jv_cat1_rf, if_true, if_false, eq_self, Option.toList_some, Option.toList_none, List.cons_append, List.nil_append, Bool.and_self, Bool.and_true, i32_10, i32_01, i32_80, nI_div8, nI_mul4, nI_mul8, nI_mul32, nI_add, ↓reduceIte, u2_ne, u2_same, r63_0, r63_1, r63_4, r63_7, r63_8, r63_9, r63_12, r63_15, r63_16, r63_19, r63_22, r63_23, r63_25, r63_27, r63_30, r63_31, r63_34, r63_35, r63_36, r63_39, r63_42, r63_46, r63_48, r63_49, r63_52, r63_55, r63_56, r63_59, r63_60, r63_61, r63_63, r63_64, r63_67, r63_70, r63_73, r63_74, h1]
  | succ r ih =>
    intro g hg a1
    have h1 : ¬ (32 : Int32) ≤ nI g := nI_ge (b := 32) (by omega) (by decide)
    have ihh := ih (g + 1) (by omega) a1
    rw [cLvN] at ihh
    have hl := c32 (X := X) (d := d) (I := cLvN I g) (P := P) (N := N) (g := g) (by omega) hd
    rw [r63_24]
    simp (disch := first | decide | omega | assumption | (simp (disch := decide) only [u2_ne, u2_same, mQueue]; assumption)) only [kV_some, kI_some, kR_some, kR_any, kH_some, kC_none, kC_some, jv_rsv_ref, jv_rsv_rf, jv_nz_ref, jv_nz_null, jv_nz_rf0, jv_nz_rf1, jv_rq_r1, jv_rq_r0, n10, n11, n00, Nat.reduceEqDiff, Option.bind_some, Option.bind_none, jv_isr_ref, jv_isr_rf, jv_isr_null, va_rf_some, va_rf_none, jv_cat1_int, jv_cat1_ref, jv_cat1_rf, if_true, if_false, eq_self, Option.toList_some, Option.toList_none, List.cons_append, List.nil_append, Bool.and_self, Bool.and_true, i32_10, i32_01, i32_80, nI_div8, nI_mul4, nI_mul8, nI_mul32, nI_add, ↓reduceIte, u2_ne, u2_same, r63_0, r63_1, r63_4, r63_7, r63_8, r63_9, r63_12, r63_15, r63_16, r63_19, r63_22, r63_23, r63_25, r63_27, r63_30, r63_31, r63_34, r63_35, r63_36, r63_39, r63_42, r63_46, r63_48, r63_49, r63_52, r63_55, r63_56, r63_59, r63_60, r63_61, r63_63, r63_64, r63_67, r63_70, r63_73, r63_74, h1, gt_1_1, rl_3, ic_gr, hl, nI_1]
    exact ihh
theorem c63b (hd : 1 ≤ d) (hO : O ≤ 12) : ∀ (r c : Nat) (I : Nat → Nat → Int32), Rel I P (mSt M c) ρ R W x → M 36 0 = nI O → c + r = O → ∃ I', (∀ n, jl gw X d 63 47 [some (.ref 1), some (.int n), some (.int (nI c))] [] (he I P N) = some (some (.int n), he I' P N)) ∧ Rel I' P (mSt M O) ρ R W x := by
  intro r
  induction r with
  | zero =>
    intro c I h h36 hc
    have hc : c = O := by omega
    subst hc
    have e1 : I 1 0 = nI c := by rw [h.s 1 (by decide)]; show mSt M c 36 0 = _; rw [mSt_at (by decide) (by decide)]; exact h36
    refine ⟨I, fun n => ?_, h⟩
    rw [r63_47]
    simp (disch := first | decide | omega | assumption | (simp (disch := decide) only [u2_ne, u2_same, mQueue]; assumption)) only [kV_some, kI_some, kR_some, kR_any, kH_some, kC_none, kC_some, jv_rsv_ref, jv_rsv_rf, jv_nz_ref, jv_nz_null, jv_nz_rf0, jv_nz_rf1, jv_rq_r1, jv_rq_r0, n10, n11, n00, Nat.reduceEqDiff, Option.bind_some, Option.bind_none, jv_isr_ref, jv_isr_rf, jv_isr_null, va_rf_some, va_rf_none, jv_cat1_int, jv_cat1_ref, jv_cat1_rf, if_true, if_false, eq_self, Option.toList_some, Option.toList_none, List.cons_append, List.nil_append, Bool.and_self, Bool.and_true, i32_10, i32_01, i32_80, nI_div8, nI_mul4, nI_mul8, nI_mul32, nI_add, ↓reduceIte, u2_ne, u2_same, r63_0, r63_1, r63_4, r63_7, r63_8, r63_9, r63_12, r63_15, r63_16, r63_19, r63_22, r63_23, r63_25, r63_27, r63_30, r63_31, r63_34, r63_35, r63_36, r63_39, r63_42, r63_45, r63_46, r63_48, r63_49, r63_52, r63_55, r63_56, r63_59, r63_60, r63_61, r63_63, r63_64, r63_67, r63_70, r63_73, r63_74, gt_1_7, e1, Int32.le_refl]
  | succ r ih =>
    intro c I h h36 hc
    have h1 : ¬ nI O ≤ nI c := nI_ge (by omega) (by omega)
    have e1 : I 1 0 = nI O := by rw [h.s 1 (by decide)]; show mSt M c 36 0 = _; rw [mSt_at (by decide) (by decide)]; exact h36
    have e60 : I 60 c = M 32 c := by rw [h.s 60 (by decide)]; exact mSt_hi c c (Nat.le_refl _)
    have htl := c40 (X := X) (d := d) (I := I) (P := P) (N := N) (code := 104) (v := 0) (show c < 12 by omega) hd
    have hstep : Rel (cTl I c 104 0) P (mSt M (c + 1)) ρ R W x := by
      rw [mSt]
      unfold cTl
      rw [e60]
      by_cases hz : M 32 c = 0
      · rw [if_pos hz, if_pos hz, if_neg (by decide), if_neg (by decide)]
        exact (h.both (a := 60) (b := 32) rfl (by decide) (by omega) (by omega) (by decide)).both (a := 61) (b := 33) rfl (by decide) (by omega) (by omega) (by decide)
      · rw [if_neg hz, if_neg hz]; exact h
    obtain ⟨I', t1, t2⟩ := ih (c + 1) _ hstep h36 (by omega)
    refine ⟨I', fun n => ?_, t2⟩
    rw [r63_47]
    simp (disch := first | decide | omega | assumption | (simp (disch := decide) only [u2_ne, u2_same, mQueue]; assumption)) only [kV_some, kI_some, kR_some, kR_any, kH_some, kC_none, kC_some, jv_rsv_ref, jv_rsv_rf, jv_nz_ref, jv_nz_null, jv_nz_rf0, jv_nz_rf1, jv_rq_r1, jv_rq_r0, n10, n11, n00, Nat.reduceEqDiff, Option.bind_some, Option.bind_none, jv_isr_ref, jv_isr_rf, jv_isr_null, va_rf_some, va_rf_none, jv_cat1_int, jv_cat1_ref, jv_cat1_rf, if_true, if_false, eq_self, Option.toList_some, Option.toList_none, List.cons_append, List.nil_append, Bool.and_self, Bool.and_true, i32_10, i32_01, i32_80, nI_div8, nI_mul4, nI_mul8, nI_mul32, nI_add, ↓reduceIte, u2_ne, u2_same, r63_0, r63_1, r63_4, r63_7, r63_8, r63_9, r63_12, r63_15, r63_16, r63_19, r63_22, r63_23, r63_25, r63_27, r63_30, r63_31, r63_34, r63_35, r63_36, r63_39, r63_42, r63_45, r63_46, r63_48, r63_49, r63_52, r63_55, r63_56, r63_59, r63_60, r63_61, r63_63, r63_64, r63_67, r63_70, r63_73, r63_74, gt_1_7, e1, h1, gt_1_2, rl_4, ic_ot, htl, nI_1]
    exact t1 n
theorem mLv_0 {f : Nat} (hf : f = 8 ∨ f = 9 ∨ f = 10 ∨ f = 11 ∨ f = 16) : ∀ (n g : Nat), g < n → mLv M n f g = 0
  | 0, g, h => by omega
  | n + 1, g, h => by
    have e : mLeave (mLv M n) n f = va_up (mLv M n f) n 0 := by
      rcases hf with rfl | rfl | rfl | rfl | rfl
      · exact mLeave_8
      · exact mLeave_f.1
      · exact mLeave_f.2.1
      · exact mLeave_f.2.2.1
      · exact mLeave_f.2.2.2
    rw [mLv, e]
    by_cases hg : g = n
    · simp [va_up, hg]
    · simp only [va_up, if_neg hg]; exact mLv_0 hf n g (by omega)
theorem J.restart (h : J M R W K O Q y x) : J (mRestart M O) 0 0 32 O Q (-1) (-1) := by
  have h12 := h.a.2.2.2
  have e : ∀ f, f ≠ 32 → f ≠ 33 → (f < 8 ∨ 16 < f ∨ f = 12 ∨ f = 13 ∨ f = 14 ∨ f = 15) → f ≠ 28 → f ≠ 31 → mRestart M O f = M f := by
    intro f a b c p q
    unfold mRestart
    rw [mSt_at a b, mLv_at (by omega), u2_ne q, u2_ne p]
  have z : ∀ f, (f = 8 ∨ f = 9 ∨ f = 10 ∨ f = 11 ∨ f = 16) → ∀ g, g < 32 → mRestart M O f g = 0 := by
    intro f hf g hg
    unfold mRestart
    rw [mSt_at (by omega) (by omega)]
    exact mLv_0 hf 32 g hg
  refine J.zero ?_ ?_ ?_ ?_ ?_ h12 ?_ ?_ ?_
  · unfold mRestart; rw [mSt_at (by decide) (by decide), mLv_at (by decide), u2_ne (by decide), u2_same]; rfl
  · unfold mRestart; rw [mSt_at (by decide) (by decide), mLv_at (by decide), u2_same]; rfl
  · intro q hq
    rw [e 4 (by decide) (by decide) (by omega) (by decide) (by decide)]; exact h.ok.2.2.2.2.1 q hq
  · rw [e 29 (by decide) (by decide) (by omega) (by decide) (by decide)]; exact h.n.2.2
  · rw [e 36 (by decide) (by decide) (by omega) (by decide) (by decide)]; exact h.o
  · rw [e 34 (by decide) (by decide) (by omega) (by decide) (by decide), e 29 (by decide) (by decide) (by omega) (by decide) (by decide)]; exact h.q
  · intro g hg
    rw [e 15 (by decide) (by decide) (by omega) (by decide) (by decide), e 14 (by decide) (by decide) (by omega) (by decide) (by decide)]
    exact ⟨Or.inr ⟨Or.inl (z 8 (by omega) g hg), z 9 (by omega) g hg, z 10 (by omega) g hg, z 11 (by omega) g hg, z 16 (by omega) g hg⟩, (h.g g hg).2⟩
  · rw [e 4 (by decide) (by decide) (by omega) (by decide) (by decide), e 5 (by decide) (by decide) (by omega) (by decide) (by decide), e 6 (by decide) (by decide) (by omega) (by decide) (by decide), e 7 (by decide) (by decide) (by omega) (by decide) (by decide)]; exact h.t
theorem o_restart (h : RJ I P M ρ R W (R + 32) O Q (-1) (-1)) (hQ : Q + 1280 < 2 ^ 30) (hd : 8 ≤ d) : opB X d 63 109 [] I P M Q := by
  have h12 := h.2.a.2.2.2
  have h30 := h.2.h30
  have hw := (h.1.wipe).leaves 32
  have h36 : mLv (u2 (u2 M 28 0 0) 31 0 0) 32 36 0 = nI O := by rw [mLv_at (by decide), u2_ne (by decide), u2_ne (by decide)]; exact h.2.o
  obtain ⟨d1, rfl⟩ : ∃ q, d = q + 2 := ⟨d - 2, by omega⟩
  obtain ⟨I', t1, t2⟩ := c63b (X := X) (d := d1 + 1) (N := M) (M := mLv (u2 (u2 M 28 0 0) 31 0 0) 32) (O := O) (by omega) h12 O 0 _ hw h36 (by omega)
  refine ⟨_, I', P, _, ρ, 0, 0, O, ?_, t109 h.2.o h12 (by omega), ⟨t2, (h.2.restart).mono (Nat.le_refl _) (by omega) (by omega) hQ⟩⟩
  have hcl : jv_F gw X (d1 + 1) 64 [.ref 5] (he I P M) = some (none, he (u2 (cCl I ρ R) 50 0 0) P M) := by
    rw [e64]
    simp (disch := first | decide | omega | assumption | (simp (disch := decide) only [u2_ne, u2_same, mQueue]; assumption)) only [kV_some, kI_some, kR_some, kR_any, kH_some, kC_none, kC_some, jv_rsv_ref, jv_rsv_rf, jv_nz_ref, jv_nz_null, jv_nz_rf0, jv_nz_rf1, jv_rq_r1, jv_rq_r0, n10, n11, n00, Nat.reduceEqDiff, Option.bind_some, Option.bind_none, jv_isr_ref, jv_isr_rf, jv_isr_null, va_rf_some, va_rf_none, jv_cat1_int, jv_cat1_ref, jv_cat1_rf, if_true, if_false, eq_self, Option.toList_some, Option.toList_none, List.cons_append, List.nil_append, Bool.and_self, Bool.and_true, i32_10, i32_01, i32_80, nI_div8, nI_mul4, nI_mul8, nI_mul32, nI_add, ↓reduceIte, u2_ne, u2_same, r64_0, r64_1, r64_3, r64_4, r64_7, r64_10, r64_11, r64_14, r64_15, r64_16, r64_17, r64_20, r64_23, r64_26, r64_27, r64_28, r64_31]
    exact c64l h.1.r h.size h30 R 0 (by omega)
  have hq := c65 (X := X) (d := d1 + 1) (I := u2 (cCl I ρ R) 50 0 0) (P := P) (N := M) (by omega)
  have hv := c63a (X := X) (d := d1 + 1) (I := u2 (u2 (cCl I ρ R) 50 0 0) 53 0 0) (P := P) (N := M) (by omega) 32 0 (by omega) (some (.int (M 28 0)))
  have e50 : I 50 = M 28 := h.1.s 50 (by decide)
  rw [e63]
  simp (disch := first | decide | omega | assumption | (simp (disch := decide) only [u2_ne, u2_same, mQueue]; assumption)) only [kV_some, kI_some, kR_some, kR_any, kH_some, kC_none, kC_some, jv_rsv_ref, jv_rsv_rf, jv_nz_ref, jv_nz_null, jv_nz_rf0, jv_nz_rf1, jv_rq_r1, jv_rq_r0, n10, n11, n00, Nat.reduceEqDiff, Option.bind_some, Option.bind_none, jv_isr_ref, jv_isr_rf, jv_isr_null, va_rf_some, va_rf_none, jv_cat1_int, jv_cat1_ref, jv_cat1_rf, if_true, if_false, eq_self, Option.toList_some, Option.toList_none, List.cons_append, List.nil_append, Bool.and_self, Bool.and_true, i32_10, i32_01, i32_80, nI_div8, nI_mul4, nI_mul8, nI_mul32, nI_add, ↓reduceIte, u2_ne, u2_same, r63_0, r63_1, r63_4, r63_7, r63_8, r63_9, r63_12, r63_15, r63_16, r63_19, r63_22, r63_23, r63_25, r63_27, r63_30, r63_31, r63_34, r63_35, r63_36, r63_39, r63_42, r63_46, r63_48, r63_49, r63_52, r63_55, r63_56, r63_59, r63_60, r63_61, r63_63, r63_64, r63_67, r63_70, r63_73, r63_74, gt_1_3, gt_5_1, e50, ic_5, hcl, gt_1_4, ic_37, hq]
  refine (hv.trans ?_)
  rw [r63_45]
  simp (disch := first | decide | omega | assumption | (simp (disch := decide) only [u2_ne, u2_same, mQueue]; assumption)) only [kV_some, kI_some, kR_some, kR_any, kH_some, kC_none, kC_some, jv_rsv_ref, jv_rsv_rf, jv_nz_ref, jv_nz_null, jv_nz_rf0, jv_nz_rf1, jv_rq_r1, jv_rq_r0, n10, n11, n00, Nat.reduceEqDiff, Option.bind_some, Option.bind_none, jv_isr_ref, jv_isr_rf, jv_isr_null, va_rf_some, va_rf_none, jv_cat1_int, jv_cat1_ref, jv_cat1_rf, if_true, if_false, eq_self, Option.toList_some, Option.toList_none, List.cons_append, List.nil_append, Bool.and_self, Bool.and_true, i32_10, i32_01, i32_80, nI_div8, nI_mul4, nI_mul8, nI_mul32, nI_add, ↓reduceIte, u2_ne, u2_same, r63_0, r63_1, r63_4, r63_7, r63_8, r63_9, r63_12, r63_15, r63_16, r63_19, r63_22, r63_23, r63_25, r63_27, r63_30, r63_31, r63_34, r63_35, r63_36, r63_39, r63_42, r63_45, r63_46, r63_48, r63_49, r63_52, r63_55, r63_56, r63_59, r63_60, r63_61, r63_63, r63_64, r63_67, r63_70, r63_73, r63_74]
  exact t1 _
end CL
