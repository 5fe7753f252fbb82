/-! ===== the same call on both: run, tick, call, limits, fails, kind, forget ===== -/
def opB (X : Nat × (Nat → Int32)) (d mc mr : Nat) (as : List Value) (I : Nat → Nat → Int32) (P : Nat → Nat → Option Nat) (M : Nat → Nat → Int32) (Q : Nat) : Prop := ∃ v : Int32, ∃ I' P' M' ρ' R' W' O', jv_F gw X d mc (.ref 1 :: as) (he I P M) = some (some (.int v), he I' P' M) ∧ jv_F gw X d mr (.ref 157 :: as) (he I' P' M) = some (some (.int v), he I' P' M') ∧ RJ I' P' M' ρ' R' W' (R' + 32) O' (Q + 1280) (-1) (-1)
section CL
variable {X : Nat × (Nat → Int32)} {d : Nat} {I : Nat → Nat → Int32} {P : Nat → Nat → Option Nat} {M N : Nat → Nat → Int32} {ρ : Nat → Nat} {R W K O Q : Nat} {y x : Int32}
theorem in0 {x : Int32} {k : Nat} (hk : k < 2 ^ 30) : (0 ≤ x ∧ x ≤ nI k) ↔ (0 ≤ x ∧ x < nI (k + 1)) := by
  constructor
  · intro ⟨a, b⟩
    obtain ⟨j, hj, rfl⟩ := nI_of (Int32.not_lt.mpr a)
    have : ¬ k < j := fun z => absurd b (nI_ge z hj)
    exact ⟨a, nI_lt (by omega) (by omega)⟩
  · intro ⟨a, b⟩
    obtain ⟨j, hj, rfl⟩ := inN (n := k + 1) (by omega) ⟨a, b⟩
    exact ⟨a, nI_le (by omega) (by omega)⟩
theorem opB.stay {mc mr : Nat} {as : List Value} {v : Int32} (h : RJ I P M ρ R W (R + 32) O Q (-1) (-1)) (hQ : Q + 1280 < 2 ^ 30) (h1 : jv_F gw X d mc (.ref 1 :: as) (he I P M) = some (some (.int v), he I P M)) (h2 : jv_F gw X d mr (.ref 157 :: as) (he I P M) = some (some (.int v), he I P M)) : opB X d mc mr as I P M Q := ⟨v, I, P, M, ρ, R, W, O, h1, h2, h.mono (by omega) hQ⟩
theorem o_run {n : Int32} (h : RJ I P M ρ R W (R + 32) O Q (-1) (-1)) (hQ : Q + 1280 < 2 ^ 30) (hd : 8 ≤ d) : opB X d 28 83 [.int n] I P M Q := by
  by_cases hn : 0 ≤ n - 1 ∧ n - 1 < 40
  · obtain ⟨j, hj, e⟩ := inN (n := 40) (by decide) hn
    have e2 : n = nI (j + 1) := by rw [← nI_1, ← e]; exact (Int32.sub_add_cancel _ _).symm
    subst e2
    obtain ⟨I', P', ρ', R', W', k1, k2⟩ := c28 (X := X) (d := d) (N := M) (n := j + 1) h (by omega) (by omega) hd
    exact ⟨_, I', P', _, ρ', R', W', O, k1, t83 h.2 (by omega) (by omega) (by omega), k2.mono (by omega) hQ⟩
  · exact opB.stay h hQ (c28x hn (by omega)) (t83x hn (by omega))
theorem o_tick {n : Int32} (h : RJ I P M ρ R W (R + 32) O Q (-1) (-1)) (hQ : Q + 1280 < 2 ^ 30) (hd : 8 ≤ d) : opB X d 53 103 [.int n] I P M Q := by
  by_cases hn : 0 ≤ n - 1 ∧ n - 1 < 20
  · obtain ⟨j, hj, e⟩ := inN (n := 20) (by decide) hn
    have e2 : n = nI (j + 1) := by rw [← nI_1, ← e]; exact (Int32.sub_add_cancel _ _).symm
    subst e2
    obtain ⟨I', P', ρ', R', W', k1, k2⟩ := c53 (X := X) (d := d) (N := M) (n := j + 1) h (by omega) (by omega) (by omega)
    exact ⟨_, I', P', _, ρ', R', W', O, k1, t103 h.2 (by omega) (by omega) (by omega), k2⟩
  · exact opB.stay h hQ (c53x hn (by omega)) (t103x hn (by omega))
theorem c17x {a b v : Int32} (h : ¬ ((0 ≤ a ∧ a < 32) ∧ 0 ≤ b ∧ b < 4)) (hd : 2 ≤ d) : jv_F gw X d 17 [.ref 1, .int a, .int b, .int v] (he I P N) = some (some (.int (-1)), he I P N) := by
  obtain ⟨d, rfl⟩ : ∃ q, d = q + 2 := ⟨d - 2, by omega⟩
  rw [e17]
  by_cases h1 : 0 ≤ a ∧ a < 32
  · have h1' : 0 ≤ a ∧ a ≤ 31 := (in0 (k := 31) (by decide)).mpr h1
    have h2' : ¬ (0 ≤ b ∧ b ≤ 3) := fun z => h ⟨h1, (in0 (k := 3) (by decide)).mp z⟩
    simp (disch := first | decide | omega | assumption | (simp (disch := decide) only [u2_ne, u2_same, mQueue]; assumption)) only [kV_some, kI_some, kR_some, kR_any, kH_some, kC_none, kC_some, jv_rsv_ref, jv_rsv_rf, jv_nz_ref, jv_nz_null, jv_nz_rf0, jv_nz_rf1, jv_rq_r1, jv_rq_r0, n10, n11, n00, Nat.reduceEqDiff, Option.bind_some, Option.bind_none, jv_isr_ref, jv_isr_rf, jv_isr_null, va_rf_some, va_rf_none, jv_cat1_int, jv_cat1_ref, jv_cat1_rf, if_true, if_false, eq_self, Option.toList_some, Option.toList_none, List.cons_append, List.nil_append, Bool.and_self, Bool.and_true, i32_10, i32_01, i32_80, nI_div8, nI_mul4, nI_mul8, nI_mul32, nI_add, ↓reduceIte, u2_ne, u2_same, r17_0, r17_1, r17_2, r17_4, r17_7, r17_10, r17_11, r17_12, r17_13, r17_16, r17_19, r17_20, r17_21, r17_22, r17_25, r17_27, r17_30, r17_31, r17_34, r17_37, r17_40, r17_42, r17_43, r17_44, r17_47, r17_48, r17_51, r17_52, r17_54, r17_55, r17_56, r17_59, r17_60, r17_61, r17_62, r17_63, r17_64, r17_67, r17_69, r17_71, r17_73, r17_76, r17_78, r17_80, r17_83, r17_86, r17_87, r17_88, r17_91, r17_92, r17_93, r17_96, r17_97, r17_100, r17_101, r17_102, s9, h1', h2', and_self]
  · have h1' : ¬ (0 ≤ a ∧ a ≤ 31) := fun z => h1 ((in0 (k := 31) (by decide)).mp z)
    simp (disch := first | decide | omega | assumption | (simp (disch := decide) only [u2_ne, u2_same, mQueue]; assumption)) only [kV_some, kI_some, kR_some, kR_any, kH_some, kC_none, kC_some, jv_rsv_ref, jv_rsv_rf, jv_nz_ref, jv_nz_null, jv_nz_rf0, jv_nz_rf1, jv_rq_r1, jv_rq_r0, n10, n11, n00, Nat.reduceEqDiff, Option.bind_some, Option.bind_none, jv_isr_ref, jv_isr_rf, jv_isr_null, va_rf_some, va_rf_none, jv_cat1_int, jv_cat1_ref, jv_cat1_rf, if_true, if_false, eq_self, Option.toList_some, Option.toList_none, List.cons_append, List.nil_append, Bool.and_self, Bool.and_true, i32_10, i32_01, i32_80, nI_div8, nI_mul4, nI_mul8, nI_mul32, nI_add, ↓reduceIte, u2_ne, u2_same, r17_0, r17_1, r17_2, r17_4, r17_7, r17_10, r17_11, r17_12, r17_13, r17_16, r17_19, r17_20, r17_21, r17_22, r17_25, r17_27, r17_30, r17_31, r17_34, r17_37, r17_40, r17_42, r17_43, r17_44, r17_47, r17_48, r17_51, r17_52, r17_54, r17_55, r17_56, r17_59, r17_60, r17_61, r17_62, r17_63, r17_64, r17_67, r17_69, r17_71, r17_73, r17_76, r17_78, r17_80, r17_83, r17_86, r17_87, r17_88, r17_91, r17_92, r17_93, r17_96, r17_97, r17_100, r17_101, r17_102, s9, h1']
theorem c17f {g m : Nat} {v : Int32} (h : RJ I P M ρ R W K O Q y x) (hg : g < 32) (hm : m < 4) (hf : O = 12 ∨ R = 30) (hd : 2 ≤ d) : jv_F gw X d 17 [.ref 1, .int (nI g), .int (nI m), .int v] (he I P N) = some (some (.int (-2)), he I P N) := by
  obtain ⟨d, rfl⟩ : ∃ q, d = q + 2 := ⟨d - 2, by omega⟩
  have h12 := h.2.a.2.2.2
  have h30 := h.2.h30
  have e1 : I 1 0 = nI O := by rw [h.1.s 1 (by decide)]; exact h.2.o
  have a1 : 0 ≤ nI g ∧ nI g ≤ 31 := ⟨nI_pos' (by omega), nI_le (b := 31) (by omega) (by decide)⟩
  have a2 : 0 ≤ nI m ∧ nI m ≤ 3 := ⟨nI_pos' (by omega), nI_le (b := 3) (by omega) (by decide)⟩
  rw [e17]
  by_cases hO : O = 12
  · subst hO
    have c : (12 : Int32) ≤ nI 12 := by decide
    simp (disch := first | decide | omega | assumption | (simp (disch := decide) only [u2_ne, u2_same, mQueue]; assumption)) only [kV_some, kI_some, kR_some, kR_any, kH_some, kC_none, kC_some, jv_rsv_ref, jv_rsv_rf, jv_nz_ref, jv_nz_null, jv_nz_rf0, jv_nz_rf1, jv_rq_r1, jv_rq_r0, n10, n11, n00, Nat.reduceEqDiff, Option.bind_some, Option.bind_none, jv_isr_ref, jv_isr_rf, jv_isr_null, va_rf_some, va_rf_none, jv_cat1_int, jv_cat1_ref, jv_cat1_rf, if_true, if_false, eq_self, Option.toList_some, Option.toList_none, List.cons_append, List.nil_append, Bool.and_self, Bool.and_true, i32_10, i32_01, i32_80, nI_div8, nI_mul4, nI_mul8, nI_mul32, nI_add, ↓reduceIte, u2_ne, u2_same, r17_0, r17_1, r17_2, r17_4, r17_7, r17_10, r17_11, r17_12, r17_13, r17_16, r17_19, r17_20, r17_21, r17_22, r17_25, r17_27, r17_30, r17_31, r17_34, r17_37, r17_40, r17_42, r17_43, r17_44, r17_47, r17_48, r17_51, r17_52, r17_54, r17_55, r17_56, r17_59, r17_60, r17_61, r17_62, r17_63, r17_64, r17_67, r17_69, r17_71, r17_73, r17_76, r17_78, r17_80, r17_83, r17_86, r17_87, r17_88, r17_91, r17_92, r17_93, r17_96, r17_97, r17_100, r17_101, r17_102, s9, a1, a2, and_self, gt_1_7, e1, c]
  · have c : ¬ (12 : Int32) ≤ nI O := nI_ge (b := 12) (by omega) (by decide)
    have hR := hf.resolve_left hO
    have hfull := c18 (X := X) (d := d + 1) (P := P) (N := N) h.size h30 (by omega)
    rw [if_neg (by omega)] at hfull
    simp (disch := first | decide | omega | assumption | (simp (disch := decide) only [u2_ne, u2_same, mQueue]; assumption)) only [kV_some, kI_some, kR_some, kR_any, kH_some, kC_none, kC_some, jv_rsv_ref, jv_rsv_rf, jv_nz_ref, jv_nz_null, jv_nz_rf0, jv_nz_rf1, jv_rq_r1, jv_rq_r0, n10, n11, n00, Nat.reduceEqDiff, Option.bind_some, Option.bind_none, jv_isr_ref, jv_isr_rf, jv_isr_null, va_rf_some, va_rf_none, jv_cat1_int, jv_cat1_ref, jv_cat1_rf, if_true, if_false, eq_self, Option.toList_some, Option.toList_none, List.cons_append, List.nil_append, Bool.and_self, Bool.and_true, i32_10, i32_01, i32_80, nI_div8, nI_mul4, nI_mul8, nI_mul32, nI_add, ↓reduceIte, u2_ne, u2_same, r17_0, r17_1, r17_2, r17_4, r17_7, r17_10, r17_11, r17_12, r17_13, r17_16, r17_19, r17_20, r17_21, r17_22, r17_25, r17_27, r17_30, r17_31, r17_34, r17_37, r17_40, r17_42, r17_43, r17_44, r17_47, r17_48, r17_51, r17_52, r17_54, r17_55, r17_56, r17_59, r17_60, r17_61, r17_62, r17_63, r17_64, r17_67, r17_69, r17_71, r17_73, r17_76, r17_78, r17_80, r17_83, r17_86, r17_87, r17_88, r17_91, r17_92, r17_93, r17_96, r17_97, r17_100, r17_101, r17_102, s9, a1, a2, and_self, gt_1_7, e1, c, gt_1_3, ic_5, hfull]
theorem mCall_alt {g : Nat} {m v : Int32} : mCall M R O g m v = u2 (u2 (u2 (u2 (u2 (u2 (mMake M R g m v (-1) 0) 32 O 0) 33 O 0) 34 O (M 29 0)) 35 O 0) 36 0 (nI (O + 1))) 26 R (-2 - nI O) := by
  unfold mCall mOpen
  rw [mMake_by, mMake_u2 (f := 36) rfl, mMake_u2 (f := 34) rfl, mMake_u2 (f := 35) rfl, mMake_u2 (f := 33) rfl, mMake_u2 (f := 32) rfl, u2_comm (f := 35) (f2 := 34) (by decide)]
theorem c17 {g mm : Nat} {v : Int32} (h : RJ I P M ρ R W (R + 32) O Q (-1) (-1)) (hg : g < 32) (hm : mm < 4) (hO : O < 12) (hR : R < 30) (hQ : Q + 1 < 2 ^ 30) (hd : 5 ≤ d) : ∃ I' P' W', jv_F gw X d 17 [.ref 1, .int (nI g), .int (nI mm), .int v] (he I P N) = some (some (.int (nI O)), he I' P' N) ∧ RJ I' P' (mCall M R O g (nI mm) v) ρ (R + 1) W' (R + 33) (O + 1) (Q + 1) (-1) (-1) := by
  obtain ⟨d, rfl⟩ : ∃ q, d = q + 1 := ⟨d - 1, by omega⟩
  have e1 : I 1 0 = nI O := by rw [h.1.s 1 (by decide)]; exact h.2.o
  have a1 : 0 ≤ nI g ∧ nI g ≤ 31 := ⟨nI_pos' (by omega), nI_le (b := 31) (by omega) (by decide)⟩
  have a2 : 0 ≤ nI mm ∧ nI mm ≤ 3 := ⟨nI_pos' (by omega), nI_le (b := 3) (by omega) (by decide)⟩
  have c : ¬ (12 : Int32) ≤ nI O := nI_ge (b := 12) (by omega) (by decide)
  have hfull := c18 (X := X) (d := d) (P := P) (N := N) h.size (by omega) (by omega)
  rw [if_pos hR] at hfull
  obtain ⟨I1, P1, W1, k1, k2⟩ := c19 (X := X) (d := d) (N := N) (mm := mm) (v := v) (ch := 0) h hR hg hm h.2.md (m1_ng hg) (by omega) hQ (by omega)
  obtain ⟨W2, hJ⟩ := h.2.call (v := v) hO hR hg hm hQ
  have hρR : ρ R < 30 := (h.1.r.1 R hR).2
  have e40 : I1 40 (ρ R) = M 29 0 := (k2.1.q 40 R (by decide) (by omega)).trans mMake_17
  have i1 : I1 1 0 = nI O := by rw [k2.1.s 1 (by decide)]; exact k2.2.o
  have hb := ((((k2.1.both (a := 60) (b := 32) (k := O) (v := 0) rfl (by decide) (by omega) (by omega) (by decide)).both (a := 61) (b := 33) (k := O) (v := 0) rfl (by decide) (by omega) (by omega) (by decide)).both (a := 62) (b := 34) (k := O) (v := M 29 0) rfl (by decide) (by omega) (by omega) (by decide)).both (a := 63) (b := 35) (k := O) (v := 0) rfl (by decide) (by omega) (by omega) (by decide)).both (a := 1) (b := 36) (k := 0) (v := nI (O + 1)) rfl (by decide) (by omega) (by omega) (by decide)
  have hb2 := hb.outset (c := O) hR hO (by rw [u2_ne (by decide), u2_ne (by decide), u2_ne (by decide), u2_ne (by decide), u2_ne (by decide)]; exact mMake_26) (fun k hk => by rw [u2_ne (by decide), u2_ne (by decide), u2_ne (by decide), u2_ne (by decide), u2_ne (by decide)]; exact (k2.2.n.1 k hk).1)
  rw [mCall_alt] at hJ ⊢
  have hW : W2 = W1 := hJ.W_eq (by rw [u2_ne (by decide), u2_ne (by decide), u2_ne (by decide), u2_ne (by decide), u2_ne (by decide), u2_ne (by decide)]; exact k2.2.hW) (by have := k2.2.ok.W; omega)
  subst hW
  refine ⟨_, _, W2, ?_, hb2, hJ⟩
  obtain ⟨d, rfl⟩ : ∃ q, d = q + 1 := ⟨d - 1, by omega⟩
  have hp : nI (O + 1) - 1 = nI O := nI_pred O
  rw [e17]
  simp (disch := first | decide | omega | assumption | (simp (disch := decide) only [u2_ne, u2_same, mQueue]; assumption)) only [kV_some, kI_some, kR_some, kR_any, kH_some, kC_none, kC_some, jv_rsv_ref, jv_rsv_rf, jv_nz_ref, jv_nz_null, jv_nz_rf0, jv_nz_rf1, jv_rq_r1, jv_rq_r0, n10, n11, n00, Nat.reduceEqDiff, Option.bind_some, Option.bind_none, jv_isr_ref, jv_isr_rf, jv_isr_null, va_rf_some, va_rf_none, jv_cat1_int, jv_cat1_ref, jv_cat1_rf, if_true, if_false, eq_self, Option.toList_some, Option.toList_none, List.cons_append, List.nil_append, Bool.and_self, Bool.and_true, i32_10, i32_01, i32_80, nI_div8, nI_mul4, nI_mul8, nI_mul32, nI_add, ↓reduceIte, u2_ne, u2_same, r17_0, r17_1, r17_2, r17_4, r17_7, r17_10, r17_11, r17_12, r17_13, r17_16, r17_19, r17_20, r17_21, r17_22, r17_25, r17_27, r17_30, r17_31, r17_34, r17_37, r17_40, r17_42, r17_43, r17_44, r17_47, r17_48, r17_51, r17_52, r17_54, r17_55, r17_56, r17_59, r17_60, r17_61, r17_62, r17_63, r17_64, r17_67, r17_69, r17_71, r17_73, r17_76, r17_78, r17_80, r17_83, r17_86, r17_87, r17_88, r17_91, r17_92, r17_93, r17_96, r17_97, r17_100, r17_101, r17_102, s9, a1, a2, and_self, gt_1_7, e1, c, gt_1_3, ic_5, hfull, gt_1_2, rl_4, gt_1_1, rl_3, ic_1, k1, pt_rq_11r, gt_rq_0, e40, ic_ot, c26, i1, nI_1, pt_1_7, hp]
theorem o_call {a b v : Int32} (h : RJ I P M ρ R W (R + 32) O Q (-1) (-1)) (hQ : Q + 1280 < 2 ^ 30) (hd : 8 ≤ d) : opB X d 17 107 [.int a, .int b, .int v] I P M Q := by
  by_cases h1 : (0 ≤ a ∧ a < 32) ∧ 0 ≤ b ∧ b < 4
  · obtain ⟨g, g1, rfl⟩ := inN (n := 32) (by decide) h1.1
    obtain ⟨m, m1, rfl⟩ := inN (n := 4) (by decide) h1.2
    have h12 := h.2.a.2.2.2
    have h30 := h.2.h30
    by_cases hf : O = 12 ∨ R = 30
    · refine opB.stay h hQ (c17f h g1 m1 hf (by omega)) (t107f h1.1 h1.2 ?_ (by omega))
      rcases hf with hf | hf
      · left; rw [h.2.o, hf]; rfl
      · right; rw [h.2.hR, hf]; rfl
    · obtain ⟨I', P', W', k1, k2⟩ := c17 (X := X) (d := d) (N := M) (v := v) h g1 m1 (by omega) (by omega) (by omega) (by omega)
      exact ⟨_, I', P', _, ρ, R + 1, W', O + 1, k1, t107a h.2 (by omega) (by omega) g1 m1 (by omega), k2.mono (by omega) hQ⟩
  · exact opB.stay h hQ (c17x h1 (by omega)) (t107x h1 (by omega))
theorem o_fails {n : Int32} (h : RJ I P M ρ R W (R + 32) O Q (-1) (-1)) (hQ : Q + 1280 < 2 ^ 30) (hd : 8 ≤ d) : opB X d 16 82 [.int n] I P M Q := by
  have e5 : I 5 = M 42 := h.1.s 5 (by decide)
  by_cases hn : 0 ≤ n ∧ n < 21
  · refine ⟨_, u2 I 5 0 n, P, _, ρ, R, W, O, ?_, t82a hn (by omega), (h.both (a := 5) (b := 42) rfl (by decide) (by omega) (by omega) (by decide) rfl rfl).mono (by omega) hQ⟩
    obtain ⟨d, rfl⟩ : ∃ q, d = q + 2 := ⟨d - 2, by omega⟩
    have h1' : 0 ≤ n ∧ n ≤ 20 := (in0 (k := 20) (by decide)).mpr hn
    rw [e16]
    simp (disch := first | decide | omega | assumption | (simp (disch := decide) only [u2_ne, u2_same, mQueue]; assumption)) only [kV_some, kI_some, kR_some, kR_any, kH_some, kC_none, kC_some, jv_rsv_ref, jv_rsv_rf, jv_nz_ref, jv_nz_null, jv_nz_rf0, jv_nz_rf1, jv_rq_r1, jv_rq_r0, n10, n11, n00, Nat.reduceEqDiff, Option.bind_some, Option.bind_none, jv_isr_ref, jv_isr_rf, jv_isr_null, va_rf_some, va_rf_none, jv_cat1_int, jv_cat1_ref, jv_cat1_rf, if_true, if_false, eq_self, Option.toList_some, Option.toList_none, List.cons_append, List.nil_append, Bool.and_self, Bool.and_true, i32_10, i32_01, i32_80, nI_div8, nI_mul4, nI_mul8, nI_mul32, nI_add, ↓reduceIte, u2_ne, u2_same, r16_0, r16_1, r16_2, r16_4, r16_7, r16_10, r16_11, r16_12, r16_13, r16_16, r16_17, r16_18, r16_19, r16_22, r16_23, s9, h1', and_self, gt_1_11, e5, pt_1_11]
  · refine opB.stay h hQ ?_ (t82b hn (by omega))
    obtain ⟨d, rfl⟩ : ∃ q, d = q + 2 := ⟨d - 2, by omega⟩
    have h1' : ¬ (0 ≤ n ∧ n ≤ 20) := fun z => hn ((in0 (k := 20) (by decide)).mp z)
    rw [e16]
    simp (disch := first | decide | omega | assumption | (simp (disch := decide) only [u2_ne, u2_same, mQueue]; assumption)) only [kV_some, kI_some, kR_some, kR_any, kH_some, kC_none, kC_some, jv_rsv_ref, jv_rsv_rf, jv_nz_ref, jv_nz_null, jv_nz_rf0, jv_nz_rf1, jv_rq_r1, jv_rq_r0, n10, n11, n00, Nat.reduceEqDiff, Option.bind_some, Option.bind_none, jv_isr_ref, jv_isr_rf, jv_isr_null, va_rf_some, va_rf_none, jv_cat1_int, jv_cat1_ref, jv_cat1_rf, if_true, if_false, eq_self, Option.toList_some, Option.toList_none, List.cons_append, List.nil_append, Bool.and_self, Bool.and_true, i32_10, i32_01, i32_80, nI_div8, nI_mul4, nI_mul8, nI_mul32, nI_add, ↓reduceIte, u2_ne, u2_same, r16_0, r16_1, r16_2, r16_4, r16_7, r16_10, r16_11, r16_12, r16_13, r16_16, r16_17, r16_18, r16_19, r16_22, r16_23, s9, h1']
theorem Rel.lim (h : Rel I P M ρ R W x) {l : Int32} (hl : 0 ≤ l) : Rel (u2 I 3 0 l) P (u2 M 37 0 l) ρ R W x := by
  have hs : relS (u2 I 3 0 l) (u2 M 37 0 l) := h.s.both rfl (by decide)
  obtain ⟨h1, h2, h3, h4, h5, h6, h7, h8, h9⟩ := h
  refine ⟨hs, h2, fun a k ha hk => ?_, fun k hk => ?_, fun k hk => ?_, fun k hk hx => ?_, fun k hk1 hk2 => ?_, ?_, ?_⟩
  · have ea : (40 ≤ a ∧ a ≤ 45) ∧ 17 ≤ cq a ∧ cq a ≤ 23 := by
      unfold cq at *
      split at ha <;> first | (constructor <;> decide) | exact absurd rfl ha
    rw [u2_ne (by omega), u2_ne (by omega)]
    exact h3 a k ha hk
  · rw [u2_ne (show (46 : Nat) ≠ 3 by decide), u2_ne (show (47 : Nat) ≠ 3 by decide), u2_ne (show (48 : Nat) ≠ 3 by decide), u2_ne (show (18 : Nat) ≠ 37 by decide), u2_ne (show (19 : Nat) ≠ 37 by decide), u2_ne (show (27 : Nat) ≠ 37 by decide), u2_ne (show (17 : Nat) ≠ 37 by decide), u2_ne (show (25 : Nat) ≠ 37 by decide)]; exact h4 k hk
  · rw [u2_ne (show (26 : Nat) ≠ 37 by decide), u2_ne (show (17 : Nat) ≠ 37 by decide)]; exact h5 k hk
  · rw [u2_ne (show (17 : Nat) ≠ 37 by decide)] at hx ⊢
    rw [u2_ne (show (24 : Nat) ≠ 37 by decide)]; exact h6 k hk hx
  · rw [u2_ne (by decide)]; exact h7 k hk1 hk2
  · unfold relL
    rw [u2_ne (by decide), u2_ne (by decide), u2_ne (by decide)]; exact h8
  · rw [u2_same]; exact hl
theorem o_limits {l a : Int32} (h : RJ I P M ρ R W (R + 32) O Q (-1) (-1)) (hQ : Q + 1280 < 2 ^ 30) (hd : 8 ≤ d) : opB X d 15 81 [.int l, .int a] I P M Q := by
  by_cases hn : (0 ≤ l ∧ l < 101) ∧ 0 ≤ a ∧ a < 101
  · have hJ1 : J (u2 M 37 0 l) R W (R + 32) O Q (-1) (-1) := by
      refine h.2.upd (fun f hf => u2_ne (kF_ne hf rfl)) (fun i _ => Or.inl (by rw [u2_ne (by decide)])) ?_
      rw [u2_ne (by decide), u2_ne (by decide), u2_ne (by decide), u2_ne (by decide), u2_ne (by decide), u2_ne (by decide)]; exact h.2.g
    have h1 : RJ (u2 I 3 0 l) P (u2 M 37 0 l) ρ R W (R + 32) O Q (-1) (-1) := ⟨h.1.lim hn.1.1, hJ1⟩
    refine ⟨_, u2 (u2 I 3 0 l) 4 0 a, P, _, ρ, R, W, O, ?_, t81a hn (by omega), (h1.both (a := 4) (b := 38) rfl (by decide) (by omega) (by omega) (by decide) rfl rfl).mono (by omega) hQ⟩
    obtain ⟨d, rfl⟩ : ∃ q, d = q + 2 := ⟨d - 2, by omega⟩
    have h1' : 0 ≤ l ∧ l ≤ 100 := (in0 (k := 100) (by decide)).mpr hn.1
    have h2' : 0 ≤ a ∧ a ≤ 100 := (in0 (k := 100) (by decide)).mpr hn.2
    rw [e15]
    simp (disch := first | decide | omega | assumption | (simp (disch := decide) only [u2_ne, u2_same, mQueue]; assumption)) only [kV_some, kI_some, kR_some, kR_any, kH_some, kC_none, kC_some, jv_rsv_ref, jv_rsv_rf, jv_nz_ref, jv_nz_null, jv_nz_rf0, jv_nz_rf1, jv_rq_r1, jv_rq_r0, n10, n11, n00, Nat.reduceEqDiff, Option.bind_some, Option.bind_none, jv_isr_ref, jv_isr_rf, jv_isr_null, va_rf_some, va_rf_none, jv_cat1_int, jv_cat1_ref, jv_cat1_rf, if_true, if_false, eq_self, Option.toList_some, Option.toList_none, List.cons_append, List.nil_append, Bool.and_self, Bool.and_true, i32_10, i32_01, i32_80, nI_div8, nI_mul4, nI_mul8, nI_mul32, nI_add, ↓reduceIte, u2_ne, u2_same, r15_0, r15_1, r15_2, r15_4, r15_7, r15_10, r15_11, r15_12, r15_14, r15_17, r15_20, r15_21, r15_22, r15_23, r15_24, r15_27, r15_28, r15_29, r15_32, r15_33, s9, h1', h2', and_self, pt_1_9, pt_1_10, or_true]
  · refine opB.stay h hQ ?_ (t81b hn (by omega))
    obtain ⟨d, rfl⟩ : ∃ q, d = q + 2 := ⟨d - 2, by omega⟩
    rw [e15]
    by_cases h1 : 0 ≤ l ∧ l < 101
    · have h1' : 0 ≤ l ∧ l ≤ 100 := (in0 (k := 100) (by decide)).mpr h1
      have h2' : ¬ (0 ≤ a ∧ a ≤ 100) := fun z => hn ⟨h1, (in0 (k := 100) (by decide)).mp z⟩
      simp (disch := first | decide | omega | assumption | (simp (disch := decide) only [u2_ne, u2_same, mQueue]; assumption)) only [kV_some, kI_some, kR_some, kR_any, kH_some, kC_none, kC_some, jv_rsv_ref, jv_rsv_rf, jv_nz_ref, jv_nz_null, jv_nz_rf0, jv_nz_rf1, jv_rq_r1, jv_rq_r0, n10, n11, n00, Nat.reduceEqDiff, Option.bind_some, Option.bind_none, jv_isr_ref, jv_isr_rf, jv_isr_null, va_rf_some, va_rf_none, jv_cat1_int, jv_cat1_ref, jv_cat1_rf, if_true, if_false, eq_self, Option.toList_some, Option.toList_none, List.cons_append, List.nil_append, Bool.and_self, Bool.and_true, i32_10, i32_01, i32_80, nI_div8, nI_mul4, nI_mul8, nI_mul32, nI_add, ↓reduceIte, u2_ne, u2_same, r15_0, r15_1, r15_2, r15_4, r15_7, r15_10, r15_11, r15_12, r15_14, r15_17, r15_20, r15_21, r15_22, r15_23, r15_24, r15_27, r15_28, r15_29, r15_32, r15_33, s9, h1', h2', and_self, true_or]
    · have h1' : ¬ (0 ≤ l ∧ l ≤ 100) := fun z => h1 ((in0 (k := 100) (by decide)).mp z)
      simp (disch := first | decide | omega | assumption | (simp (disch := decide) only [u2_ne, u2_same, mQueue]; assumption)) only [kV_some, kI_some, kR_some, kR_any, kH_some, kC_none, kC_some, jv_rsv_ref, jv_rsv_rf, jv_nz_ref, jv_nz_null, jv_nz_rf0, jv_nz_rf1, jv_rq_r1, jv_rq_r0, n10, n11, n00, Nat.reduceEqDiff, Option.bind_some, Option.bind_none, jv_isr_ref, jv_isr_rf, jv_isr_null, va_rf_some, va_rf_none, jv_cat1_int, jv_cat1_ref, jv_cat1_rf, if_true, if_false, eq_self, Option.toList_some, Option.toList_none, List.cons_append, List.nil_append, Bool.and_self, Bool.and_true, i32_10, i32_01, i32_80, nI_div8, nI_mul4, nI_mul8, nI_mul32, nI_add, ↓reduceIte, u2_ne, u2_same, r15_0, r15_1, r15_2, r15_4, r15_7, r15_10, r15_11, r15_12, r15_14, r15_17, r15_20, r15_21, r15_22, r15_23, r15_24, r15_27, r15_28, r15_29, r15_32, r15_33, s9, h1', true_or]
theorem o_kind {k a b : Int32} (h : RJ I P M ρ R W (R + 32) O Q (-1) (-1)) (ha : a = 0 ∨ a = 1) (hb : b = 0 ∨ b = 1) (hQ : Q + 1280 < 2 ^ 30) (hd : 8 ≤ d) : opB X d 8 77 [.int k, .int a, .int b] I P M Q := by
  have e50 : I 50 = M 28 := h.1.s 50 (by decide)
  have h30 := h.2.h30
  by_cases hn : ¬ (0 ≤ k ∧ k < 4) ∨ 0 < M 28 0
  · refine opB.stay h hQ ?_ (t77b hn (by omega))
    obtain ⟨d, rfl⟩ : ∃ q, d = q + 2 := ⟨d - 2, by omega⟩
    rw [e8]
    by_cases h1 : 0 ≤ k ∧ k < 4
    · have h1' : 0 ≤ k ∧ k ≤ 3 := (in0 (k := 3) (by decide)).mpr h1
      have h2 : ¬ M 28 0 ≤ 0 := Int32.not_le.mpr (hn.resolve_left (fun z => z h1))
      simp (disch := first | decide | omega | assumption | (simp (disch := decide) only [u2_ne, u2_same, mQueue]; assumption)) only [kV_some, kI_some, kR_some, kR_any, kH_some, kC_none, kC_some, jv_rsv_ref, jv_rsv_rf, jv_nz_ref, jv_nz_null, jv_nz_rf0, jv_nz_rf1, jv_rq_r1, jv_rq_r0, n10, n11, n00, Nat.reduceEqDiff, Option.bind_some, Option.bind_none, jv_isr_ref, jv_isr_rf, jv_isr_null, va_rf_some, va_rf_none, jv_cat1_int, jv_cat1_ref, jv_cat1_rf, if_true, if_false, eq_self, Option.toList_some, Option.toList_none, List.cons_append, List.nil_append, Bool.and_self, Bool.and_true, i32_10, i32_01, i32_80, nI_div8, nI_mul4, nI_mul8, nI_mul32, nI_add, ↓reduceIte, u2_ne, u2_same, r8_0, r8_1, r8_2, r8_3, r8_6, r8_9, r8_10, r8_13, r8_16, r8_19, r8_20, r8_21, r8_22, r8_25, r8_26, r8_27, r8_28, r8_31, r8_32, r8_35, r8_36, r8_37, r8_38, r8_41, r8_42, s9, h1', and_self, gt_1_3, gt_5_1, e50, h2, true_or]
    · have h1' : ¬ (0 ≤ k ∧ k ≤ 3) := fun z => h1 ((in0 (k := 3) (by decide)).mp z)
      simp (disch := first | decide | omega | assumption | (simp (disch := decide) only [u2_ne, u2_same, mQueue]; assumption)) only [kV_some, kI_some, kR_some, kR_any, kH_some, kC_none, kC_some, jv_rsv_ref, jv_rsv_rf, jv_nz_ref, jv_nz_null, jv_nz_rf0, jv_nz_rf1, jv_rq_r1, jv_rq_r0, n10, n11, n00, Nat.reduceEqDiff, Option.bind_some, Option.bind_none, jv_isr_ref, jv_isr_rf, jv_isr_null, va_rf_some, va_rf_none, jv_cat1_int, jv_cat1_ref, jv_cat1_rf, if_true, if_false, eq_self, Option.toList_some, Option.toList_none, List.cons_append, List.nil_append, Bool.and_self, Bool.and_true, i32_10, i32_01, i32_80, nI_div8, nI_mul4, nI_mul8, nI_mul32, nI_add, ↓reduceIte, u2_ne, u2_same, r8_0, r8_1, r8_2, r8_3, r8_6, r8_9, r8_10, r8_13, r8_16, r8_19, r8_20, r8_21, r8_22, r8_25, r8_26, r8_27, r8_28, r8_31, r8_32, r8_35, r8_36, r8_37, r8_38, r8_41, r8_42, s9, h1', true_or]
  · have h1 : 0 ≤ k ∧ k < 4 := Classical.not_not.mp (fun z => hn (Or.inl z))
    have h2 : ¬ 0 < M 28 0 := fun z => hn (Or.inr z)
    have h0 : M 28 0 = 0 := by
      rw [h.2.hR] at h2 ⊢
      have : ¬ 0 < R := fun z => h2 (nI_lt (a := 0) z (by omega))
      have : R = 0 := by omega
      subst this
      rfl
    obtain ⟨q, q1, rfl⟩ := inN (n := 4) (by decide) h1
    refine ⟨_, u2 (u2 I 10 q a) 11 q b, P, _, ρ, R, W, O, ?_, t77a q1 h0 ha hb (by omega), ((h.both (a := 10) (b := 0) rfl (by decide) (by omega) (by omega) (by decide) rfl rfl).both (a := 11) (b := 1) rfl (by decide) (by omega) (by omega) (by decide) rfl rfl).mono (by omega) hQ⟩
    obtain ⟨d, rfl⟩ : ∃ q, d = q + 2 := ⟨d - 2, by omega⟩
    have h1' : 0 ≤ nI q ∧ nI q ≤ 3 := (in0 (k := 3) (by decide)).mpr h1
    rw [e8]
    simp (disch := first | decide | omega | assumption | (simp (disch := decide) only [u2_ne, u2_same, mQueue]; assumption)) only [kV_some, kI_some, kR_some, kR_any, kH_some, kC_none, kC_some, jv_rsv_ref, jv_rsv_rf, jv_nz_ref, jv_nz_null, jv_nz_rf0, jv_nz_rf1, jv_rq_r1, jv_rq_r0, n10, n11, n00, Nat.reduceEqDiff, Option.bind_some, Option.bind_none, jv_isr_ref, jv_isr_rf, jv_isr_null, va_rf_some, va_rf_none, jv_cat1_int, jv_cat1_ref, jv_cat1_rf, if_true, if_false, eq_self, Option.toList_some, Option.toList_none, List.cons_append, List.nil_append, Bool.and_self, Bool.and_true, i32_10, i32_01, i32_80, nI_div8, nI_mul4, nI_mul8, nI_mul32, nI_add, ↓reduceIte, u2_ne, u2_same, r8_0, r8_1, r8_2, r8_3, r8_6, r8_9, r8_10, r8_13, r8_16, r8_19, r8_20, r8_21, r8_22, r8_25, r8_26, r8_27, r8_28, r8_31, r8_32, r8_35, r8_36, r8_37, r8_38, r8_41, r8_42, s9, h1', and_self, gt_1_3, gt_5_1, e50, h0, i32_le0, gt_1_0, rl_2, pt_kd_1, pt_kd_2, ha, hb, or_true]
theorem J.forget (h : J M R W K O Q y x) (hn : ∀ k, k < O → ¬ M 32 k = 0) : J (u2 M 36 0 0) R W K 0 Q y x := by
  have e : ∀ f, f ≠ 36 → u2 M 36 0 0 f = M f := fun f a => u2_ne a
  refine ⟨?_, by rw [e 17 (by decide), e 29 (by decide)]; exact h.n, by rw [e 18 (by decide), e 23 (by decide), e 8 (by decide)]; exact h.s, by rw [e 17 (by decide), e 23 (by decide), e 30 (by decide), e 8 (by decide)]; exact h.l, ?_, by rw [u2_same]; rfl, fun c hc => by omega, by rw [e 8 (by decide), e 9 (by decide), e 10 (by decide), e 11 (by decide), e 15 (by decide), e 14 (by decide), e 16 (by decide)]; exact h.g, by rw [e 4 (by decide), e 5 (by decide), e 6 (by decide), e 7 (by decide)]; exact h.t⟩
  · refine h.ok.of (by rw [e 28 (by decide)]) (by rw [e 31 (by decide)]; exact h.hW) (fun j _ => by rw [e 18 (by decide)]) (fun j _ => by rw [e 19 (by decide)]) (fun j _ => Or.inl (by rw [e 22 (by decide)])) (e 4 (by decide)) (fun j _ => Or.inl (by rw [e 26 (by decide)])) ?_
    rw [e 23 (by decide), e 8 (by decide)]; exact h.ok.2.2.2.2.2.2.1
  · rw [e 17 (by decide), e 23 (by decide), e 24 (by decide), e 25 (by decide), e 26 (by decide), e 32 (by decide), e 34 (by decide)]
    obtain ⟨a1, a2, a3, a4⟩ := h.a
    refine ⟨a1, fun k hk => ?_, fun c hc => by omega, by omega⟩
    rcases a2 k hk with b | ⟨c, c1, c2, c3, c4⟩ | b
    · exact Or.inl b
    · exact absurd c3 (hn c c1)
    · exact Or.inr (Or.inr b)
theorem c27l {O : Nat} (e1 : I 1 0 = nI O) (h12 : O ≤ 12) : ∀ (r c : Nat), c + r = O → (∀ k, k < c → ¬ I 60 k = 0) → ((∃ k, k < O ∧ I 60 k = 0) → jl gw X d 27 2 [some (.ref 1), some (.int (nI c))] [] (he I P N) = some (some (.int (-3)), he I P N)) ∧ ((∀ k, k < O → ¬ I 60 k = 0) → jl gw X d 27 2 [some (.ref 1), some (.int (nI c))] [] (he I P N) = some (some (.int (nI O)), he (u2 I 1 0 0) P N)) := by
  intro r
  induction r with
  | zero =>
    intro c hc hk
    have hc : c = O := by omega
    subst hc
    refine ⟨fun ⟨k, k1, k2⟩ => absurd k2 (hk k k1), fun _ => ?_⟩
    rw [r27_2]
    simp (disch := first | decide | omega | assumption | (simp (disch := decide) only [u2_ne, u2_same, mQueue]; assumption)) only [kV_some, kI_some, kR_some, kR_any, kH_some, kC_none, kC_some, jv_rsv_ref, jv_rsv_rf, jv_nz_ref, jv_nz_null, jv_nz_rf0, jv_nz_rf1, jv_rq_r1, jv_rq_r0, n10, n11, n00, Nat.reduceEqDiff, Option.bind_some, Option.bind_none, jv_isr_ref, jv_isr_rf, jv_isr_null, va_rf_some, va_rf_none, jv_cat1_int, jv_cat1_ref, jv_cat1_rf, if_true, if_false, eq_self, Option.toList_some, Option.toList_none, List.cons_append, List.nil_append, Bool.and_self, Bool.and_true, i32_10, i32_01, i32_80, nI_div8, nI_mul4, nI_mul8, nI_mul32, nI_add, ↓reduceIte, u2_ne, u2_same, r27_0, r27_1, r27_3, r27_4, r27_7, r27_10, r27_11, r27_14, r27_15, r27_16, r27_19, r27_22, r27_24, r27_25, r27_28, r27_31, r27_32, r27_35, r27_36, r27_37, r27_38, r27_41, r27_42, gt_1_7, e1, Int32.le_refl, pt_1_7]
  | succ r ih =>
    intro c hc hk
    have h1 : ¬ nI O ≤ nI c := nI_ge (by omega) (by omega)
    rw [r27_2]
    by_cases hz : I 60 c = 0
    · refine ⟨fun _ => ?_, fun q => absurd hz (q c (by omega))⟩
      simp (disch := first | decide | omega | assumption | (simp (disch := decide) only [u2_ne, u2_same, mQueue]; assumption)) only [kV_some, kI_some, kR_some, kR_any, kH_some, kC_none, kC_some, jv_rsv_ref, jv_rsv_rf, jv_nz_ref, jv_nz_null, jv_nz_rf0, jv_nz_rf1, jv_rq_r1, jv_rq_r0, n10, n11, n00, Nat.reduceEqDiff, Option.bind_some, Option.bind_none, jv_isr_ref, jv_isr_rf, jv_isr_null, va_rf_some, va_rf_none, jv_cat1_int, jv_cat1_ref, jv_cat1_rf, if_true, if_false, eq_self, Option.toList_some, Option.toList_none, List.cons_append, List.nil_append, Bool.and_self, Bool.and_true, i32_10, i32_01, i32_80, nI_div8, nI_mul4, nI_mul8, nI_mul32, nI_add, ↓reduceIte, u2_ne, u2_same, r27_0, r27_1, r27_3, r27_4, r27_7, r27_10, r27_11, r27_14, r27_15, r27_16, r27_19, r27_22, r27_24, r27_25, r27_28, r27_31, r27_32, r27_35, r27_36, r27_37, r27_38, r27_41, r27_42, gt_1_7, e1, h1, gt_1_2, rl_4, gt_ot_0, hz]
    · have ihh := ih (c + 1) (by omega) (fun k hk2 => by
        by_cases hkc : k = c
        · subst hkc; exact hz
        · exact hk k (by omega))
      simp (disch := first | decide | omega | assumption | (simp (disch := decide) only [u2_ne, u2_same, mQueue]; assumption)) only [kV_some, kI_some, kR_some, kR_any, kH_some, kC_none, kC_some, jv_rsv_ref, jv_rsv_rf, jv_nz_ref, jv_nz_null, jv_nz_rf0, jv_nz_rf1, jv_rq_r1, jv_rq_r0, n10, n11, n00, Nat.reduceEqDiff, Option.bind_some, Option.bind_none, jv_isr_ref, jv_isr_rf, jv_isr_null, va_rf_some, va_rf_none, jv_cat1_int, jv_cat1_ref, jv_cat1_rf, if_true, if_false, eq_self, Option.toList_some, Option.toList_none, List.cons_append, List.nil_append, Bool.and_self, Bool.and_true, i32_10, i32_01, i32_80, nI_div8, nI_mul4, nI_mul8, nI_mul32, nI_add, ↓reduceIte, u2_ne, u2_same, r27_0, r27_1, r27_3, r27_4, r27_7, r27_10, r27_11, r27_14, r27_15, r27_16, r27_19, r27_22, r27_24, r27_25, r27_28, r27_31, r27_32, r27_35, r27_36, r27_37, r27_38, r27_41, r27_42, gt_1_7, e1, h1, gt_1_2, rl_4, gt_ot_0, hz, nI_1]
      exact ihh
theorem o_forget (h : RJ I P M ρ R W (R + 32) O Q (-1) (-1)) (hQ : Q + 1280 < 2 ^ 30) (hd : 8 ≤ d) : opB X d 27 108 [] I P M Q := by
  have e1 : I 1 0 = nI O := by rw [h.1.s 1 (by decide)]; exact h.2.o
  have e60 : I 60 = M 32 := h.1.s 60 (by decide)
  have h12 := h.2.a.2.2.2
  have hr := t108 (X := X) (d := d) (I := I) (P := P) h.2.o h12 (by omega)
  have hc : ∀ N, ((∃ k, k < O ∧ I 60 k = 0) → jv_F gw X d 27 [.ref 1] (he I P N) = some (some (.int (-3)), he I P N)) ∧ ((∀ k, k < O → ¬ I 60 k = 0) → jv_F gw X d 27 [.ref 1] (he I P N) = some (some (.int (nI O)), he (u2 I 1 0 0) P N)) := by
    intro N
    obtain ⟨d, rfl⟩ : ∃ q, d = q + 1 := ⟨d - 1, by omega⟩
    rw [e27]
    simp (disch := first | decide | omega | assumption | (simp (disch := decide) only [u2_ne, u2_same, mQueue]; assumption)) only [kV_some, kI_some, kR_some, kR_any, kH_some, kC_none, kC_some, jv_rsv_ref, jv_rsv_rf, jv_nz_ref, jv_nz_null, jv_nz_rf0, jv_nz_rf1, jv_rq_r1, jv_rq_r0, n10, n11, n00, Nat.reduceEqDiff, Option.bind_some, Option.bind_none, jv_isr_ref, jv_isr_rf, jv_isr_null, va_rf_some, va_rf_none, jv_cat1_int, jv_cat1_ref, jv_cat1_rf, if_true, if_false, eq_self, Option.toList_some, Option.toList_none, List.cons_append, List.nil_append, Bool.and_self, Bool.and_true, i32_10, i32_01, i32_80, nI_div8, nI_mul4, nI_mul8, nI_mul32, nI_add, ↓reduceIte, u2_ne, u2_same, r27_0, r27_1, r27_3, r27_4, r27_7, r27_10, r27_11, r27_14, r27_15, r27_16, r27_19, r27_22, r27_24, r27_25, r27_28, r27_31, r27_32, r27_35, r27_36, r27_37, r27_38, r27_41, r27_42]
    exact c27l e1 h12 O 0 (by omega) (fun k hk => by omega)
  by_cases hz : ∃ k, k < O ∧ M 32 k = 0
  · rw [if_pos (by obtain ⟨k, a, b⟩ := hz; exact ⟨k, by omega, a, b⟩)] at hr
    exact opB.stay h hQ ((hc M).1 (by rw [e60]; exact hz)) hr
  · have hno : ∀ k, k < O → ¬ M 32 k = 0 := fun k hk q => hz ⟨k, hk, q⟩
    have hr' := t108 (X := X) (d := d) (I := u2 I 1 0 0) (P := P) h.2.o h12 (by omega)
    rw [if_neg (fun ⟨k, _, a, b⟩ => hno k a b)] at hr'
    have hJ := (h.2.forget hno).mono (Q2 := Q + 1280) (Nat.le_refl _) h.2.ok.2.2.2.2.2.2.2 (by omega) hQ
    exact ⟨_, u2 I 1 0 0, P, _, ρ, R, W, 0, (hc M).2 (by rw [e60]; exact hno), hr', h.1.both (a := 1) (b := 36) rfl (by decide) (by omega) (by omega) (by decide), hJ⟩
end CL
