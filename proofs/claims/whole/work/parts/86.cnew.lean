/-! ===== the class: begin, add, make ===== -/
theorem u2_off {α : Type} {I : Nat → Nat → α} {f k a j : Nat} {v : α} (h : ¬ j = k) : u2 I f k v a j = I a j := by
  by_cases e : a = f
  · subst e; rw [u2_oth h]
  · rw [u2_ne e]
def bI (I : Nat → Nat → Int32) (q : Nat) (n m v ch w : Int32) : Nat → Nat → Int32 := u2 (u2 (u2 (u2 (u2 (u2 (u2 (u2 (u2 I 40 q n) 41 q m) 42 q v) 43 q 0) 44 q 0) 45 q 0) 46 q (chn ch w)) 47 q (cbk ch w)) 48 q 0
def bP (P : Nat → Nat → Option Nat) (q g m : Nat) : Nat → Nat → Option Nat := u2 (u2 (u2 (u2 (u2 P 0 q (some (113 + g))) 1 q (some (43 + 18 * (g / 8) + 4 * m))) 2 q none) 3 q none) 4 q none
section CL
variable {X : Nat × (Nat → Int32)} {d : Nat} {I : Nat → Nat → Int32} {P : Nat → Nat → Option Nat} {M N : Nat → Nat → Int32} {ρ : Nat → Nat} {R W K O Q : Nat} {y x : Int32}
theorem bI_off {q a j : Nat} {n m v ch w : Int32} (h : ¬ j = q) : bI I q n m v ch w a j = I a j := by
  unfold bI
  rw [u2_off h, u2_off h, u2_off h, u2_off h, u2_off h, u2_off h, u2_off h, u2_off h, u2_off h]
theorem bI_ne {q a : Nat} {n m v ch w : Int32} (h : a < 40 ∨ 48 < a) : bI I q n m v ch w a = I a := by
  unfold bI
  rw [u2_ne (by omega), u2_ne (by omega), u2_ne (by omega), u2_ne (by omega), u2_ne (by omega), u2_ne (by omega), u2_ne (by omega), u2_ne (by omega), u2_ne (by omega)]
theorem bP_off {q g m a j : Nat} (h : ¬ j = q) : bP P q g m a j = P a j := by
  unfold bP
  rw [u2_off h, u2_off h, u2_off h, u2_off h, u2_off h]
theorem bP_10 {q g m : Nat} : bP P q g m 10 = P 10 := by unfold bP; simp [u2_ne]
theorem c21 {q g m : Nat} {n v ch : Int32} (hq : q < 30) (hg : g < 32) (hm : m < 4) (hd : 2 ≤ d) : jv_F gw X d 21 [.ref (7 + q), .int n, .ref (113 + g), .int (nI m), .int v, .int ch] (he I P N) = some (none, he (bI I q n (nI m) v ch (nI g)) (bP P q g m) N) := by
  obtain ⟨d, rfl⟩ : ∃ q, d = q + 1 := ⟨d - 1, by omega⟩
  rw [e21 rfl]
  have h8 : g / 8 < 4 := by omega
  unfold bI bP
  by_cases hz : ch &&& ((1 : Int32) <<< (nI g &&& 31)) = 0
  · have hb : cbk ch (nI g) = 0 := by unfold cbk; rw [if_pos hz]
    have hcc : chn ch (nI g) = ch ||| ((1 : Int32) <<< (nI g &&& 31)) := rfl
    rw [hb, hcc]
    simp (disch := first | decide | omega | assumption | (simp (disch := decide) only [u2_ne, u2_same, mQueue]; assumption)) only [kV_some, kI_some, kR_some, kR_any, kH_some, kC_none, kC_some, jv_rsv_ref, jv_rsv_rf, jv_nz_ref, jv_nz_null, jv_nz_rf0, jv_nz_rf1, jv_rq_r1, jv_rq_r0, n10, n11, n00, Nat.reduceEqDiff, Option.bind_some, Option.bind_none, jv_isr_ref, jv_isr_rf, jv_isr_null, va_rf_some, va_rf_none, jv_cat1_int, jv_cat1_ref, jv_cat1_rf, if_true, if_false, eq_self, Option.toList_some, Option.toList_none, List.cons_append, List.nil_append, Bool.and_self, Bool.and_true, i32_10, i32_01, i32_80, nI_div8, nI_mul4, nI_mul8, nI_mul32, nI_add, ↓reduceIte, u2_ne, u2_same, r21_0, r21_1, r21_2, r21_5, r21_6, r21_8, r21_9, r21_10, r21_13, r21_14, r21_15, r21_18, r21_19, r21_20, r21_23, r21_24, r21_25, r21_28, r21_31, r21_32, r21_33, r21_36, r21_37, r21_39, r21_42, r21_43, r21_44, r21_47, r21_48, r21_49, r21_52, r21_53, r21_54, r21_57, r21_58, r21_60, r21_62, r21_63, r21_66, r21_67, r21_69, r21_71, r21_72, r21_75, r21_76, r21_79, r21_80, r21_83, r21_84, r21_85, r21_88, r21_89, r21_90, r21_93, r21_94, r21_97, gt_gr_0, pt_rq_0, pt_rq_1r, pt_rq_2, gt_gr_1, gt_kd_0, rl_ma, pt_rq_3r, pt_rq_4, pt_rq_5, pt_rq_6, pt_rq_7, pt_rq_8, hz, pt_rq_9, pt_rq_10n, pt_rq_11n, ic_rq, c22, true_or]
  · have hb : cbk ch (nI g) = 1 := by unfold cbk; rw [if_neg hz]
    have hcc : chn ch (nI g) = ch ||| ((1 : Int32) <<< (nI g &&& 31)) := rfl
    rw [hb, hcc]
    simp (disch := first | decide | omega | assumption | (simp (disch := decide) only [u2_ne, u2_same, mQueue]; assumption)) only [kV_some, kI_some, kR_some, kR_any, kH_some, kC_none, kC_some, jv_rsv_ref, jv_rsv_rf, jv_nz_ref, jv_nz_null, jv_nz_rf0, jv_nz_rf1, jv_rq_r1, jv_rq_r0, n10, n11, n00, Nat.reduceEqDiff, Option.bind_some, Option.bind_none, jv_isr_ref, jv_isr_rf, jv_isr_null, va_rf_some, va_rf_none, jv_cat1_int, jv_cat1_ref, jv_cat1_rf, if_true, if_false, eq_self, Option.toList_some, Option.toList_none, List.cons_append, List.nil_append, Bool.and_self, Bool.and_true, i32_10, i32_01, i32_80, nI_div8, nI_mul4, nI_mul8, nI_mul32, nI_add, ↓reduceIte, u2_ne, u2_same, r21_0, r21_1, r21_2, r21_5, r21_6, r21_8, r21_9, r21_10, r21_13, r21_14, r21_15, r21_18, r21_19, r21_20, r21_23, r21_24, r21_25, r21_28, r21_31, r21_32, r21_33, r21_36, r21_37, r21_39, r21_42, r21_43, r21_44, r21_47, r21_48, r21_49, r21_52, r21_53, r21_54, r21_57, r21_58, r21_60, r21_62, r21_63, r21_66, r21_67, r21_69, r21_71, r21_72, r21_75, r21_76, r21_79, r21_80, r21_83, r21_84, r21_85, r21_88, r21_89, r21_90, r21_93, r21_94, r21_97, gt_gr_0, pt_rq_0, pt_rq_1r, pt_rq_2, gt_gr_1, gt_kd_0, rl_ma, pt_rq_3r, pt_rq_4, pt_rq_5, pt_rq_6, pt_rq_7, pt_rq_8, hz, pt_rq_9, pt_rq_10n, pt_rq_11n, ic_rq, c22, or_true]
theorem c20 {g m : Nat} {v ch : Int32} (hR : I 50 0 = nI R) (h30 : R < 30) (h10 : P 10 R = some (7 + ρ R)) (hq : ρ R < 30) (hg : g < 32) (hm : m < 4) (hd : 3 ≤ d) : jv_F gw X d 20 [.ref 5, .ref (113 + g), .int (nI m), .int v, .int ch] (he I P N) = some (some (.ref (7 + ρ R)), he (u2 (u2 (bI I (ρ R) (I 51 0) (nI m) v ch (nI g)) 50 0 (nI (R + 1))) 51 0 (I 51 0 + 1)) (bP P (ρ R) g m) N) := by
  obtain ⟨d, rfl⟩ : ∃ q, d = q + 1 := ⟨d - 1, by omega⟩
  rw [e20 rfl]
  have hb := c21 (X := X) (d := d) (I := I) (P := P) (N := N) (n := I 51 0) (v := v) (ch := ch) hq hg hm (by omega)
  have e50 : bI I (ρ R) (I 51 0) (nI m) v ch (nI g) 50 0 = nI R := by rw [bI_ne (by omega)]; exact hR
  have e51 : bI I (ρ R) (I 51 0) (nI m) v ch (nI g) 51 = I 51 := bI_ne (by omega)
  simp (disch := first | decide | omega | assumption | (simp (disch := decide) only [u2_ne, u2_same, mQueue]; assumption)) only [kV_some, kI_some, kR_some, kR_any, kH_some, kC_none, kC_some, jv_rsv_ref, jv_rsv_rf, jv_nz_ref, jv_nz_null, jv_nz_rf0, jv_nz_rf1, jv_rq_r1, jv_rq_r0, n10, n11, n00, Nat.reduceEqDiff, Option.bind_some, Option.bind_none, jv_isr_ref, jv_isr_rf, jv_isr_null, va_rf_some, va_rf_none, jv_cat1_int, jv_cat1_ref, jv_cat1_rf, if_true, if_false, eq_self, Option.toList_some, Option.toList_none, List.cons_append, List.nil_append, Bool.and_self, Bool.and_true, i32_10, i32_01, i32_80, nI_div8, nI_mul4, nI_mul8, nI_mul32, nI_add, ↓reduceIte, u2_ne, u2_same, r20_0, r20_1, r20_4, r20_5, r20_8, r20_9, r20_11, r20_13, r20_14, r20_17, r20_18, r20_19, r20_20, r20_22, r20_25, r20_26, r20_27, r20_30, r20_31, r20_32, r20_35, r20_36, r20_37, r20_40, r20_41, r20_42, r20_45, r20_47, gt_5_0, gt_5_1, hR, rl_6, h10, gt_5_2, ic_rq, hb, e50, nI_1, pt_5_1, e51, pt_5_2]
theorem Rel.new (h : Rel I P M ρ R W x) {g mm : Nat} {v ch : Int32} (h28 : M 28 0 = nI R) (hR : R < 30) (hg : g < 32) (hm : mm < 4) : Rel (u2 (u2 (u2 (bI I (ρ R) (M 29 0) (nI mm) v ch (nI g)) 50 0 (nI (R + 1))) 51 0 (M 29 0 + 1)) 34 g 0) (bP P (ρ R) g mm) (mNew M R g (nI mm) v (-1) ch) ρ (R + 1) W x := by
  obtain ⟨h1, h2, h3, h4, h5, h6, h7, h8, h9⟩ := h
  have hne : ∀ k, k < 30 → ¬ k = R → ¬ ρ k = ρ R := fun k hk hkR z => hkR (h2.2 k R hk hR z)
  have eI : ∀ a, a ≠ 34 → a ≠ 50 → a ≠ 51 → (u2 (u2 (u2 (bI I (ρ R) (M 29 0) (nI mm) v ch (nI g)) 50 0 (nI (R + 1))) 51 0 (M 29 0 + 1)) 34 g 0) a = bI I (ρ R) (M 29 0) (nI mm) v ch (nI g) a := fun a p q r => by rw [u2_ne p, u2_ne r, u2_ne q]
  have hgn : nn (nI g) = g := nn_nI (by omega)
  have hmn : nn (nI mm) = mm := nn_nI (by omega)
  have hrow : ∀ f, 17 ≤ f ∧ f ≤ 27 → ∀ k, ¬ k = R → mNew M R g (nI mm) v (-1) ch f k = M f k := fun f hf k hk => mNew_row hk (by omega)
  have r18 : mNew M R g (nI mm) v (-1) ch 18 R = nI g := by unfold mNew; simp [u2_ne, u2_same]
  have r19 : mNew M R g (nI mm) v (-1) ch 19 R = nI mm := by unfold mNew; simp [u2_ne, u2_same]
  have r27 : mNew M R g (nI mm) v (-1) ch 27 R = ch := by unfold mNew; simp [u2_ne, u2_same]
  have r25 : mNew M R g (nI mm) v (-1) ch 25 R = 0 := by unfold mNew; simp [u2_ne, u2_same]
  have r26 : mNew M R g (nI mm) v (-1) ch 26 R = -1 := by unfold mNew; simp [u2_ne, u2_same]
  have r24 : mNew M R g (nI mm) v (-1) ch 24 R = -1 := by unfold mNew; simp [u2_ne, u2_same]
  refine ⟨?_, ⟨fun k hk => ?_, h2.2⟩, fun a k ha hk => ?_, fun k hk => ?_, fun k hk => ?_, fun k hk hx => ?_, fun k hk1 hk2 => ?_, ?_, ?_⟩
  · unfold mNew
    refine relS.both ?_ rfl (by decide)
    refine relS.right (relS.right (relS.right (relS.right (relS.right (relS.right (relS.right (relS.right (relS.right (relS.right ?_ rfl) rfl) rfl) rfl) rfl) rfl) rfl) rfl) rfl) rfl
    refine relS.both ?_ rfl (by decide)
    refine relS.right ?_ rfl
    refine relS.both ?_ rfl (by decide)
    unfold bI
    exact ((((((((h1.left rfl).left rfl).left rfl).left rfl).left rfl).left rfl).left rfl).left rfl).left rfl
  · rw [bP_10]; exact h2.1 k hk
  · have ea : (40 ≤ a ∧ a ≤ 45) ∧ 17 ≤ cq a ∧ cq a ≤ 27 := by
      unfold cq at *
      split at ha <;> first | (constructor <;> decide) | exact absurd rfl ha
    rw [eI a (by omega) (by omega) (by omega)]
    by_cases hkR : k = R
    · subst hkR
      have : a = 40 ∨ a = 41 ∨ a = 42 ∨ a = 43 ∨ a = 44 ∨ a = 45 := by omega
      rcases this with rfl | rfl | rfl | rfl | rfl | rfl <;> (unfold bI mNew cq; simp [u2_ne, u2_same])
    · rw [bI_off (hne k (by omega) hkR), hrow _ ea.2 k hkR]
      exact h3 a k ha (by omega)
  · rw [eI 46 (by decide) (by decide) (by decide), eI 47 (by decide) (by decide) (by decide), eI 48 (by decide) (by decide) (by decide)]
    by_cases hkR : k = R
    · subst hkR
      rw [r18, r19, r27, r25, hgn, hmn]
      refine ⟨?_, ?_, ?_, ?_, fun _ => ?_⟩
      · unfold bP; simp [u2_ne, u2_same]
      · unfold bP; simp [u2_ne, u2_same]
      · unfold bI; simp [u2_ne, u2_same]
      · unfold bI; simp [u2_ne, u2_same]
      · unfold bI; simp [u2_ne, u2_same]
    · have ho := hne k (by omega) hkR
      rw [bI_off ho, bI_off ho, bI_off ho, bP_off ho, bP_off ho, hrow 18 (by omega) k hkR, hrow 19 (by omega) k hkR, hrow 27 (by omega) k hkR, hrow 25 (by omega) k hkR, hrow 17 (by omega) k hkR]
      exact h4 k (by omega)
  · by_cases hkR : k = R
    · subst hkR
      rw [r26]
      refine Or.inl ⟨rfl, ?_, ?_⟩
      · unfold bP; simp [u2_ne, u2_same]
      · unfold bP; simp [u2_ne, u2_same]
    · have ho := hne k (by omega) hkR
      rw [bP_off ho, bP_off ho, hrow 26 (by omega) k hkR]
      rcases h5 k (by omega) with z | z | ⟨c, c1, c2, c3⟩
      · exact Or.inl z
      · exact Or.inr (Or.inl z)
      · exact Or.inr (Or.inr ⟨c, by omega, by rw [hrow 17 (by omega) c (by omega)]; exact c2, c3⟩)
  · by_cases hkR : k = R
    · subst hkR
      rw [r24]
      refine Or.inl ⟨rfl, ?_⟩
      unfold bP; simp [u2_same]
    · have ho := hne k (by omega) hkR
      rw [hrow 17 (by omega) k hkR] at hx
      rw [bP_off ho, hrow 24 (by omega) k hkR]
      rcases h6 k (by omega) hx with z | ⟨c, c1, c2, c3⟩
      · exact Or.inl z
      · exact Or.inr ⟨c, by omega, by rw [hrow 17 (by omega) c (by omega)]; exact c2, c3⟩
  · rw [eI 43 (by decide) (by decide) (by decide), bI_off (hne k hk2 (by omega))]
    exact h7 k (by omega) hk2
  · unfold relL
    rw [eI 52 (by decide) (by decide) (by decide), eI 54 (by decide) (by decide) (by decide), bI_ne (by omega), bI_ne (by omega), mNew_at (by omega) (by decide)]
    exact h8
  · rw [mNew_at (by omega) (by decide)]; exact h9
/-- a grain's number of the table changes -/
theorem Rel.both (h : Rel I P M ρ R W x) {a b k : Nat} {v : Int32} (hb : cl a = b) (h9 : b ≠ 99) (hb2 : b < 17 ∨ 31 < b) (ha : a < 40 ∨ 54 < a) (h37 : b ≠ 37) : Rel (u2 I a k v) P (u2 M b k v) ρ R W x :=
  h.upS (h.s.both hb h9) (fun q hq => u2_ne (by omega)) (fun q hq => u2_ne (by omega)) (by rw [u2_ne (Ne.symm h37)])
theorem c19 (h : RJ I P M ρ R W K O Q y (-1)) {g mm : Nat} {v ch : Int32} (hR : R < 30) (hg : g < 32) (hm : mm < 4) (hy : ¬ M 29 0 = y) (hy2 : ¬ y = -2 - nI g) (hK : K + 1 ≤ 62) (hQ : Q + 1 < 2 ^ 30) (hd : 4 ≤ d) : ∃ I' P' W', jv_F gw X d 19 [.ref 1, .ref (113 + g), .int (nI mm), .int v, .int ch] (he I P N) = some (some (.ref (7 + ρ R)), he I' P' N) ∧ RJ I' P' (mMake M R g (nI mm) v (-1) ch) ρ (R + 1) W' (K + 1) O (Q + 1) y (-1) := by
  obtain ⟨d, rfl⟩ : ∃ q, d = q + 1 := ⟨d - 1, by omega⟩
  have hJn := h.2.new (v := v) (by_ := -1) (ch := ch) hR hg hm hy rfl hK hQ
  have hRn := h.1.new (v := v) (ch := ch) h.2.hR hR hg hm
  have e51 : I 51 = M 29 := h.1.s 51 (by decide)
  have hadd := c20 (X := X) (d := d) (I := I) (P := P) (N := N) (ρ := ρ) (v := v) (ch := ch) h.size hR (h.1.r.1 R hR).1 (h.1.r.1 R hR).2 hg hm (by omega)
  rw [e51] at hadd
  have hm' := mMake_made (M := M) (R := R) (g := g) (m := nI mm) (v := v) (by_ := -1) (ch := ch)
  obtain ⟨W2, hJ2⟩ := hJn.made hg hy2
  rw [hm']
  generalize hNw : mNew M R g (nI mm) v (-1) ch = M1 at hJn hRn hJ2 ⊢
  generalize hIw : u2 (u2 (u2 (bI I (ρ R) (M 29 0) (nI mm) v ch (nI g)) 50 0 (nI (R + 1))) 51 0 (M 29 0 + 1)) 34 g 0 = I1 at hRn
  have i30 : I1 30 = M1 8 := hRn.s 30 (by decide)
  have hfold : ∀ P', jv_put (he (u2 (u2 (bI I (ρ R) (M 29 0) (nI mm) v ch (nI g)) 50 0 (nI (R + 1))) 51 0 (M 29 0 + 1)) P' N) (113 + g) 3 6 (.int 0) = some (he I1 P' N) := fun P' => by rw [← hIw]; exact pt_gr_6 hg
  by_cases h8 : M1 8 g = 0
  · have e1 : mMade M1 (R + 1) g = mQueue (u2 M1 8 g 1) (-2 - nI g) := by unfold mMade; rw [if_pos h8]
    rw [e1] at hJ2 ⊢
    have hW2 : W2 = W + 1 := hJ2.ok.W_eq (by unfold mQueue; rw [u2_same, u2_ne (by decide), hJn.hW, nI_1]) (by have := hJn.ok.W; omega)
    subst hW2
    have hc := hJ2.ok.2.2.2.2.2.2.1
    have hb := hRn.both (a := 30) (b := 8) (k := g) (v := 1) rfl (by decide) (by omega) (by omega) (by decide)
    obtain ⟨I2, q1, q2⟩ := hb.queue (by rw [u2_ne (by decide)]; exact hJn.hW) (by omega) (-2 - nI g)
    have q1' := q1 X d N (by omega)
    refine ⟨I2, _, W + 1, ?_, q2, hJ2⟩
    rw [e19 rfl]
    simp (disch := first | decide | omega | assumption | (simp (disch := decide) only [u2_ne, u2_same, mQueue]; assumption)) only [kV_some, kI_some, kR_some, kR_any, kH_some, kC_none, kC_some, jv_rsv_ref, jv_rsv_rf, jv_nz_ref, jv_nz_null, jv_nz_rf0, jv_nz_rf1, jv_rq_r1, jv_rq_r0, n10, n11, n00, Nat.reduceEqDiff, Option.bind_some, Option.bind_none, jv_isr_ref, jv_isr_rf, jv_isr_null, va_rf_some, va_rf_none, jv_cat1_int, jv_cat1_ref, jv_cat1_rf, if_true, if_false, eq_self, Option.toList_some, Option.toList_none, List.cons_append, List.nil_append, Bool.and_self, Bool.and_true, i32_10, i32_01, i32_80, nI_div8, nI_mul4, nI_mul8, nI_mul32, nI_add, ↓reduceIte, u2_ne, u2_same, r19_0, r19_1, r19_4, r19_5, r19_6, r19_7, r19_9, r19_12, r19_14, r19_15, r19_16, r19_19, r19_20, r19_23, r19_26, r19_27, r19_28, r19_31, r19_32, r19_35, r19_37, r19_38, r19_41, r19_42, r19_45, r19_48, r19_49, r19_52, r19_53, r19_56, r19_57, r19_58, r19_61, r19_63, gt_1_3, ic_5, hadd, hfold, gt_gr_2, i30, h8, pt_gr_2, gt_1_4, gt_gr_0, ic_37, q1']
  · by_cases h82 : M1 8 g = 2
    · obtain ⟨I2, W3, q1, q2⟩ := c24 (X := X) (d := d) (N := N) ⟨hRn, hJn⟩ hg h82 (by omega)
      have e1 : mMade M1 (R + 1) g = mLook g (R + 1) (R + 1) 0 M1 := by unfold mMade mLooked; rw [if_neg h8, if_pos h82]
      rw [e1]
      refine ⟨I2, _, W3, ?_, q2⟩
      rw [e19 rfl]
      have n20 : ¬ (2 : Int32) = 0 := by decide
      simp (disch := first | decide | omega | assumption | (simp (disch := decide) only [u2_ne, u2_same, mQueue]; assumption)) only [kV_some, kI_some, kR_some, kR_any, kH_some, kC_none, kC_some, jv_rsv_ref, jv_rsv_rf, jv_nz_ref, jv_nz_null, jv_nz_rf0, jv_nz_rf1, jv_rq_r1, jv_rq_r0, n10, n11, n00, Nat.reduceEqDiff, Option.bind_some, Option.bind_none, jv_isr_ref, jv_isr_rf, jv_isr_null, va_rf_some, va_rf_none, jv_cat1_int, jv_cat1_ref, jv_cat1_rf, if_true, if_false, eq_self, Option.toList_some, Option.toList_none, List.cons_append, List.nil_append, Bool.and_self, Bool.and_true, i32_10, i32_01, i32_80, nI_div8, nI_mul4, nI_mul8, nI_mul32, nI_add, ↓reduceIte, u2_ne, u2_same, r19_0, r19_1, r19_4, r19_5, r19_6, r19_7, r19_9, r19_12, r19_14, r19_15, r19_16, r19_19, r19_20, r19_23, r19_26, r19_27, r19_28, r19_31, r19_32, r19_35, r19_37, r19_38, r19_41, r19_42, r19_45, r19_48, r19_49, r19_52, r19_53, r19_56, r19_57, r19_58, r19_61, r19_63, gt_1_3, ic_5, hadd, hfold, gt_gr_2, i30, h82, n20, ic_1, q1]
    · have e1 : mMade M1 (R + 1) g = M1 := by unfold mMade mLooked; rw [if_neg h8, if_neg h82]
      rw [e1]
      refine ⟨I1, _, W, ?_, hRn, hJn⟩
      rw [e19 rfl]
      simp (disch := first | decide | omega | assumption | (simp (disch := decide) only [u2_ne, u2_same, mQueue]; assumption)) only [kV_some, kI_some, kR_some, kR_any, kH_some, kC_none, kC_some, jv_rsv_ref, jv_rsv_rf, jv_nz_ref, jv_nz_null, jv_nz_rf0, jv_nz_rf1, jv_rq_r1, jv_rq_r0, n10, n11, n00, Nat.reduceEqDiff, Option.bind_some, Option.bind_none, jv_isr_ref, jv_isr_rf, jv_isr_null, va_rf_some, va_rf_none, jv_cat1_int, jv_cat1_ref, jv_cat1_rf, if_true, if_false, eq_self, Option.toList_some, Option.toList_none, List.cons_append, List.nil_append, Bool.and_self, Bool.and_true, i32_10, i32_01, i32_80, nI_div8, nI_mul4, nI_mul8, nI_mul32, nI_add, ↓reduceIte, u2_ne, u2_same, r19_0, r19_1, r19_4, r19_5, r19_6, r19_7, r19_9, r19_12, r19_14, r19_15, r19_16, r19_19, r19_20, r19_23, r19_26, r19_27, r19_28, r19_31, r19_32, r19_35, r19_37, r19_38, r19_41, r19_42, r19_45, r19_48, r19_49, r19_52, r19_53, r19_56, r19_57, r19_58, r19_61, r19_63, gt_1_3, ic_5, hadd, hfold, gt_gr_2, i30, h8, h82]
end CL
