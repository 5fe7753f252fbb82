/-! ===== the reference: run ===== -/
def mLs (M : Nat → Nat → Int32) (k : Nat) : Nat → Nat → Int32 := fun f j => if f = 30 ∧ j < k then M 30 (j + 1) else M f j
theorem mLs_0 (M : Nat → Nat → Int32) : mLs M 0 = M := by
  funext f j
  unfold mLs
  rw [if_neg (by omega)]
theorem mLs_at {M : Nat → Nat → Int32} {k f : Nat} (h : f ≠ 30) : mLs M k f = M f := by
  funext j
  unfold mLs
  rw [if_neg (fun z => h z.1)]
theorem mLs_hi {M : Nat → Nat → Int32} {k j : Nat} (h : k ≤ j) : mLs M k 30 j = M 30 j := by
  unfold mLs
  rw [if_neg (by omega)]
theorem mLs_lo {M : Nat → Nat → Int32} {k j : Nat} (h : j < k) : mLs M k 30 j = M 30 (j + 1) := by
  unfold mLs
  rw [if_pos ⟨rfl, h⟩]
theorem mLs_s {M : Nat → Nat → Int32} {k : Nat} : u2 (mLs M k) 30 k (M 30 (k + 1)) = mLs M (k + 1) := by
  funext f j
  by_cases hf : f = 30
  · subst hf
    rw [u2_at]
    by_cases hj : j = k
    · subst hj; rw [if_pos rfl, mLs_lo (by omega)]
    · rw [if_neg hj]
      by_cases hlt : j < k
      · rw [mLs_lo hlt, mLs_lo (by omega)]
      · rw [mLs_hi (by omega), mLs_hi (by omega)]
  · rw [u2_ne hf, mLs_at hf, mLs_at hf]
def mPop (M : Nat → Nat → Int32) (W : Nat) : Nat → Nat → Int32 := mLs (u2 M 31 0 (nI W)) W
theorem mPop_at {M : Nat → Nat → Int32} {W f : Nat} (h : f ≠ 30) (h2 : f ≠ 31) : mPop M W f = M f := by unfold mPop; rw [mLs_at h, u2_ne h2]
theorem mPop_30 {M : Nat → Nat → Int32} {W k : Nat} (h : k < W) : mPop M W 30 k = M 30 (k + 1) := by unfold mPop; rw [mLs_lo h, u2_ne (by decide)]
theorem mPop_31 {M : Nat → Nat → Int32} {W : Nat} : mPop M W 31 0 = nI W := by unfold mPop; rw [mLs_at (by decide), u2_same]
theorem J.pop {M : Nat → Nat → Int32} {R W O Q : Nat} (h : J M R (W + 1) (R + 32) O Q (-1) (-1)) : J (mPop M W) R W (R + 31) O Q (M 30 0) (-1) := by
  have h30 := h.h30
  have e : ∀ f, f ≠ 30 → f ≠ 31 → mPop M W f = M f := fun f a b => mPop_at a b
  refine ⟨⟨?_, h30, mPop_31, ?_, ?_, ?_, ?_, by omega⟩, ?_, ?_, ?_, ?_, ?_, ?_, ?_, ?_⟩
  · rw [e 28 (by decide) (by decide)]; exact h.hR
  · intro i hi
    obtain ⟨g, m, a, b⟩ := h.row hi
    exact ⟨g, m, a, by rw [e 18 (by decide) (by decide), e 19 (by decide) (by decide), e 22 (by decide) (by decide)]; exact b⟩
  · intro q hq
    rw [e 4 (by decide) (by decide)]; exact h.ok.2.2.2.2.1 q hq
  · intro i hi
    rw [e 26 (by decide) (by decide)]; exact h.ok.2.2.2.2.2.1 i hi
  · rw [e 23 (by decide) (by decide), e 8 (by decide) (by decide)]
    have := h.ok.2.2.2.2.2.2.1
    omega
  · rw [e 17 (by decide) (by decide), e 29 (by decide) (by decide)]; exact h.n
  · rw [e 18 (by decide) (by decide), e 23 (by decide) (by decide), e 8 (by decide) (by decide)]; exact h.s
  · rw [e 17 (by decide) (by decide), e 23 (by decide) (by decide), e 8 (by decide) (by decide)]
    refine h.l.pop (fun k hk => mPop_30 hk) (fun k hk z => ?_)
    rcases (h.l.1 0 (by omega)).2 with ⟨g, g1, g2, g3⟩ | ⟨j, j1, j2, j3⟩
    · exact absurd (z.trans g2) (ng_ne g1 (h.n.1 k hk).1)
    · have := h.n.inj hk j1 (z.trans j2)
      rw [this]; exact j3
  · rw [e 17 (by decide) (by decide), e 23 (by decide) (by decide), e 24 (by decide) (by decide), e 25 (by decide) (by decide), e 26 (by decide) (by decide), e 32 (by decide) (by decide), e 34 (by decide) (by decide)]; exact h.a
  · rw [e 36 (by decide) (by decide)]; exact h.o
  · rw [e 34 (by decide) (by decide), e 29 (by decide) (by decide)]; exact h.q
  · rw [e 8 (by decide) (by decide), e 9 (by decide) (by decide), e 10 (by decide) (by decide), e 11 (by decide) (by decide), e 15 (by decide) (by decide), e 14 (by decide) (by decide), e 16 (by decide) (by decide)]; exact h.g
  · rw [e 4 (by decide) (by decide), e 5 (by decide) (by decide), e 6 (by decide) (by decide), e 7 (by decide) (by decide)]; exact h.t
/-- one turn -/
noncomputable def mOneT (M : Nat → Nat → Int32) : Nat → Nat → Int32 :=
  if M 30 0 ≤ -2 then mCome (mPop M (nn (M 31 0) - 1)) (nn (-2 - M 30 0)) (nn (M 28 0)) else mTurn (M 30 0) 9 (mPop M (nn (M 31 0) - 1))
noncomputable def mRunL : Nat → (Nat → Nat → Int32) → (Nat → Nat → Int32)
  | 0, M => M
  | r + 1, M => if M 31 0 = 0 then M else mRunL r (mOneT M)
noncomputable def mRunN : Nat → (Nat → Nat → Int32) → Nat
  | 0, _ => 0
  | r + 1, M => if M 31 0 = 0 then 0 else mRunN r (mOneT M) + 1
/-- which of the two the first of the line is -/
theorem J.first {M : Nat → Nat → Int32} {R W O Q : Nat} (h : J M R (W + 1) (R + 32) O Q (-1) (-1)) : (∃ g : Nat, g < 32 ∧ M 30 0 = -2 - nI g ∧ M 8 g = 1 ∧ M 30 0 ≤ -2 ∧ mOneT M = mCome (mPop M W) g R) ∨ (∃ i, ¬ M 30 0 ≤ -2 ∧ runs (mPop M W) R W i O Q (M 30 0) ∧ mOneT M = mTurn (M 30 0) 9 (mPop M W)) := by
  have hW : nn (M 31 0) - 1 = W := by rw [h.nW]; omega
  have hR : nn (M 28 0) = R := by rw [h.hR, nn_nI (by have := h.h30; omega)]
  unfold mOneT
  rw [hW, hR]
  rcases (h.l.1 0 (by omega)).2 with ⟨g, g1, g2, g3⟩ | ⟨j, j1, j2, j3⟩
  · have hle : M 30 0 ≤ -2 := by rw [g2]; exact ng_le g1
    refine Or.inl ⟨g, g1, g2, g3, hle, ?_⟩
    rw [if_pos hle, g2, i32_ss, nn_nI (by omega)]
  · have h0 := (h.n.1 j j1).1
    have hle : ¬ M 30 0 ≤ -2 := by
      intro z
      rw [j2] at z
      exact absurd (Int32.le_trans h0 z) (by decide)
    refine Or.inr ⟨j, hle, ⟨h.pop, j1, by rw [mPop_at (by decide) (by decide)]; exact j2.symm, by rw [mPop_at (by decide) (by decide)]; exact j3⟩, ?_⟩
    rw [if_neg hle]
theorem J.oneT {M : Nat → Nat → Int32} {R W O Q : Nat} (h : J M R (W + 1) (R + 32) O Q (-1) (-1)) (hQ : Q + 9 < 2 ^ 30) : ∃ R' W', J (mOneT M) R' W' (R' + 32) O (Q + 9) (-1) (-1) := by
  rcases h.first with ⟨g, g1, g2, g3, g4, g5⟩ | ⟨i, i1, i2, i3⟩
  · rw [g5]
    have hp := h.pop
    rw [g2] at hp
    obtain ⟨-, R', W', q⟩ := t84 (X := (0, fun _ => 0)) (d := 4) (I := fun _ _ => 0) (P := fun _ _ => none) hp g1 (by rw [mPop_at (by decide) (by decide)]; exact g3) (Nat.le_refl _)
    exact ⟨R', W', q.mono (Nat.le_refl _) (by have := q.h30; omega) (by omega) hQ⟩
  · rw [i3]
    obtain ⟨g, m, a, n, hs, ha, -⟩ := i2.at
    exact J.turn 9 _ R W i Q a i2 hQ hs.2.2.2.2.1 ha (by omega) (by omega)
theorem s83s {X : Nat × (Nat → Int32)} {d : Nat} {I : Nat → Nat → Int32} {P : Nat → Nat → Option Nat} {M : Nat → Nat → Int32} {W : Nat} (hW : M 31 0 = nI W) (h64 : W < 64) : ∀ (r k : Nat), k + r = W → ∀ (a1 a2 a3 : Option Value), jl gw X d 83 47 [some (.ref 157), a1, a2, a3, some (.int (nI k))] [] (he I P (mLs M k)) = jl gw X d 83 78 [some (.ref 157), a1, a2, a3, some (.int (nI W))] [] (he I P (mLs M W)) := by
  intro r
  induction r with
  | zero =>
    intro k hk a1 a2 a3
    have hk : k = W := by omega
    subst hk
    have e31 : mLs M k 31 0 = nI k := by rw [mLs_at (by decide)]; exact hW
    rw [r83_47]
    simp (disch := first | decide | omega | assumption | (simp (disch := decide) only [u2_ne, u2_same, mQueue]; assumption)) only [kV_some, kI_some, kR_some, kR_any, kH_some, kC_none, kC_some, jv_rsv_ref, jv_rsv_rf, jv_nz_ref, jv_nz_null, jv_nz_rf0, jv_nz_rf1, jv_rq_r1, jv_rq_r0, n10, n11, n00, Nat.reduceEqDiff, Option.bind_some, Option.bind_none, jv_isr_ref, jv_isr_rf, jv_isr_null, va_rf_some, va_rf_none, jv_cat1_int, jv_cat1_ref, jv_cat1_rf, if_true, if_false, eq_self, Option.toList_some, Option.toList_none, List.cons_append, List.nil_append, Bool.and_self, Bool.and_true, i32_10, i32_01, i32_80, nI_div8, nI_mul4, nI_mul8, nI_mul32, nI_add, ↓reduceIte, u2_ne, u2_same, r83_0, r83_1, r83_2, r83_3, r83_5, r83_8, r83_11, r83_12, r83_13, r83_14, r83_16, r83_17, r83_20, r83_21, r83_24, r83_27, r83_28, r83_31, r83_32, r83_33, r83_34, r83_35, r83_36, r83_39, r83_40, r83_41, r83_44, r83_45, r83_49, r83_50, r83_53, r83_56, r83_57, r83_60, r83_62, r83_63, r83_66, r83_68, r83_69, r83_70, r83_71, r83_72, r83_75, r83_79, r83_81, r83_84, r83_85, r83_87, r83_88, r83_89, r83_92, r83_95, r83_96, r83_100, r83_103, r83_104, r83_105, r83_106, r83_109, r83_112, r83_114, r83_117, r83_120, r83_123, r83_124, r83_125, r83_128, r83_129, r83_130, r83_133, r83_134, gt_157_31, e31, Int32.le_refl]
  | succ r ih =>
    intro k hk a1 a2 a3
    have e31 : mLs M k 31 0 = nI W := by rw [mLs_at (by decide)]; exact hW
    have h1 : ¬ nI W ≤ nI k := nI_ge (by omega) (by omega)
    have e30 : mLs M k 30 (k + 1) = M 30 (k + 1) := mLs_hi (by omega)
    rw [r83_47]
    simp (disch := first | decide | omega | assumption | (simp (disch := decide) only [u2_ne, u2_same, mQueue]; assumption)) only [kV_some, kI_some, kR_some, kR_any, kH_some, kC_none, kC_some, jv_rsv_ref, jv_rsv_rf, jv_nz_ref, jv_nz_null, jv_nz_rf0, jv_nz_rf1, jv_rq_r1, jv_rq_r0, n10, n11, n00, Nat.reduceEqDiff, Option.bind_some, Option.bind_none, jv_isr_ref, jv_isr_rf, jv_isr_null, va_rf_some, va_rf_none, jv_cat1_int, jv_cat1_ref, jv_cat1_rf, if_true, if_false, eq_self, Option.toList_some, Option.toList_none, List.cons_append, List.nil_append, Bool.and_self, Bool.and_true, i32_10, i32_01, i32_80, nI_div8, nI_mul4, nI_mul8, nI_mul32, nI_add, ↓reduceIte, u2_ne, u2_same, r83_0, r83_1, r83_2, r83_3, r83_5, r83_8, r83_11, r83_12, r83_13, r83_14, r83_16, r83_17, r83_20, r83_21, r83_24, r83_27, r83_28, r83_31, r83_32, r83_33, r83_34, r83_35, r83_36, r83_39, r83_40, r83_41, r83_44, r83_45, r83_49, r83_50, r83_53, r83_56, r83_57, r83_60, r83_62, r83_63, r83_66, r83_68, r83_69, r83_70, r83_71, r83_72, r83_75, r83_79, r83_81, r83_84, r83_85, r83_87, r83_88, r83_89, r83_92, r83_95, r83_96, r83_100, r83_103, r83_104, r83_105, r83_106, r83_109, r83_112, r83_114, r83_117, r83_120, r83_123, r83_124, r83_125, r83_128, r83_129, r83_130, r83_133, r83_134, gt_157_31, e31, h1, gt_157_30, rd_186, wr_186, nI_1, e30, mLs_s]
    exact ih (k + 1) (by omega) a1 a2 a3
theorem s83t {X : Nat × (Nat → Int32)} {d : Nat} {I : Nat → Nat → Int32} {P : Nat → Nat → Option Nat} {O : Nat} {y : Int32} (hd : 5 ≤ d) : ∀ (f : Nat) (M : Nat → Nat → Int32) (R W i Q a : Nat), runs M R W i O Q y → Q + f < 2 ^ 30 → M 22 i = nI a → a < 100 → 9 ≤ a + f → 0 < f → ∀ (a1 a2 : Option Value), jl gw X d 83 98 [some (.ref 157), a1, a2, some (.int y), some (.int 1)] [] (he I P M) = jl gw X d 83 117 [some (.ref 157), a1, a2, some (.int y), some (.int 0)] [] (he I P (mTurn y f M)) := by
  intro f
  induction f with
  | zero => intro M R W i Q a _ _ _ _ _ h0; exact absurd h0 (by omega)
  | succ f ih =>
    intro M R W i Q a h hQ ha ha2 h9 _ a1 a2
    obtain ⟨g, m, a', n, hs, ha', -⟩ := h.at
    have : a' = a := (nI_eq (by omega) (by omega)).mp (hs.2.2.2.2.1.symm.trans ha)
    subst this
    have h30 := h.1.h30
    have hfd : mFind M y R 0 = nI i := mFind_at h.1.n h.2.1 h.2.2.1
    rw [mTurn_s h hs ha2, r83_98]
    by_cases hz : n ≤ a'
    · rw [if_pos hz]
      obtain ⟨R0, hR0⟩ : ∃ q, R = q + 1 := ⟨R - 1, by have := h.2.1; omega⟩
      have hact := (t100e (X := X) (d := d) (I := I) (P := P) (R := R0) (by have := h.1.ok; rw [hR0] at this; exact this) (by have := h.2.1; omega) h.2.2.2 hs ha2 hz (by omega)).1
      rw [← hR0] at hact
      simp (disch := first | decide | omega | assumption | (simp (disch := decide) only [u2_ne, u2_same, mQueue]; assumption)) only [kV_some, kI_some, kR_some, kR_any, kH_some, kC_none, kC_some, jv_rsv_ref, jv_rsv_rf, jv_nz_ref, jv_nz_null, jv_nz_rf0, jv_nz_rf1, jv_rq_r1, jv_rq_r0, n10, n11, n00, Nat.reduceEqDiff, Option.bind_some, Option.bind_none, jv_isr_ref, jv_isr_rf, jv_isr_null, va_rf_some, va_rf_none, jv_cat1_int, jv_cat1_ref, jv_cat1_rf, if_true, if_false, eq_self, Option.toList_some, Option.toList_none, List.cons_append, List.nil_append, Bool.and_self, Bool.and_true, i32_10, i32_01, i32_80, nI_div8, nI_mul4, nI_mul8, nI_mul32, nI_add, ↓reduceIte, u2_ne, u2_same, r83_0, r83_1, r83_2, r83_3, r83_5, r83_8, r83_11, r83_12, r83_13, r83_14, r83_16, r83_17, r83_20, r83_21, r83_24, r83_27, r83_28, r83_31, r83_32, r83_33, r83_34, r83_35, r83_36, r83_39, r83_40, r83_41, r83_44, r83_45, r83_49, r83_50, r83_53, r83_56, r83_57, r83_60, r83_62, r83_63, r83_66, r83_68, r83_69, r83_70, r83_71, r83_72, r83_75, r83_78, r83_79, r83_81, r83_84, r83_85, r83_87, r83_88, r83_89, r83_92, r83_95, r83_96, r83_100, r83_103, r83_104, r83_105, r83_106, r83_109, r83_112, r83_114, r83_120, r83_123, r83_124, r83_125, r83_128, r83_129, r83_130, r83_133, r83_134, ic_157, t94 h.1.hR h30, hfd, hact]
      rw [r83_98]
      simp (disch := first | decide | omega | assumption | (simp (disch := decide) only [u2_ne, u2_same, mQueue]; assumption)) only [kV_some, kI_some, kR_some, kR_any, kH_some, kC_none, kC_some, jv_rsv_ref, jv_rsv_rf, jv_nz_ref, jv_nz_null, jv_nz_rf0, jv_nz_rf1, jv_rq_r1, jv_rq_r0, n10, n11, n00, Nat.reduceEqDiff, Option.bind_some, Option.bind_none, jv_isr_ref, jv_isr_rf, jv_isr_null, va_rf_some, va_rf_none, jv_cat1_int, jv_cat1_ref, jv_cat1_rf, if_true, if_false, eq_self, Option.toList_some, Option.toList_none, List.cons_append, List.nil_append, Bool.and_self, Bool.and_true, i32_10, i32_01, i32_80, nI_div8, nI_mul4, nI_mul8, nI_mul32, nI_add, ↓reduceIte, u2_ne, u2_same, r83_0, r83_1, r83_2, r83_3, r83_5, r83_8, r83_11, r83_12, r83_13, r83_14, r83_16, r83_17, r83_20, r83_21, r83_24, r83_27, r83_28, r83_31, r83_32, r83_33, r83_34, r83_35, r83_36, r83_39, r83_40, r83_41, r83_44, r83_45, r83_49, r83_50, r83_53, r83_56, r83_57, r83_60, r83_62, r83_63, r83_66, r83_68, r83_69, r83_70, r83_71, r83_72, r83_75, r83_78, r83_79, r83_81, r83_84, r83_85, r83_87, r83_88, r83_89, r83_92, r83_95, r83_96, r83_100, r83_103, r83_104, r83_105, r83_106, r83_109, r83_112, r83_114, r83_120, r83_123, r83_124, r83_125, r83_128, r83_129, r83_130, r83_133, r83_134]
    · rw [if_neg hz]
      have hact := u100 (X := X) (d := d) (I := I) (P := P) h (by omega) hs (by omega) hd
      rcases mDo_J h (by omega) hs (by omega) with ⟨r1, R', W', r2, r3, r4, r5, b, b1, b2, b3⟩ | ⟨r1, R', W', r2⟩ | ⟨r1, r2⟩
      · have e : actR (mDo M R i) R i = (1, (mDo M R i).1) := by unfold actR; rw [if_pos r1]
        rw [e] at hact
        rw [if_pos r1]
        simp (disch := first | decide | omega | assumption | (simp (disch := decide) only [u2_ne, u2_same, mQueue]; assumption)) only [kV_some, kI_some, kR_some, kR_any, kH_some, kC_none, kC_some, jv_rsv_ref, jv_rsv_rf, jv_nz_ref, jv_nz_null, jv_nz_rf0, jv_nz_rf1, jv_rq_r1, jv_rq_r0, n10, n11, n00, Nat.reduceEqDiff, Option.bind_some, Option.bind_none, jv_isr_ref, jv_isr_rf, jv_isr_null, va_rf_some, va_rf_none, jv_cat1_int, jv_cat1_ref, jv_cat1_rf, if_true, if_false, eq_self, Option.toList_some, Option.toList_none, List.cons_append, List.nil_append, Bool.and_self, Bool.and_true, i32_10, i32_01, i32_80, nI_div8, nI_mul4, nI_mul8, nI_mul32, nI_add, ↓reduceIte, u2_ne, u2_same, r83_0, r83_1, r83_2, r83_3, r83_5, r83_8, r83_11, r83_12, r83_13, r83_14, r83_16, r83_17, r83_20, r83_21, r83_24, r83_27, r83_28, r83_31, r83_32, r83_33, r83_34, r83_35, r83_36, r83_39, r83_40, r83_41, r83_44, r83_45, r83_49, r83_50, r83_53, r83_56, r83_57, r83_60, r83_62, r83_63, r83_66, r83_68, r83_69, r83_70, r83_71, r83_72, r83_75, r83_78, r83_79, r83_81, r83_84, r83_85, r83_87, r83_88, r83_89, r83_92, r83_95, r83_96, r83_100, r83_103, r83_104, r83_105, r83_106, r83_109, r83_112, r83_114, r83_120, r83_123, r83_124, r83_125, r83_128, r83_129, r83_130, r83_133, r83_134, ic_157, t94 h.1.hR h30, hfd, hact]
        exact ih _ R' W' i (Q + 1) b r2 (by omega) b1 (by omega) (by omega) (by have := hs.2.2.2.2.2.2; omega) a1 a2
      · have e : actR (mDo M R i) R i = (0, (mDo M R i).1) := by unfold actR; rw [if_neg (by rw [r1]; decide), if_pos r1]
        rw [e] at hact
        rw [if_neg (by rw [r1]; decide), if_pos r1]
        simp (disch := first | decide | omega | assumption | (simp (disch := decide) only [u2_ne, u2_same, mQueue]; assumption)) only [kV_some, kI_some, kR_some, kR_any, kH_some, kC_none, kC_some, jv_rsv_ref, jv_rsv_rf, jv_nz_ref, jv_nz_null, jv_nz_rf0, jv_nz_rf1, jv_rq_r1, jv_rq_r0, n10, n11, n00, Nat.reduceEqDiff, Option.bind_some, Option.bind_none, jv_isr_ref, jv_isr_rf, jv_isr_null, va_rf_some, va_rf_none, jv_cat1_int, jv_cat1_ref, jv_cat1_rf, if_true, if_false, eq_self, Option.toList_some, Option.toList_none, List.cons_append, List.nil_append, Bool.and_self, Bool.and_true, i32_10, i32_01, i32_80, nI_div8, nI_mul4, nI_mul8, nI_mul32, nI_add, ↓reduceIte, u2_ne, u2_same, r83_0, r83_1, r83_2, r83_3, r83_5, r83_8, r83_11, r83_12, r83_13, r83_14, r83_16, r83_17, r83_20, r83_21, r83_24, r83_27, r83_28, r83_31, r83_32, r83_33, r83_34, r83_35, r83_36, r83_39, r83_40, r83_41, r83_44, r83_45, r83_49, r83_50, r83_53, r83_56, r83_57, r83_60, r83_62, r83_63, r83_66, r83_68, r83_69, r83_70, r83_71, r83_72, r83_75, r83_78, r83_79, r83_81, r83_84, r83_85, r83_87, r83_88, r83_89, r83_92, r83_95, r83_96, r83_100, r83_103, r83_104, r83_105, r83_106, r83_109, r83_112, r83_114, r83_120, r83_123, r83_124, r83_125, r83_128, r83_129, r83_130, r83_133, r83_134, ic_157, t94 h.1.hR h30, hfd, hact]
        rw [r83_98]
        simp (disch := first | decide | omega | assumption | (simp (disch := decide) only [u2_ne, u2_same, mQueue]; assumption)) only [kV_some, kI_some, kR_some, kR_any, kH_some, kC_none, kC_some, jv_rsv_ref, jv_rsv_rf, jv_nz_ref, jv_nz_null, jv_nz_rf0, jv_nz_rf1, jv_rq_r1, jv_rq_r0, n10, n11, n00, Nat.reduceEqDiff, Option.bind_some, Option.bind_none, jv_isr_ref, jv_isr_rf, jv_isr_null, va_rf_some, va_rf_none, jv_cat1_int, jv_cat1_ref, jv_cat1_rf, if_true, if_false, eq_self, Option.toList_some, Option.toList_none, List.cons_append, List.nil_append, Bool.and_self, Bool.and_true, i32_10, i32_01, i32_80, nI_div8, nI_mul4, nI_mul8, nI_mul32, nI_add, ↓reduceIte, u2_ne, u2_same, r83_0, r83_1, r83_2, r83_3, r83_5, r83_8, r83_11, r83_12, r83_13, r83_14, r83_16, r83_17, r83_20, r83_21, r83_24, r83_27, r83_28, r83_31, r83_32, r83_33, r83_34, r83_35, r83_36, r83_39, r83_40, r83_41, r83_44, r83_45, r83_49, r83_50, r83_53, r83_56, r83_57, r83_60, r83_62, r83_63, r83_66, r83_68, r83_69, r83_70, r83_71, r83_72, r83_75, r83_78, r83_79, r83_81, r83_84, r83_85, r83_87, r83_88, r83_89, r83_92, r83_95, r83_96, r83_100, r83_103, r83_104, r83_105, r83_106, r83_109, r83_112, r83_114, r83_120, r83_123, r83_124, r83_125, r83_128, r83_129, r83_130, r83_133, r83_134]
      · have n1 : ¬ (mDo M R i).2 = 0 := fun z => by rw [z] at r1; exact absurd r1 (by decide)
        have n2 : ¬ (mDo M R i).2 = -1 := fun z => by rw [z] at r1; exact absurd r1 (by decide)
        have e : actR (mDo M R i) R i = (0, mOver (mDo M R i).1 R i 0 (mDo M R i).2) := by unfold actR; rw [if_neg n1, if_neg n2]
        rw [e] at hact
        rw [if_neg n1, if_neg n2]
        simp (disch := first | decide | omega | assumption | (simp (disch := decide) only [u2_ne, u2_same, mQueue]; assumption)) only [kV_some, kI_some, kR_some, kR_any, kH_some, kC_none, kC_some, jv_rsv_ref, jv_rsv_rf, jv_nz_ref, jv_nz_null, jv_nz_rf0, jv_nz_rf1, jv_rq_r1, jv_rq_r0, n10, n11, n00, Nat.reduceEqDiff, Option.bind_some, Option.bind_none, jv_isr_ref, jv_isr_rf, jv_isr_null, va_rf_some, va_rf_none, jv_cat1_int, jv_cat1_ref, jv_cat1_rf, if_true, if_false, eq_self, Option.toList_some, Option.toList_none, List.cons_append, List.nil_append, Bool.and_self, Bool.and_true, i32_10, i32_01, i32_80, nI_div8, nI_mul4, nI_mul8, nI_mul32, nI_add, ↓reduceIte, u2_ne, u2_same, r83_0, r83_1, r83_2, r83_3, r83_5, r83_8, r83_11, r83_12, r83_13, r83_14, r83_16, r83_17, r83_20, r83_21, r83_24, r83_27, r83_28, r83_31, r83_32, r83_33, r83_34, r83_35, r83_36, r83_39, r83_40, r83_41, r83_44, r83_45, r83_49, r83_50, r83_53, r83_56, r83_57, r83_60, r83_62, r83_63, r83_66, r83_68, r83_69, r83_70, r83_71, r83_72, r83_75, r83_78, r83_79, r83_81, r83_84, r83_85, r83_87, r83_88, r83_89, r83_92, r83_95, r83_96, r83_100, r83_103, r83_104, r83_105, r83_106, r83_109, r83_112, r83_114, r83_120, r83_123, r83_124, r83_125, r83_128, r83_129, r83_130, r83_133, r83_134, ic_157, t94 h.1.hR h30, hfd, hact]
        rw [r83_98]
        simp (disch := first | decide | omega | assumption | (simp (disch := decide) only [u2_ne, u2_same, mQueue]; assumption)) only [kV_some, kI_some, kR_some, kR_any, kH_some, kC_none, kC_some, jv_rsv_ref, jv_rsv_rf, jv_nz_ref, jv_nz_null, jv_nz_rf0, jv_nz_rf1, jv_rq_r1, jv_rq_r0, n10, n11, n00, Nat.reduceEqDiff, Option.bind_some, Option.bind_none, jv_isr_ref, jv_isr_rf, jv_isr_null, va_rf_some, va_rf_none, jv_cat1_int, jv_cat1_ref, jv_cat1_rf, if_true, if_false, eq_self, Option.toList_some, Option.toList_none, List.cons_append, List.nil_append, Bool.and_self, Bool.and_true, i32_10, i32_01, i32_80, nI_div8, nI_mul4, nI_mul8, nI_mul32, nI_add, ↓reduceIte, u2_ne, u2_same, r83_0, r83_1, r83_2, r83_3, r83_5, r83_8, r83_11, r83_12, r83_13, r83_14, r83_16, r83_17, r83_20, r83_21, r83_24, r83_27, r83_28, r83_31, r83_32, r83_33, r83_34, r83_35, r83_36, r83_39, r83_40, r83_41, r83_44, r83_45, r83_49, r83_50, r83_53, r83_56, r83_57, r83_60, r83_62, r83_63, r83_66, r83_68, r83_69, r83_70, r83_71, r83_72, r83_75, r83_78, r83_79, r83_81, r83_84, r83_85, r83_87, r83_88, r83_89, r83_92, r83_95, r83_96, r83_100, r83_103, r83_104, r83_105, r83_106, r83_109, r83_112, r83_114, r83_120, r83_123, r83_124, r83_125, r83_128, r83_129, r83_130, r83_133, r83_134]
theorem s83l {X : Nat × (Nat → Int32)} {d : Nat} {I : Nat → Nat → Int32} {P : Nat → Nat → Option Nat} {O n : Nat} (hn : n ≤ 40) (hd : 5 ≤ d) : ∀ (r : Nat) (M : Nat → Nat → Int32) (R W Q done : Nat), J M R W (R + 32) O Q (-1) (-1) → Q + 9 * r < 2 ^ 30 → done + r = n → ∀ (a3 a4 : Option Value), jl gw X d 83 15 [some (.ref 157), some (.int (nI n)), some (.int (nI done)), a3, a4] [] (he I P M) = some (some (.int (nI (done + mRunN r M))), he I P (u2 (mRunL r M) 40 0 (mRunL r M 40 0 + nI (done + mRunN r M)))) := by
  intro r
  induction r with
  | zero =>
    intro M R W Q done h hQ hr a3 a4
    have : done = n := by omega
    subst this
    rw [r83_15]
    simp (disch := first | decide | omega | assumption | (simp (disch := decide) only [u2_ne, u2_same, mQueue]; assumption)) only [kV_some, kI_some, kR_some, kR_any, kH_some, kC_none, kC_some, jv_rsv_ref, jv_rsv_rf, jv_nz_ref, jv_nz_null, jv_nz_rf0, jv_nz_rf1, jv_rq_r1, jv_rq_r0, n10, n11, n00, Nat.reduceEqDiff, Option.bind_some, Option.bind_none, jv_isr_ref, jv_isr_rf, jv_isr_null, va_rf_some, va_rf_none, jv_cat1_int, jv_cat1_ref, jv_cat1_rf, if_true, if_false, eq_self, Option.toList_some, Option.toList_none, List.cons_append, List.nil_append, Bool.and_self, Bool.and_true, i32_10, i32_01, i32_80, nI_div8, nI_mul4, nI_mul8, nI_mul32, nI_add, ↓reduceIte, u2_ne, u2_same, r83_0, r83_1, r83_2, r83_3, r83_5, r83_8, r83_11, r83_12, r83_13, r83_14, r83_16, r83_17, r83_20, r83_21, r83_24, r83_27, r83_28, r83_31, r83_32, r83_33, r83_34, r83_35, r83_36, r83_39, r83_40, r83_41, r83_44, r83_45, r83_49, r83_50, r83_53, r83_56, r83_57, r83_60, r83_62, r83_63, r83_66, r83_68, r83_69, r83_70, r83_71, r83_72, r83_75, r83_78, r83_79, r83_81, r83_84, r83_85, r83_87, r83_88, r83_89, r83_92, r83_95, r83_96, r83_100, r83_103, r83_104, r83_105, r83_106, r83_109, r83_112, r83_114, r83_117, r83_120, r83_123, r83_124, r83_125, r83_128, r83_129, r83_130, r83_133, r83_134, Int32.le_refl, gt_157_40, pt_157_40, mRunL, mRunN, Nat.add_zero]
  | succ r ih =>
    intro M R W Q done h hQ hr a3 a4
    have h1 : ¬ nI n ≤ nI done := nI_ge (by omega) (by omega)
    have h31 := h.hW
    rw [r83_15]
    by_cases hW : W = 0
    · subst hW
      have h0 : M 31 0 = 0 := h31
      simp (disch := first | decide | omega | assumption | (simp (disch := decide) only [u2_ne, u2_same, mQueue]; assumption)) only [kV_some, kI_some, kR_some, kR_any, kH_some, kC_none, kC_some, jv_rsv_ref, jv_rsv_rf, jv_nz_ref, jv_nz_null, jv_nz_rf0, jv_nz_rf1, jv_rq_r1, jv_rq_r0, n10, n11, n00, Nat.reduceEqDiff, Option.bind_some, Option.bind_none, jv_isr_ref, jv_isr_rf, jv_isr_null, va_rf_some, va_rf_none, jv_cat1_int, jv_cat1_ref, jv_cat1_rf, if_true, if_false, eq_self, Option.toList_some, Option.toList_none, List.cons_append, List.nil_append, Bool.and_self, Bool.and_true, i32_10, i32_01, i32_80, nI_div8, nI_mul4, nI_mul8, nI_mul32, nI_add, ↓reduceIte, u2_ne, u2_same, r83_0, r83_1, r83_2, r83_3, r83_5, r83_8, r83_11, r83_12, r83_13, r83_14, r83_16, r83_17, r83_20, r83_21, r83_24, r83_27, r83_28, r83_31, r83_32, r83_33, r83_34, r83_35, r83_36, r83_39, r83_40, r83_41, r83_44, r83_45, r83_49, r83_50, r83_53, r83_56, r83_57, r83_60, r83_62, r83_63, r83_66, r83_68, r83_69, r83_70, r83_71, r83_72, r83_75, r83_78, r83_79, r83_81, r83_84, r83_85, r83_87, r83_88, r83_89, r83_92, r83_95, r83_96, r83_100, r83_103, r83_104, r83_105, r83_106, r83_109, r83_112, r83_114, r83_117, r83_120, r83_123, r83_124, r83_125, r83_128, r83_129, r83_130, r83_133, r83_134, h1, gt_157_31, h0, i32_le0, gt_157_40, pt_157_40, mRunL, mRunN, Nat.add_zero]
    · obtain ⟨V, rfl⟩ : ∃ q, W = q + 1 := ⟨W - 1, by omega⟩
      have hV := h.ok.W
      have h0 : ¬ M 31 0 ≤ 0 := by rw [h31]; exact nI_ge (b := V + 1) (a := 0) (by omega) (by omega)
      have h0' : ¬ M 31 0 = 0 := by rw [h31]; exact nI_ne0 (by omega) (by omega)
      have hp : nI (V + 1) - 1 = nI V := nI_pred V
      have i0 : ∀ {j : Int32}, j = nI 0 → jv_rdi X (he I P M) 186 j = some (M 30 0) := fun e => by rw [e]; exact rd_186 (by omega)
      have hrd := i0 (j := 0) rfl
      obtain ⟨R', W', hJ⟩ := h.oneT (by omega)
      have hsh := s83s (X := X) (d := d) (I := I) (P := P) (M := u2 M 31 0 (nI V)) (W := V) u2_same (by omega) V 0 (by omega) (some (.int (nI n))) (some (.int (nI done))) (some (.int (M 30 0)))
      rw [mLs_0] at hsh
      have ihh := ih (mOneT M) R' W' (Q + 9) (done + 1) hJ (by omega) (by omega)
      have e1 : mRunL (r + 1) M = mRunL r (mOneT M) := by rw [mRunL, if_neg h0']
      have e2 : done + mRunN (r + 1) M = done + 1 + mRunN r (mOneT M) := by rw [mRunN, if_neg h0']; omega
      rw [e1, e2]
      simp (disch := first | decide | omega | assumption | (simp (disch := decide) only [u2_ne, u2_same, mQueue]; assumption)) only [kV_some, kI_some, kR_some, kR_any, kH_some, kC_none, kC_some, jv_rsv_ref, jv_rsv_rf, jv_nz_ref, jv_nz_null, jv_nz_rf0, jv_nz_rf1, jv_rq_r1, jv_rq_r0, n10, n11, n00, Nat.reduceEqDiff, Option.bind_some, Option.bind_none, jv_isr_ref, jv_isr_rf, jv_isr_null, va_rf_some, va_rf_none, jv_cat1_int, jv_cat1_ref, jv_cat1_rf, if_true, if_false, eq_self, Option.toList_some, Option.toList_none, List.cons_append, List.nil_append, Bool.and_self, Bool.and_true, i32_10, i32_01, i32_80, nI_div8, nI_mul4, nI_mul8, nI_mul32, nI_add, ↓reduceIte, u2_ne, u2_same, r83_0, r83_1, r83_2, r83_3, r83_5, r83_8, r83_11, r83_12, r83_13, r83_14, r83_16, r83_17, r83_20, r83_21, r83_24, r83_27, r83_28, r83_31, r83_32, r83_33, r83_34, r83_35, r83_36, r83_39, r83_40, r83_41, r83_44, r83_45, r83_49, r83_50, r83_53, r83_56, r83_57, r83_60, r83_62, r83_63, r83_66, r83_68, r83_69, r83_70, r83_71, r83_72, r83_75, r83_78, r83_79, r83_81, r83_84, r83_85, r83_87, r83_88, r83_89, r83_92, r83_95, r83_96, r83_100, r83_103, r83_104, r83_105, r83_106, r83_109, r83_112, r83_114, r83_117, r83_120, r83_123, r83_124, r83_125, r83_128, r83_129, r83_130, r83_133, r83_134, h1, h0, gt_157_31, h31, gt_157_30, hrd, pt_157_31, hp]
      rw [if_neg (by rw [← h31]; exact h0)]
      rw [show (0 : Int32) = nI 0 from rfl, hsh, show mLs (u2 M 31 0 (nI V)) V = mPop M V from rfl, r83_78]
      rcases h.first with ⟨g, g1, g2, g3, g4, g5⟩ | ⟨i, i1, i2, i3⟩
      · have hpop := h.pop
        rw [g2] at hpop
        have hc := (t84 (X := X) (d := d) (I := I) (P := P) hpop g1 (by rw [mPop_at (by decide) (by decide)]; exact g3) (by omega)).1
        have g4' : ¬ -2 < M 30 0 := Int32.not_lt.mpr g4
        rw [g5] at ihh ⊢
        rw [g2] at g4'
        rw [g2]
        simp (disch := first | decide | omega | assumption | (simp (disch := decide) only [u2_ne, u2_same, mQueue]; assumption)) only [kV_some, kI_some, kR_some, kR_any, kH_some, kC_none, kC_some, jv_rsv_ref, jv_rsv_rf, jv_nz_ref, jv_nz_null, jv_nz_rf0, jv_nz_rf1, jv_rq_r1, jv_rq_r0, n10, n11, n00, Nat.reduceEqDiff, Option.bind_some, Option.bind_none, jv_isr_ref, jv_isr_rf, jv_isr_null, va_rf_some, va_rf_none, jv_cat1_int, jv_cat1_ref, jv_cat1_rf, if_true, if_false, eq_self, Option.toList_some, Option.toList_none, List.cons_append, List.nil_append, Bool.and_self, Bool.and_true, i32_10, i32_01, i32_80, nI_div8, nI_mul4, nI_mul8, nI_mul32, nI_add, ↓reduceIte, u2_ne, u2_same, r83_0, r83_1, r83_2, r83_3, r83_5, r83_8, r83_11, r83_12, r83_13, r83_14, r83_16, r83_17, r83_20, r83_21, r83_24, r83_27, r83_28, r83_31, r83_32, r83_33, r83_34, r83_35, r83_36, r83_39, r83_40, r83_41, r83_44, r83_45, r83_49, r83_50, r83_53, r83_56, r83_57, r83_60, r83_62, r83_63, r83_66, r83_68, r83_69, r83_70, r83_71, r83_72, r83_75, r83_78, r83_79, r83_81, r83_84, r83_85, r83_87, r83_88, r83_89, r83_92, r83_95, r83_96, r83_100, r83_103, r83_104, r83_105, r83_106, r83_109, r83_112, r83_114, r83_117, r83_120, r83_123, r83_124, r83_125, r83_128, r83_129, r83_130, r83_133, r83_134, ic_157, g4', i32_ss, hc, nI_1]
        exact ihh _ _
      · have i1' : -2 < M 30 0 := Int32.not_le.mp i1
        obtain ⟨g, m, a, nn2, hs, ha, -⟩ := i2.at
        have ht := s83t (X := X) (d := d) (I := I) (P := P) hd 9 _ R V i Q a i2 (by omega) hs.2.2.2.2.1 ha (by omega) (by omega) (some (.int (nI n))) (some (.int (nI done)))
        rw [i3] at ihh ⊢
        simp (disch := first | decide | omega | assumption | (simp (disch := decide) only [u2_ne, u2_same, mQueue]; assumption)) only [kV_some, kI_some, kR_some, kR_any, kH_some, kC_none, kC_some, jv_rsv_ref, jv_rsv_rf, jv_nz_ref, jv_nz_null, jv_nz_rf0, jv_nz_rf1, jv_rq_r1, jv_rq_r0, n10, n11, n00, Nat.reduceEqDiff, Option.bind_some, Option.bind_none, jv_isr_ref, jv_isr_rf, jv_isr_null, va_rf_some, va_rf_none, jv_cat1_int, jv_cat1_ref, jv_cat1_rf, if_true, if_false, eq_self, Option.toList_some, Option.toList_none, List.cons_append, List.nil_append, Bool.and_self, Bool.and_true, i32_10, i32_01, i32_80, nI_div8, nI_mul4, nI_mul8, nI_mul32, nI_add, ↓reduceIte, u2_ne, u2_same, r83_0, r83_1, r83_2, r83_3, r83_5, r83_8, r83_11, r83_12, r83_13, r83_14, r83_16, r83_17, r83_20, r83_21, r83_24, r83_27, r83_28, r83_31, r83_32, r83_33, r83_34, r83_35, r83_36, r83_39, r83_40, r83_41, r83_44, r83_45, r83_49, r83_50, r83_53, r83_56, r83_57, r83_60, r83_62, r83_63, r83_66, r83_68, r83_69, r83_70, r83_71, r83_72, r83_75, r83_78, r83_79, r83_81, r83_84, r83_85, r83_87, r83_88, r83_89, r83_92, r83_95, r83_96, r83_100, r83_103, r83_104, r83_105, r83_106, r83_109, r83_112, r83_114, r83_120, r83_123, r83_124, r83_125, r83_128, r83_129, r83_130, r83_133, r83_134, i1']
        rw [ht, r83_117]
        simp (disch := first | decide | omega | assumption | (simp (disch := decide) only [u2_ne, u2_same, mQueue]; assumption)) only [kV_some, kI_some, kR_some, kR_any, kH_some, kC_none, kC_some, jv_rsv_ref, jv_rsv_rf, jv_nz_ref, jv_nz_null, jv_nz_rf0, jv_nz_rf1, jv_rq_r1, jv_rq_r0, n10, n11, n00, Nat.reduceEqDiff, Option.bind_some, Option.bind_none, jv_isr_ref, jv_isr_rf, jv_isr_null, va_rf_some, va_rf_none, jv_cat1_int, jv_cat1_ref, jv_cat1_rf, if_true, if_false, eq_self, Option.toList_some, Option.toList_none, List.cons_append, List.nil_append, Bool.and_self, Bool.and_true, i32_10, i32_01, i32_80, nI_div8, nI_mul4, nI_mul8, nI_mul32, nI_add, ↓reduceIte, u2_ne, u2_same, r83_0, r83_1, r83_2, r83_3, r83_5, r83_8, r83_11, r83_12, r83_13, r83_14, r83_16, r83_17, r83_20, r83_21, r83_24, r83_27, r83_28, r83_31, r83_32, r83_33, r83_34, r83_35, r83_36, r83_39, r83_40, r83_41, r83_44, r83_45, r83_49, r83_50, r83_53, r83_56, r83_57, r83_60, r83_62, r83_63, r83_66, r83_68, r83_69, r83_70, r83_71, r83_72, r83_75, r83_78, r83_79, r83_81, r83_84, r83_85, r83_87, r83_88, r83_89, r83_92, r83_95, r83_96, r83_100, r83_103, r83_104, r83_105, r83_106, r83_109, r83_112, r83_114, r83_117, r83_120, r83_123, r83_124, r83_125, r83_128, r83_129, r83_130, r83_133, r83_134, nI_1]
        exact ihh _ _
/-- run(n) -/
noncomputable def mRun (M : Nat → Nat → Int32) (n : Nat) : Nat → Nat → Int32 := u2 (mRunL n M) 40 0 (mRunL n M 40 0 + nI (mRunN n M))
theorem t83 {X : Nat × (Nat → Int32)} {d : Nat} {I : Nat → Nat → Int32} {P : Nat → Nat → Option Nat} {M : Nat → Nat → Int32} {R W O Q n : Nat} (h : J M R W (R + 32) O Q (-1) (-1)) (hn : 0 < n ∧ n ≤ 40) (hQ : Q + 360 < 2 ^ 30) (hd : 6 ≤ d) : jv_F gw X d 83 [.ref 157, .int (nI n)] (he I P M) = some (some (.int (nI (mRunN n M))), he I P (mRun M n)) := by
  obtain ⟨d, rfl⟩ : ∃ q, d = q + 1 := ⟨d - 1, by omega⟩
  rw [e83]
  have h1 : 0 ≤ nI n - 1 ∧ nI n - 1 < 40 := by
    obtain ⟨q, rfl⟩ : ∃ q, n = q + 1 := ⟨n - 1, by omega⟩
    rw [nI_pred]
    exact ⟨nI_pos' (by omega), nI_lt (b := 40) (by omega) (by decide)⟩
  have hl := s83l (X := X) (d := d) (I := I) (P := P) (n := n) (by omega) (by omega) n M R W Q 0 h (by omega) (by omega) none none
  rw [Nat.zero_add] at hl
  simp (disch := first | decide | omega | assumption | (simp (disch := decide) only [u2_ne, u2_same, mQueue]; assumption)) only [kV_some, kI_some, kR_some, kR_any, kH_some, kC_none, kC_some, jv_rsv_ref, jv_rsv_rf, jv_nz_ref, jv_nz_null, jv_nz_rf0, jv_nz_rf1, jv_rq_r1, jv_rq_r0, n10, n11, n00, Nat.reduceEqDiff, Option.bind_some, Option.bind_none, jv_isr_ref, jv_isr_rf, jv_isr_null, va_rf_some, va_rf_none, jv_cat1_int, jv_cat1_ref, jv_cat1_rf, if_true, if_false, eq_self, Option.toList_some, Option.toList_none, List.cons_append, List.nil_append, Bool.and_self, Bool.and_true, i32_10, i32_01, i32_80, nI_div8, nI_mul4, nI_mul8, nI_mul32, nI_add, ↓reduceIte, u2_ne, u2_same, r83_0, r83_1, r83_2, r83_3, r83_5, r83_8, r83_11, r83_12, r83_13, r83_14, r83_16, r83_17, r83_20, r83_21, r83_24, r83_27, r83_28, r83_31, r83_32, r83_33, r83_34, r83_35, r83_36, r83_39, r83_40, r83_41, r83_44, r83_45, r83_49, r83_50, r83_53, r83_56, r83_57, r83_60, r83_62, r83_63, r83_66, r83_68, r83_69, r83_70, r83_71, r83_72, r83_75, r83_78, r83_79, r83_81, r83_84, r83_85, r83_87, r83_88, r83_89, r83_92, r83_95, r83_96, r83_100, r83_103, r83_104, r83_105, r83_106, r83_109, r83_112, r83_114, r83_117, r83_120, r83_123, r83_124, r83_125, r83_128, r83_129, r83_130, r83_133, r83_134, t78, ci_t h1]
  exact hl
theorem t83x {X : Nat × (Nat → Int32)} {d : Nat} {I : Nat → Nat → Int32} {P : Nat → Nat → Option Nat} {M : Nat → Nat → Int32} {n : Int32} (h : ¬ (0 ≤ n - 1 ∧ n - 1 < 40)) (hd : 2 ≤ d) : jv_F gw X d 83 [.ref 157, .int n] (he I P M) = some (some (.int (-1)), he I P M) := by
  obtain ⟨d, rfl⟩ : ∃ q, d = q + 1 := ⟨d - 1, by omega⟩
  rw [e83]
  simp (disch := first | decide | omega | assumption | (simp (disch := decide) only [u2_ne, u2_same, mQueue]; assumption)) only [kV_some, kI_some, kR_some, kR_any, kH_some, kC_none, kC_some, jv_rsv_ref, jv_rsv_rf, jv_nz_ref, jv_nz_null, jv_nz_rf0, jv_nz_rf1, jv_rq_r1, jv_rq_r0, n10, n11, n00, Nat.reduceEqDiff, Option.bind_some, Option.bind_none, jv_isr_ref, jv_isr_rf, jv_isr_null, va_rf_some, va_rf_none, jv_cat1_int, jv_cat1_ref, jv_cat1_rf, if_true, if_false, eq_self, Option.toList_some, Option.toList_none, List.cons_append, List.nil_append, Bool.and_self, Bool.and_true, i32_10, i32_01, i32_80, nI_div8, nI_mul4, nI_mul8, nI_mul32, nI_add, ↓reduceIte, u2_ne, u2_same, r83_0, r83_1, r83_2, r83_3, r83_5, r83_8, r83_11, r83_12, r83_13, r83_14, r83_16, r83_17, r83_20, r83_21, r83_24, r83_27, r83_28, r83_31, r83_32, r83_33, r83_34, r83_35, r83_36, r83_39, r83_40, r83_41, r83_44, r83_45, r83_49, r83_50, r83_53, r83_56, r83_57, r83_60, r83_62, r83_63, r83_66, r83_68, r83_69, r83_70, r83_71, r83_72, r83_75, r83_78, r83_79, r83_81, r83_84, r83_85, r83_87, r83_88, r83_89, r83_92, r83_95, r83_96, r83_100, r83_103, r83_104, r83_105, r83_106, r83_109, r83_112, r83_114, r83_117, r83_120, r83_123, r83_124, r83_125, r83_128, r83_129, r83_130, r83_133, r83_134, t78, ci_f h]
theorem J.runL {O : Nat} : ∀ (r : Nat) (M : Nat → Nat → Int32) (R W Q : Nat), J M R W (R + 32) O Q (-1) (-1) → Q + 9 * r < 2 ^ 30 → ∃ R' W', J (mRunL r M) R' W' (R' + 32) O (Q + 9 * r) (-1) (-1)
  | 0, M, R, W, Q, h, _ => ⟨R, W, h⟩
  | r + 1, M, R, W, Q, h, hQ => by
    rw [mRunL]
    split
    · exact ⟨R, W, h.mono (Nat.le_refl _) (by have := h.h30; omega) (by omega) hQ⟩
    · rename_i h0
      obtain ⟨V, rfl⟩ : ∃ q, W = q + 1 := ⟨W - 1, by
        have : ¬ W = 0 := fun z => h0 (by rw [h.hW, z]; rfl)
        omega⟩
      obtain ⟨R1, W1, h1⟩ := h.oneT (by omega)
      obtain ⟨R2, W2, h2⟩ := J.runL r _ R1 W1 (Q + 9) h1 (by omega)
      exact ⟨R2, W2, by rw [show Q + 9 * (r + 1) = Q + 9 + 9 * r by omega]; exact h2⟩
theorem J.run {M : Nat → Nat → Int32} {R W O Q n : Nat} (h : J M R W (R + 32) O Q (-1) (-1)) (hn : n ≤ 40) (hQ : Q + 360 < 2 ^ 30) : ∃ R' W', J (mRun M n) R' W' (R' + 32) O (Q + 360) (-1) (-1) := by
  obtain ⟨R', W', q⟩ := J.runL n M R W Q h (by omega)
  refine ⟨R', W', (q.mono (Q2 := Q + 360) (Nat.le_refl _) (by have := q.h30; omega) (by omega) hQ).upd (fun f hf => ?_) (fun i _ => Or.inl ?_) ?_⟩
  · unfold mRun; rw [u2_ne (kF_ne hf rfl)]
  · unfold mRun; rw [u2_ne (by decide)]
  · unfold mRun
    rw [u2_ne (by decide), u2_ne (by decide), u2_ne (by decide), u2_ne (by decide), u2_ne (by decide), u2_ne (by decide)]
    exact q.g
