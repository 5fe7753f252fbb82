/-! ===== the constructors of the host and of the reference: what stands when the law's loop begins ===== -/
def zI (f _k : Nat) : Int32 := if f = 43 then 3 else 0
def zP (f k : Nat) : Option Nat := if f = 10 ∧ k < 30 then some (7 + k) else none
def zM (_f _k : Nat) : Int32 := 0
def E0 : Nat → jv_C := en zI zP zM
theorem HH_cong {n s : Nat} {g g2 : Nat → jv_C} (h : ∀ a, a ≤ n → g a = g2 a) : HH n s g = HH n s g2 := by
  unfold HH
  congr 2
  funext a
  unfold cutH
  by_cases e : a ≤ n
  · rw [if_pos e, if_pos e, h a e]
  · rw [if_neg e, if_neg e]
theorem row1 {u m b k : Nat} : rowTo u m b 1 k = .inl (u, m, .inr (fun i => if i < k then some (b + i) else none)) := by
  unfold rowTo
  simp only [Nat.one_mul]
theorem E_2 : E0 2 = rowTo 2 4 41 18 4 := rfl
theorem E_3 : E0 3 = rowTo 3 32 113 1 32 := by rw [row1]; rfl
theorem E_4 : E0 4 = rowTo 4 12 145 1 12 := by rw [row1]; rfl
theorem E_6 : E0 6 = rowTo 5 30 7 1 30 := by
  rw [row1]
  show (.inl (5, 30, .inr (zP 10)) : jv_C) = _
  congr 4
  funext k
  unfold zP
  simp
theorem E_q {j : Nat} (h : j < 30) : E0 (7 + j) = .inr (4, fq) := (en_req h).trans rfl
theorem E_g {j : Nat} (h : j < 32) : E0 (113 + j) = .inr (3, [.int (nI j), .ref (41 + 18 * (j / 8)), .int 0, .int 0, .int 0, .int 0, .int 0, .int 0, .int 0, .int 0, .int 0]) := (en_gr h).trans rfl
theorem E_o {j : Nat} (h : j < 12) : E0 (145 + j) = .inr (7, [.int 0, .int 0, .int 0, .int 0]) := (en_out h).trans rfl
theorem E_kd {k : Nat} (h : k < 4) : E0 (41 + 18 * k) = .inr (1, [.ref (41 + 18 * k + 1), .int 0, .int 0]) := by
  rw [show 41 + 18 * k + 1 = 42 + 18 * k by omega]
  exact (en_kd h).trans rfl
theorem E_ma {k : Nat} (h : k < 4) : E0 (41 + 18 * k + 1) = rowTo 6 4 (41 + 18 * k + 2) 4 4 := by
  rw [show 41 + 18 * k + 1 = 42 + 18 * k by omega, show 41 + 18 * k + 2 = 43 + 18 * k by omega]
  exact en_ma h
theorem z8_of {F : Nat → Int32} (h : ∀ i, F i = 0) : (.inl (0, 8, .inl F) : jv_C) = z8 := by
  unfold z8
  congr 4
  funext i
  exact h i
theorem E_mt {k j : Nat} (h : k < 4) (hj : j < 4) : E0 (41 + 18 * k + 2 + 4 * j) = .inr (2, [.ref (41 + 18 * k + 2 + 4 * j + 1), .ref (41 + 18 * k + 2 + 4 * j + 2), .ref (41 + 18 * k + 2 + 4 * j + 3), .int 0, .int 0, .int 0]) ∧ E0 (41 + 18 * k + 2 + 4 * j + 1) = z8 ∧ E0 (41 + 18 * k + 2 + 4 * j + 2) = z8 ∧ E0 (41 + 18 * k + 2 + 4 * j + 3) = z8 := by
  rw [show 41 + 18 * k + 2 + 4 * j = 43 + 18 * k + 4 * j by omega, show 43 + 18 * k + 4 * j + 1 = 44 + 18 * k + 4 * j by omega, show 43 + 18 * k + 4 * j + 2 = 45 + 18 * k + 4 * j by omega, show 43 + 18 * k + 4 * j + 3 = 46 + 18 * k + 4 * j by omega]
  refine ⟨(en_mt h hj).trans rfl, (en_ops h hj).trans (z8_of (fun i => ?_)), (en_as h hj).trans (z8_of (fun i => ?_)), (en_bs h hj).trans (z8_of (fun i => ?_))⟩ <;> (split <;> rfl)
def B4 : Nat → jv_C := va_up E0 4 (rowTo 4 12 145 1 0)
def B3 : Nat → jv_C := va_up B4 3 (rowTo 3 32 113 1 0)
def BB : Nat → jv_C := va_up B3 2 (rowTo 2 4 41 18 0)
theorem B4_at {a : Nat} (h : a ≠ 4) : B4 a = E0 a := up_ne h
theorem B3_at {a : Nat} (h : a ≠ 4) (h3 : a ≠ 3) : B3 a = E0 a := by unfold B3; rw [up_ne h3, B4_at h]
theorem BB_at {a : Nat} (h : a ≠ 4) (h3 : a ≠ 3) (h2 : a ≠ 2) : BB a = E0 a := by unfold BB; rw [up_ne h2, B3_at h h3]
section CI
variable {X : Nat × (Nat → Int32)} {d : Nat}
theorem i0k (hd : 4 ≤ d) : ∀ (r k : Nat), k + r = 4 → jl gw X d 0 72 [some (.ref 1), some (.int (nI k))] [] (HH (40 + 18 * k) (640 + 127 * k) (va_up B3 2 (rowTo 2 4 41 18 k))) = jl gw X d 0 96 [some (.ref 1), some (.int (nI 4))] [] (HH 112 1148 B3) := by
  intro r
  induction r with
  | zero =>
    intro k hk
    have hk : k = 4 := by omega
    subst hk
    have h1 : (4 : Int32) ≤ nI 4 := by decide
    rw [up_id (a := 2) (show B3 2 = rowTo 2 4 41 18 4 from (B3_at (by decide) (by decide)).trans E_2), r0_72]
    simp (disch := first | decide | omega | assumption | (simp (disch := decide) only [u2_ne, u2_same, mQueue]; assumption)) only [kV_some, kI_some, kR_some, kR_any, kH_some, kC_none, kC_some, jv_rsv_ref, jv_rsv_rf, jv_nz_ref, jv_nz_null, jv_nz_rf0, jv_nz_rf1, jv_rq_r1, jv_rq_r0, n10, n11, n00, Nat.reduceEqDiff, Option.bind_some, Option.bind_none, jv_isr_ref, jv_isr_rf, jv_isr_null, va_rf_some, va_rf_none, jv_cat1_int, jv_cat1_ref, jv_cat1_rf, if_true, if_false, eq_self, Option.toList_some, Option.toList_none, List.cons_append, List.nil_append, Bool.and_self, Bool.and_true, i32_10, i32_01, i32_80, nI_div8, nI_mul4, nI_mul8, nI_mul32, nI_add, ↓reduceIte, u2_ne, u2_same, r0_0, r0_1, r0_4, r0_5, r0_6, r0_9, r0_12, r0_13, r0_15, r0_18, r0_21, r0_22, r0_24, r0_27, r0_30, r0_31, r0_34, r0_35, r0_38, r0_41, r0_42, r0_45, r0_46, r0_49, r0_52, r0_53, r0_55, r0_58, r0_61, r0_62, r0_64, r0_67, r0_70, r0_71, r0_73, r0_74, r0_77, r0_78, r0_81, r0_82, r0_85, r0_86, r0_89, r0_90, r0_93, r0_97, r0_99, r0_101, r0_104, r0_105, r0_108, r0_109, r0_112, r0_113, r0_114, r0_115, r0_118, r0_119, r0_121, r0_122, r0_123, r0_126, r0_127, r0_130, r0_133, r0_134, r0_136, r0_138, r0_141, r0_142, r0_145, r0_146, r0_149, r0_150, r0_153, r0_154, r0_157, r0_160, h1]
  | succ r ih =>
    intro k hk
    have h1 : ¬ (4 : Int32) ≤ nI k := nI_ge (b := 4) (by omega) (by decide)
    have ihh := ih (k + 1) (by omega)
    have hk4 : k < 4 := by omega
    have ep : 40 + 18 * k + 1 = 41 + 18 * k := by omega
    have hF : ∀ {a : Nat}, 41 ≤ a → va_up B3 2 (rowTo 2 4 41 18 k) a = E0 a := fun {a} h => by rw [up_ne (by omega), B3_at (by omega) (by omega)]
    have hget : jv_get (HH (40 + 18 * k) (640 + 127 * k) (va_up B3 2 (rowTo 2 4 41 18 k))) 1 0 0 = some (.ref 2) := H_get (by omega) (by rw [up_ne (by decide), B3_at (by decide) (by decide)]; rfl) rfl
    have hnew : jv_newo gw (HH (40 + 18 * k) (640 + 127 * k) (va_up B3 2 (rowTo 2 4 41 18 k))) 1 = some (HH (41 + 18 * k) (640 + 127 * k + 3) (va_up (va_up B3 2 (rowTo 2 4 41 18 k)) (41 + 18 * k) (.inr (1, [.null, .int 0, .int 0])))) := by rw [nw_1, ep]
    have hini := i4 (X := X) (d := d) (n := 41 + 18 * k) (s := 640 + 127 * k + 3) (g := va_up B3 2 (rowTo 2 4 41 18 k)) (by omega) ((hF (by omega)).trans (E_kd hk4)) ((hF (by omega)).trans (E_ma hk4)) (fun j hj => by rw [hF (by omega), hF (by omega), hF (by omega), hF (by omega)]; exact E_mt hk4 hj)
    have hst := H_row (n := 41 + 18 * k + 17) (s := 640 + 127 * k + 3 + 124) (g := B3) (a := 2) (u := 2) (m := 4) (b := 41) (st := 18) (j := k) (by omega) (by omega) (by omega) hk4 (by decide) (by decide) rfl ((B3_at (by omega) (by omega)).trans (E_kd hk4))
    rw [show 40 + 18 * (k + 1) = 41 + 18 * k + 17 by omega, show 640 + 127 * (k + 1) = 640 + 127 * k + 3 + 124 by omega] at ihh
    rw [r0_72]
    simp (disch := first | decide | omega | assumption | (simp (disch := decide) only [u2_ne, u2_same, mQueue]; assumption)) only [kV_some, kI_some, kR_some, kR_any, kH_some, kC_none, kC_some, jv_rsv_ref, jv_rsv_rf, jv_nz_ref, jv_nz_null, jv_nz_rf0, jv_nz_rf1, jv_rq_r1, jv_rq_r0, n10, n11, n00, Nat.reduceEqDiff, Option.bind_some, Option.bind_none, jv_isr_ref, jv_isr_rf, jv_isr_null, va_rf_some, va_rf_none, jv_cat1_int, jv_cat1_ref, jv_cat1_rf, if_true, if_false, eq_self, Option.toList_some, Option.toList_none, List.cons_append, List.nil_append, Bool.and_self, Bool.and_true, i32_10, i32_01, i32_80, nI_div8, nI_mul4, nI_mul8, nI_mul32, nI_add, ↓reduceIte, u2_ne, u2_same, r0_0, r0_1, r0_4, r0_5, r0_6, r0_9, r0_12, r0_13, r0_15, r0_18, r0_21, r0_22, r0_24, r0_27, r0_30, r0_31, r0_34, r0_35, r0_38, r0_41, r0_42, r0_45, r0_46, r0_49, r0_52, r0_53, r0_55, r0_58, r0_61, r0_62, r0_64, r0_67, r0_70, r0_71, r0_73, r0_74, r0_77, r0_78, r0_81, r0_82, r0_85, r0_86, r0_89, r0_90, r0_93, r0_97, r0_99, r0_101, r0_104, r0_105, r0_108, r0_109, r0_112, r0_113, r0_114, r0_115, r0_118, r0_119, r0_121, r0_122, r0_123, r0_126, r0_127, r0_130, r0_133, r0_134, r0_136, r0_138, r0_141, r0_142, r0_145, r0_146, r0_149, r0_150, r0_153, r0_154, r0_157, r0_160, h1, hget, hnew, HH_1, ep, hini, hst, nI_1]
    exact ihh
theorem i0g (hd : 2 ≤ d) : ∀ (r k : Nat), k + r = 32 → jl gw X d 0 98 [some (.ref 1), some (.int (nI k))] [] (HH (112 + k) (1148 + 11 * k) (va_up B4 3 (rowTo 3 32 113 1 k))) = jl gw X d 0 133 [some (.ref 1), some (.int (nI 32))] [] (HH 144 1500 B4) := by
  intro r
  induction r with
  | zero =>
    intro k hk
    have hk : k = 32 := by omega
    subst hk
    have h1 : (32 : Int32) ≤ nI 32 := by decide
    rw [up_id (a := 3) (show B4 3 = rowTo 3 32 113 1 32 from (B4_at (by decide)).trans E_3), r0_98]
    simp (disch := first | decide | omega | assumption | (simp (disch := decide) only [u2_ne, u2_same, mQueue]; assumption)) only [kV_some, kI_some, kR_some, kR_any, kH_some, kC_none, kC_some, jv_rsv_ref, jv_rsv_rf, jv_nz_ref, jv_nz_null, jv_nz_rf0, jv_nz_rf1, jv_rq_r1, jv_rq_r0, n10, n11, n00, Nat.reduceEqDiff, Option.bind_some, Option.bind_none, jv_isr_ref, jv_isr_rf, jv_isr_null, va_rf_some, va_rf_none, jv_cat1_int, jv_cat1_ref, jv_cat1_rf, if_true, if_false, eq_self, Option.toList_some, Option.toList_none, List.cons_append, List.nil_append, Bool.and_self, Bool.and_true, i32_10, i32_01, i32_80, nI_div8, nI_mul4, nI_mul8, nI_mul32, nI_add, ↓reduceIte, u2_ne, u2_same, r0_0, r0_1, r0_4, r0_5, r0_6, r0_9, r0_12, r0_13, r0_15, r0_18, r0_21, r0_22, r0_24, r0_27, r0_30, r0_31, r0_34, r0_35, r0_38, r0_41, r0_42, r0_45, r0_46, r0_49, r0_52, r0_53, r0_55, r0_58, r0_61, r0_62, r0_64, r0_67, r0_70, r0_71, r0_73, r0_74, r0_77, r0_78, r0_81, r0_82, r0_85, r0_86, r0_89, r0_90, r0_93, r0_96, r0_97, r0_99, r0_101, r0_104, r0_105, r0_108, r0_109, r0_112, r0_113, r0_114, r0_115, r0_118, r0_119, r0_121, r0_122, r0_123, r0_126, r0_127, r0_130, r0_134, r0_136, r0_138, r0_141, r0_142, r0_145, r0_146, r0_149, r0_150, r0_153, r0_154, r0_157, r0_160, h1]
  | succ r ih =>
    intro k hk
    have h1 : ¬ (32 : Int32) ≤ nI k := nI_ge (b := 32) (by omega) (by decide)
    have ihh := ih (k + 1) (by omega)
    have hk4 : k < 32 := by omega
    have ep : 112 + k + 1 = 113 + k := by omega
    have hF : ∀ {a : Nat}, a ≠ 3 → a ≠ 4 → va_up B4 3 (rowTo 3 32 113 1 k) a = E0 a := fun {a} h h4 => by rw [up_ne h, B4_at h4]
    have hget : jv_get (HH (112 + k) (1148 + 11 * k) (va_up B4 3 (rowTo 3 32 113 1 k))) 1 0 1 = some (.ref 3) := H_get (by omega) (by rw [hF (by decide) (by decide)]; rfl) rfl
    have hget2 : jv_get (HH (113 + k) (1148 + 11 * k + 11) (va_up (va_up B4 3 (rowTo 3 32 113 1 k)) (113 + k) (.inr (3, [.int 0, .null, .int 0, .int 0, .int 0, .int 0, .int 0, .int 0, .int 0, .int 0, .int 0])))) 1 0 0 = some (.ref 2) := H_get (by omega) (by rw [up_ne (by omega), hF (by decide) (by decide)]; rfl) rfl
    have hrld : jv_rld gw (HH (113 + k) (1148 + 11 * k + 11) (va_up (va_up B4 3 (rowTo 3 32 113 1 k)) (113 + k) (.inr (3, [.int 0, .null, .int 0, .int 0, .int 0, .int 0, .int 0, .int 0, .int 0, .int 0, .int 0])))) 2 (nI (k / 8)) = some (some (41 + 18 * (k / 8))) := by
      rw [H_rld (u := 2) (m := 4) (f := fun i => if i < 4 then some (41 + 18 * i) else none) (by omega) (by rw [up_ne (by omega), hF (by decide) (by decide)]; exact E_2) (by omega) (by decide) (by decide), if_pos (by omega)]
    have hnew : jv_newo gw (HH (112 + k) (1148 + 11 * k) (va_up B4 3 (rowTo 3 32 113 1 k))) 3 = some (HH (113 + k) (1148 + 11 * k + 11) (va_up (va_up B4 3 (rowTo 3 32 113 1 k)) (113 + k) (.inr (3, [.int 0, .null, .int 0, .int 0, .int 0, .int 0, .int 0, .int 0, .int 0, .int 0, .int 0])))) := by rw [nw_3, ep]
    have hini := i6 (X := X) (d := d) (n := 113 + k) (s := 1148 + 11 * k + 11) (a := 113 + k) (g := va_up B4 3 (rowTo 3 32 113 1 k)) (x := nI k) (b := 41 + 18 * (k / 8)) (by omega) (Nat.le_refl _) ((hF (by omega) (by omega)).trans (E_g hk4))
    have hst := H_row (n := 113 + k) (s := 1148 + 11 * k + 11) (g := B4) (a := 3) (u := 3) (m := 32) (b := 113) (st := 1) (j := k) (by omega) (by omega) (by omega) hk4 (by decide) (by decide) rfl (by rw [Nat.one_mul]; exact (B4_at (by omega)).trans (E_g hk4))
    rw [show 113 + 1 * k = 113 + k by omega] at hst
    rw [show 112 + (k + 1) = 113 + k by omega, show 1148 + 11 * (k + 1) = 1148 + 11 * k + 11 by omega] at ihh
    rw [r0_98]
    simp (disch := first | decide | omega | assumption | (simp (disch := decide) only [u2_ne, u2_same, mQueue]; assumption)) only [kV_some, kI_some, kR_some, kR_any, kH_some, kC_none, kC_some, jv_rsv_ref, jv_rsv_rf, jv_nz_ref, jv_nz_null, jv_nz_rf0, jv_nz_rf1, jv_rq_r1, jv_rq_r0, n10, n11, n00, Nat.reduceEqDiff, Option.bind_some, Option.bind_none, jv_isr_ref, jv_isr_rf, jv_isr_null, va_rf_some, va_rf_none, jv_cat1_int, jv_cat1_ref, jv_cat1_rf, if_true, if_false, eq_self, Option.toList_some, Option.toList_none, List.cons_append, List.nil_append, Bool.and_self, Bool.and_true, i32_10, i32_01, i32_80, nI_div8, nI_mul4, nI_mul8, nI_mul32, nI_add, ↓reduceIte, u2_ne, u2_same, r0_0, r0_1, r0_4, r0_5, r0_6, r0_9, r0_12, r0_13, r0_15, r0_18, r0_21, r0_22, r0_24, r0_27, r0_30, r0_31, r0_34, r0_35, r0_38, r0_41, r0_42, r0_45, r0_46, r0_49, r0_52, r0_53, r0_55, r0_58, r0_61, r0_62, r0_64, r0_67, r0_70, r0_71, r0_73, r0_74, r0_77, r0_78, r0_81, r0_82, r0_85, r0_86, r0_89, r0_90, r0_93, r0_96, r0_97, r0_99, r0_101, r0_104, r0_105, r0_108, r0_109, r0_112, r0_113, r0_114, r0_115, r0_118, r0_119, r0_121, r0_122, r0_123, r0_126, r0_127, r0_130, r0_134, r0_136, r0_138, r0_141, r0_142, r0_145, r0_146, r0_149, r0_150, r0_153, r0_154, r0_157, r0_160, h1, hget, hnew, HH_1, ep, hget2, hrld, hini, hst, nI_1]
    exact ihh
theorem i0o (hd : 2 ≤ d) : ∀ (r k : Nat), k + r = 12 → jl gw X d 0 135 [some (.ref 1), some (.int (nI k))] [] (HH (144 + k) (1500 + 4 * k) (va_up E0 4 (rowTo 4 12 145 1 k))) = some (none, HH 156 1548 E0) := by
  intro r
  induction r with
  | zero =>
    intro k hk
    have hk : k = 12 := by omega
    subst hk
    have h1 : (12 : Int32) ≤ nI 12 := by decide
    rw [up_id (a := 4) E_4, r0_135]
    simp (disch := first | decide | omega | assumption | (simp (disch := decide) only [u2_ne, u2_same, mQueue]; assumption)) only [kV_some, kI_some, kR_some, kR_any, kH_some, kC_none, kC_some, jv_rsv_ref, jv_rsv_rf, jv_nz_ref, jv_nz_null, jv_nz_rf0, jv_nz_rf1, jv_rq_r1, jv_rq_r0, n10, n11, n00, Nat.reduceEqDiff, Option.bind_some, Option.bind_none, jv_isr_ref, jv_isr_rf, jv_isr_null, va_rf_some, va_rf_none, jv_cat1_int, jv_cat1_ref, jv_cat1_rf, if_true, if_false, eq_self, Option.toList_some, Option.toList_none, List.cons_append, List.nil_append, Bool.and_self, Bool.and_true, i32_10, i32_01, i32_80, nI_div8, nI_mul4, nI_mul8, nI_mul32, nI_add, ↓reduceIte, u2_ne, u2_same, r0_0, r0_1, r0_4, r0_5, r0_6, r0_9, r0_12, r0_13, r0_15, r0_18, r0_21, r0_22, r0_24, r0_27, r0_30, r0_31, r0_34, r0_35, r0_38, r0_41, r0_42, r0_45, r0_46, r0_49, r0_52, r0_53, r0_55, r0_58, r0_61, r0_62, r0_64, r0_67, r0_70, r0_71, r0_73, r0_74, r0_77, r0_78, r0_81, r0_82, r0_85, r0_86, r0_89, r0_90, r0_93, r0_96, r0_97, r0_99, r0_101, r0_104, r0_105, r0_108, r0_109, r0_112, r0_113, r0_114, r0_115, r0_118, r0_119, r0_121, r0_122, r0_123, r0_126, r0_127, r0_130, r0_133, r0_134, r0_136, r0_138, r0_141, r0_142, r0_145, r0_146, r0_149, r0_150, r0_153, r0_154, r0_157, r0_160, h1]
  | succ r ih =>
    intro k hk
    have h1 : ¬ (12 : Int32) ≤ nI k := nI_ge (b := 12) (by omega) (by decide)
    have ihh := ih (k + 1) (by omega)
    have hk4 : k < 12 := by omega
    have ep : 144 + k + 1 = 145 + k := by omega
    have hget : jv_get (HH (144 + k) (1500 + 4 * k) (va_up E0 4 (rowTo 4 12 145 1 k))) 1 0 2 = some (.ref 4) := H_get (by omega) (by rw [up_ne (by decide)]; rfl) rfl
    have hnew : jv_newo gw (HH (144 + k) (1500 + 4 * k) (va_up E0 4 (rowTo 4 12 145 1 k))) 7 = some (HH (145 + k) (1500 + 4 * k + 4) (va_up E0 4 (rowTo 4 12 145 1 k))) := by
      rw [nw_7, ep, up_id (a := 145 + k) (by rw [up_ne (by omega)]; exact E_o hk4)]
    have hini : ∀ h, jv_F gw X d 7 [.ref (145 + k)] h = some (none, h) := fun h => i7 (by omega)
    have hst := H_row (n := 145 + k) (s := 1500 + 4 * k + 4) (g := E0) (a := 4) (u := 4) (m := 12) (b := 145) (st := 1) (j := k) (by omega) (by omega) (by omega) hk4 (by decide) (by decide) rfl (by rw [Nat.one_mul]; exact E_o hk4)
    rw [show 145 + 1 * k = 145 + k by omega] at hst
    rw [show 144 + (k + 1) = 145 + k by omega, show 1500 + 4 * (k + 1) = 1500 + 4 * k + 4 by omega] at ihh
    rw [r0_135]
    simp (disch := first | decide | omega | assumption | (simp (disch := decide) only [u2_ne, u2_same, mQueue]; assumption)) only [kV_some, kI_some, kR_some, kR_any, kH_some, kC_none, kC_some, jv_rsv_ref, jv_rsv_rf, jv_nz_ref, jv_nz_null, jv_nz_rf0, jv_nz_rf1, jv_rq_r1, jv_rq_r0, n10, n11, n00, Nat.reduceEqDiff, Option.bind_some, Option.bind_none, jv_isr_ref, jv_isr_rf, jv_isr_null, va_rf_some, va_rf_none, jv_cat1_int, jv_cat1_ref, jv_cat1_rf, if_true, if_false, eq_self, Option.toList_some, Option.toList_none, List.cons_append, List.nil_append, Bool.and_self, Bool.and_true, i32_10, i32_01, i32_80, nI_div8, nI_mul4, nI_mul8, nI_mul32, nI_add, ↓reduceIte, u2_ne, u2_same, r0_0, r0_1, r0_4, r0_5, r0_6, r0_9, r0_12, r0_13, r0_15, r0_18, r0_21, r0_22, r0_24, r0_27, r0_30, r0_31, r0_34, r0_35, r0_38, r0_41, r0_42, r0_45, r0_46, r0_49, r0_52, r0_53, r0_55, r0_58, r0_61, r0_62, r0_64, r0_67, r0_70, r0_71, r0_73, r0_74, r0_77, r0_78, r0_81, r0_82, r0_85, r0_86, r0_89, r0_90, r0_93, r0_96, r0_97, r0_99, r0_101, r0_104, r0_105, r0_108, r0_109, r0_112, r0_113, r0_114, r0_115, r0_118, r0_119, r0_121, r0_122, r0_123, r0_126, r0_127, r0_130, r0_133, r0_134, r0_136, r0_138, r0_141, r0_142, r0_145, r0_146, r0_149, r0_150, r0_153, r0_154, r0_157, r0_160, h1, hget, hnew, HH_1, ep, hini, hst, nI_1]
    exact ihh
theorem nr_32 {n s t : Nat} {g : Nat → jv_C} : jv_newr (HH n s g) t 32 = some (HH (n + 1) (s + 32) (va_up g (n + 1) (.inl (t, 32, .inr (fun _ => none))))) := H_newr (by decide) (by decide)
theorem nr_12 {n s t : Nat} {g : Nat → jv_C} : jv_newr (HH n s g) t 12 = some (HH (n + 1) (s + 12) (va_up g (n + 1) (.inl (t, 12, .inr (fun _ => none))))) := H_newr (by decide) (by decide)
theorem nr_id {n s m t : Nat} {g : Nat → jv_C} {x : Int32} (hx : ¬ (x < 0 ∨ 1000 < x.toNatClampNeg)) (hm : x.toNatClampNeg = m) (h : g (n + 1) = .inl (t, m, .inr (fun _ => none))) : jv_newr (HH n s g) t x = some (HH (n + 1) (s + m) g) := by rw [H_newr hx hm, up_id h]
theorem ni_id {n s m t : Nat} {g : Nat → jv_C} {x : Int32} (hx : ¬ (x < 0 ∨ 1000 < x.toNatClampNeg)) (hm : x.toNatClampNeg = m) (h : g (n + 1) = .inl (t, m, .inl (fun _ => 0))) : jv_newi (HH n s g) t x = some (HH (n + 1) (s + m) g) := by rw [H_newi hx hm, up_id h]
theorem put_1 {n s k c a : Nat} {g : Nat → jv_C} {fs : List Value} {v : Value} (h : a ≤ n) (hk : k < fs.length) : jv_put (HH n s (va_up g a (.inr (c, fs)))) a c k v = some (HH n s (va_up g a (.inr (c, fs.set k v)))) := by rw [H_put h up_at hk, bx_uu]
def hc0 : List Value := [.null, .null, .null, .null, .null, .null, .null, .int 0, .int 0, .int 0, .int 0, .int 0, .int 0, .int 0]
def hc1 : List Value := [.ref 2, .null, .null, .null, .null, .null, .null, .int 0, .int 0, .int 0, .int 0, .int 0, .int 0, .int 0]
def hc2 : List Value := [.ref 2, .ref 3, .null, .null, .null, .null, .null, .int 0, .int 0, .int 0, .int 0, .int 0, .int 0, .int 0]
def hc3 : List Value := [.ref 2, .ref 3, .ref 4, .null, .null, .null, .null, .int 0, .int 0, .int 0, .int 0, .int 0, .int 0, .int 0]
def hc4 : List Value := [.ref 2, .ref 3, .ref 4, .ref 5, .null, .null, .null, .int 0, .int 0, .int 0, .int 0, .int 0, .int 0, .int 0]
def hc5 : List Value := [.ref 2, .ref 3, .ref 4, .ref 5, .ref 37, .null, .null, .int 0, .int 0, .int 0, .int 0, .int 0, .int 0, .int 0]
def hc6 : List Value := [.ref 2, .ref 3, .ref 4, .ref 5, .ref 37, .ref 39, .null, .int 0, .int 0, .int 0, .int 0, .int 0, .int 0, .int 0]
def hc7 : List Value := [.ref 2, .ref 3, .ref 4, .ref 5, .ref 37, .ref 39, .ref 40, .int 0, .int 0, .int 0, .int 0, .int 0, .int 0, .int 0]
theorem i0 (hd : 5 ≤ d) : jv_F gw X d 0 [.ref 1] (HH 1 14 (va_up BB 1 (.inr (0, hc0)))) = some (none, HH 156 1548 E0) := by
  obtain ⟨d, rfl⟩ : ∃ q, d = q + 1 := ⟨d - 1, by omega⟩
  have bn : ∀ {c : List Value} {a : Nat}, a ≠ 1 → va_up BB 1 (.inr (0, c)) a = BB a := fun h => up_ne h
  have b2 : BB 2 = .inl (2, 4, .inr (fun _ => none)) := rowTo_0
  have b3 : BB 3 = .inl (3, 32, .inr (fun _ => none)) := by unfold BB B3; rw [up_ne (by decide), up_at]; exact rowTo_0
  have b4 : BB 4 = .inl (4, 12, .inr (fun _ => none)) := by unfold BB B3 B4; rw [up_ne (by decide), up_ne (by decide), up_at]; exact rowTo_0
  have bE : ∀ {a : Nat}, 4 < a → BB a = E0 a := fun h => BB_at (by omega) (by omega) (by omega)
  have n1 : jv_newr (HH 1 14 (va_up BB 1 (.inr (0, hc0)))) 2 4 = some (HH 2 18 (va_up BB 1 (.inr (0, hc0)))) := nr_id (n := 1) (s := 14) (m := 4) (by decide) (by decide) ((bn (by decide)).trans b2)
  have p1 : jv_put (HH 2 18 (va_up BB 1 (.inr (0, hc0)))) 1 0 0 (.ref 2) = some (HH 2 18 (va_up BB 1 (.inr (0, hc1)))) := put_1 (by decide) (by decide)
  have n2 : jv_newr (HH 2 18 (va_up BB 1 (.inr (0, hc1)))) 3 32 = some (HH 3 50 (va_up BB 1 (.inr (0, hc1)))) := nr_id (n := 2) (s := 18) (m := 32) (by decide) (by decide) ((bn (by decide)).trans b3)
  have p2 : jv_put (HH 3 50 (va_up BB 1 (.inr (0, hc1)))) 1 0 1 (.ref 3) = some (HH 3 50 (va_up BB 1 (.inr (0, hc2)))) := put_1 (by decide) (by decide)
  have n3 : jv_newr (HH 3 50 (va_up BB 1 (.inr (0, hc2)))) 4 12 = some (HH 4 62 (va_up BB 1 (.inr (0, hc2)))) := nr_id (n := 3) (s := 50) (m := 12) (by decide) (by decide) ((bn (by decide)).trans b4)
  have p3 : jv_put (HH 4 62 (va_up BB 1 (.inr (0, hc2)))) 1 0 2 (.ref 4) = some (HH 4 62 (va_up BB 1 (.inr (0, hc3)))) := put_1 (by decide) (by decide)
  have n4 : jv_newo gw (HH 4 62 (va_up BB 1 (.inr (0, hc3)))) 5 = some (HH 5 65 (va_up (va_up BB 1 (.inr (0, hc3))) 5 (.inr (5, [.null, .int 0, .int 0])))) := nw_5
  have m4 : jv_F gw X d 1 [.ref 5] (HH 5 65 (va_up (va_up BB 1 (.inr (0, hc3))) 5 (.inr (5, [.null, .int 0, .int 0])))) = some (none, HH 36 515 (va_up BB 1 (.inr (0, hc3)))) := i1 (s := 65) (by omega) (fun j hj => by rw [bn (by omega), bE (by omega)]; exact E_q hj) (by rw [bn (by decide), bE (by decide)]; rfl) (by rw [bn (by decide), bE (by decide)]; exact E_6)
  have p4 : jv_put (HH 36 515 (va_up BB 1 (.inr (0, hc3)))) 1 0 3 (.ref 5) = some (HH 36 515 (va_up BB 1 (.inr (0, hc4)))) := put_1 (by decide) (by decide)
  have n5 : jv_newo gw (HH 36 515 (va_up BB 1 (.inr (0, hc4)))) 6 = some (HH 37 518 (va_up (va_up BB 1 (.inr (0, hc4))) 37 (.inr (6, [.null, .int 0, .int 0])))) := nw_6
  have m5 : jv_F gw X d 3 [.ref 37] (HH 37 518 (va_up (va_up BB 1 (.inr (0, hc4))) 37 (.inr (6, [.null, .int 0, .int 0])))) = some (none, HH 38 580 (va_up BB 1 (.inr (0, hc4)))) := i3 (n := 37) (s := 518) (by omega) (by rw [bn (by decide), bE (by decide)]; rfl) (by rw [bn (by decide), bE (by decide)]; rfl)
  have p5 : jv_put (HH 38 580 (va_up BB 1 (.inr (0, hc4)))) 1 0 4 (.ref 37) = some (HH 38 580 (va_up BB 1 (.inr (0, hc5)))) := put_1 (by decide) (by decide)
  have n6 : jv_newr (HH 38 580 (va_up BB 1 (.inr (0, hc5)))) 3 30 = some (HH 39 610 (va_up BB 1 (.inr (0, hc5)))) := nr_id (n := 38) (s := 580) (m := 30) (by decide) (by decide) (by rw [bn (by decide), bE (by decide)]; rfl)
  have p6 : jv_put (HH 39 610 (va_up BB 1 (.inr (0, hc5)))) 1 0 5 (.ref 39) = some (HH 39 610 (va_up BB 1 (.inr (0, hc6)))) := put_1 (by decide) (by decide)
  have n7 : jv_newr (HH 39 610 (va_up BB 1 (.inr (0, hc6)))) 5 30 = some (HH 40 640 (va_up BB 1 (.inr (0, hc6)))) := nr_id (n := 39) (s := 610) (m := 30) (by decide) (by decide) (by rw [bn (by decide), bE (by decide)]; rfl)
  have p7 : jv_put (HH 40 640 (va_up BB 1 (.inr (0, hc6)))) 1 0 6 (.ref 40) = some (HH 40 640 BB) := by
    have : va_up BB 1 (.inr (0, hc7)) = BB := up_id ((BB_at (by decide) (by decide) (by decide)).trans rfl)
    rw [← this]
    rw [this]
    refine (put_1 (by decide) (by decide)).trans ?_
    show some (HH 40 640 (va_up BB 1 (.inr (0, hc7)))) = _
    rw [this]
  have lk := i0k (X := X) (d := d) (by omega) 4 0 (by omega)
  have lg := i0g (X := X) (d := d) (by omega) 32 0 (by omega)
  have lo := i0o (X := X) (d := d) (by omega) 12 0 (by omega)
  rw [e0]
  simp (disch := first | decide | omega | assumption | (simp (disch := decide) only [u2_ne, u2_same, mQueue]; assumption)) only [kV_some, kI_some, kR_some, kR_any, kH_some, kC_none, kC_some, jv_rsv_ref, jv_rsv_rf, jv_nz_ref, jv_nz_null, jv_nz_rf0, jv_nz_rf1, jv_rq_r1, jv_rq_r0, n10, n11, n00, Nat.reduceEqDiff, Option.bind_some, Option.bind_none, jv_isr_ref, jv_isr_rf, jv_isr_null, va_rf_some, va_rf_none, jv_cat1_int, jv_cat1_ref, jv_cat1_rf, if_true, if_false, eq_self, Option.toList_some, Option.toList_none, List.cons_append, List.nil_append, Bool.and_self, Bool.and_true, i32_10, i32_01, i32_80, nI_div8, nI_mul4, nI_mul8, nI_mul32, nI_add, ↓reduceIte, u2_ne, u2_same, r0_0, r0_1, r0_4, r0_5, r0_6, r0_9, r0_12, r0_13, r0_15, r0_18, r0_21, r0_22, r0_24, r0_27, r0_30, r0_31, r0_34, r0_35, r0_38, r0_41, r0_42, r0_45, r0_46, r0_49, r0_52, r0_53, r0_55, r0_58, r0_61, r0_62, r0_64, r0_67, r0_70, r0_71, r0_73, r0_74, r0_77, r0_78, r0_81, r0_82, r0_85, r0_86, r0_89, r0_90, r0_93, r0_96, r0_97, r0_99, r0_101, r0_104, r0_105, r0_108, r0_109, r0_112, r0_113, r0_114, r0_115, r0_118, r0_119, r0_121, r0_122, r0_123, r0_126, r0_127, r0_130, r0_133, r0_134, r0_136, r0_138, r0_141, r0_142, r0_145, r0_146, r0_149, r0_150, r0_153, r0_154, r0_157, r0_160, HH_1, n1, p1, n2, p2, n3, p3, n4, m4, p4, n5, m5, p5, n6, p6, n7, p7, Nat.reduceAdd]
  refine lk.trans ?_
  rw [r0_96]
  simp (disch := first | decide | omega | assumption | (simp (disch := decide) only [u2_ne, u2_same, mQueue]; assumption)) only [kV_some, kI_some, kR_some, kR_any, kH_some, kC_none, kC_some, jv_rsv_ref, jv_rsv_rf, jv_nz_ref, jv_nz_null, jv_nz_rf0, jv_nz_rf1, jv_rq_r1, jv_rq_r0, n10, n11, n00, Nat.reduceEqDiff, Option.bind_some, Option.bind_none, jv_isr_ref, jv_isr_rf, jv_isr_null, va_rf_some, va_rf_none, jv_cat1_int, jv_cat1_ref, jv_cat1_rf, if_true, if_false, eq_self, Option.toList_some, Option.toList_none, List.cons_append, List.nil_append, Bool.and_self, Bool.and_true, i32_10, i32_01, i32_80, nI_div8, nI_mul4, nI_mul8, nI_mul32, nI_add, ↓reduceIte, u2_ne, u2_same, r0_0, r0_1, r0_4, r0_5, r0_6, r0_9, r0_12, r0_13, r0_15, r0_18, r0_21, r0_22, r0_24, r0_27, r0_30, r0_31, r0_34, r0_35, r0_38, r0_41, r0_42, r0_45, r0_46, r0_49, r0_52, r0_53, r0_55, r0_58, r0_61, r0_62, r0_64, r0_67, r0_70, r0_71, r0_73, r0_74, r0_77, r0_78, r0_81, r0_82, r0_85, r0_86, r0_89, r0_90, r0_93, r0_96, r0_97, r0_99, r0_101, r0_104, r0_105, r0_108, r0_109, r0_112, r0_113, r0_114, r0_115, r0_118, r0_119, r0_121, r0_122, r0_123, r0_126, r0_127, r0_130, r0_133, r0_134, r0_136, r0_138, r0_141, r0_142, r0_145, r0_146, r0_149, r0_150, r0_153, r0_154, r0_157, r0_160]
  refine lg.trans ?_
  rw [r0_133]
  simp (disch := first | decide | omega | assumption | (simp (disch := decide) only [u2_ne, u2_same, mQueue]; assumption)) only [kV_some, kI_some, kR_some, kR_any, kH_some, kC_none, kC_some, jv_rsv_ref, jv_rsv_rf, jv_nz_ref, jv_nz_null, jv_nz_rf0, jv_nz_rf1, jv_rq_r1, jv_rq_r0, n10, n11, n00, Nat.reduceEqDiff, Option.bind_some, Option.bind_none, jv_isr_ref, jv_isr_rf, jv_isr_null, va_rf_some, va_rf_none, jv_cat1_int, jv_cat1_ref, jv_cat1_rf, if_true, if_false, eq_self, Option.toList_some, Option.toList_none, List.cons_append, List.nil_append, Bool.and_self, Bool.and_true, i32_10, i32_01, i32_80, nI_div8, nI_mul4, nI_mul8, nI_mul32, nI_add, ↓reduceIte, u2_ne, u2_same, r0_0, r0_1, r0_4, r0_5, r0_6, r0_9, r0_12, r0_13, r0_15, r0_18, r0_21, r0_22, r0_24, r0_27, r0_30, r0_31, r0_34, r0_35, r0_38, r0_41, r0_42, r0_45, r0_46, r0_49, r0_52, r0_53, r0_55, r0_58, r0_61, r0_62, r0_64, r0_67, r0_70, r0_71, r0_73, r0_74, r0_77, r0_78, r0_81, r0_82, r0_85, r0_86, r0_89, r0_90, r0_93, r0_96, r0_97, r0_99, r0_101, r0_104, r0_105, r0_108, r0_109, r0_112, r0_113, r0_114, r0_115, r0_118, r0_119, r0_121, r0_122, r0_123, r0_126, r0_127, r0_130, r0_133, r0_134, r0_136, r0_138, r0_141, r0_142, r0_145, r0_146, r0_149, r0_150, r0_153, r0_154, r0_157, r0_160]
  exact lo
end CI
section CI
variable {X : Nat × (Nat → Int32)} {d : Nat}
def mc0 : List Value := [.null, .null, .null, .null, .null, .null, .null, .null, .null, .null, .null, .null, .null, .null, .null, .null, .null, .null, .null, .null, .null, .null, .null, .null, .null, .null, .null, .null, .int 0, .int 0, .null, .int 0, .null, .null, .null, .null, .int 0, .int 0, .int 0, .int 0, .int 0, .int 0, .int 0, .null, .int 0, .int 0]
def mc1 : List Value := [.ref 158, .null, .null, .null, .null, .null, .null, .null, .null, .null, .null, .null, .null, .null, .null, .null, .null, .null, .null, .null, .null, .null, .null, .null, .null, .null, .null, .null, .int 0, .int 0, .null, .int 0, .null, .null, .null, .null, .int 0, .int 0, .int 0, .int 0, .int 0, .int 0, .int 0, .null, .int 0, .int 0]
def mc2 : List Value := [.ref 158, .ref 159, .null, .null, .null, .null, .null, .null, .null, .null, .null, .null, .null, .null, .null, .null, .null, .null, .null, .null, .null, .null, .null, .null, .null, .null, .null, .null, .int 0, .int 0, .null, .int 0, .null, .null, .null, .null, .int 0, .int 0, .int 0, .int 0, .int 0, .int 0, .int 0, .null, .int 0, .int 0]
def mc3 : List Value := [.ref 158, .ref 159, .ref 160, .null, .null, .null, .null, .null, .null, .null, .null, .null, .null, .null, .null, .null, .null, .null, .null, .null, .null, .null, .null, .null, .null, .null, .null, .null, .int 0, .int 0, .null, .int 0, .null, .null, .null, .null, .int 0, .int 0, .int 0, .int 0, .int 0, .int 0, .int 0, .null, .int 0, .int 0]
def mc4 : List Value := [.ref 158, .ref 159, .ref 160, .ref 161, .null, .null, .null, .null, .null, .null, .null, .null, .null, .null, .null, .null, .null, .null, .null, .null, .null, .null, .null, .null, .null, .null, .null, .null, .int 0, .int 0, .null, .int 0, .null, .null, .null, .null, .int 0, .int 0, .int 0, .int 0, .int 0, .int 0, .int 0, .null, .int 0, .int 0]
def mc5 : List Value := [.ref 158, .ref 159, .ref 160, .ref 161, .ref 162, .null, .null, .null, .null, .null, .null, .null, .null, .null, .null, .null, .null, .null, .null, .null, .null, .null, .null, .null, .null, .null, .null, .null, .int 0, .int 0, .null, .int 0, .null, .null, .null, .null, .int 0, .int 0, .int 0, .int 0, .int 0, .int 0, .int 0, .null, .int 0, .int 0]
def mc6 : List Value := [.ref 158, .ref 159, .ref 160, .ref 161, .ref 162, .ref 163, .null, .null, .null, .null, .null, .null, .null, .null, .null, .null, .null, .null, .null, .null, .null, .null, .null, .null, .null, .null, .null, .null, .int 0, .int 0, .null, .int 0, .null, .null, .null, .null, .int 0, .int 0, .int 0, .int 0, .int 0, .int 0, .int 0, .null, .int 0, .int 0]
def mc7 : List Value := [.ref 158, .ref 159, .ref 160, .ref 161, .ref 162, .ref 163, .ref 164, .null, .null, .null, .null, .null, .null, .null, .null, .null, .null, .null, .null, .null, .null, .null, .null, .null, .null, .null, .null, .null, .int 0, .int 0, .null, .int 0, .null, .null, .null, .null, .int 0, .int 0, .int 0, .int 0, .int 0, .int 0, .int 0, .null, .int 0, .int 0]
def mc8 : List Value := [.ref 158, .ref 159, .ref 160, .ref 161, .ref 162, .ref 163, .ref 164, .ref 165, .null, .null, .null, .null, .null, .null, .null, .null, .null, .null, .null, .null, .null, .null, .null, .null, .null, .null, .null, .null, .int 0, .int 0, .null, .int 0, .null, .null, .null, .null, .int 0, .int 0, .int 0, .int 0, .int 0, .int 0, .int 0, .null, .int 0, .int 0]
def mc9 : List Value := [.ref 158, .ref 159, .ref 160, .ref 161, .ref 162, .ref 163, .ref 164, .ref 165, .ref 166, .null, .null, .null, .null, .null, .null, .null, .null, .null, .null, .null, .null, .null, .null, .null, .null, .null, .null, .null, .int 0, .int 0, .null, .int 0, .null, .null, .null, .null, .int 0, .int 0, .int 0, .int 0, .int 0, .int 0, .int 0, .null, .int 0, .int 0]
def mc10 : List Value := [.ref 158, .ref 159, .ref 160, .ref 161, .ref 162, .ref 163, .ref 164, .ref 165, .ref 166, .ref 167, .null, .null, .null, .null, .null, .null, .null, .null, .null, .null, .null, .null, .null, .null, .null, .null, .null, .null, .int 0, .int 0, .null, .int 0, .null, .null, .null, .null, .int 0, .int 0, .int 0, .int 0, .int 0, .int 0, .int 0, .null, .int 0, .int 0]
def mc11 : List Value := [.ref 158, .ref 159, .ref 160, .ref 161, .ref 162, .ref 163, .ref 164, .ref 165, .ref 166, .ref 167, .ref 168, .null, .null, .null, .null, .null, .null, .null, .null, .null, .null, .null, .null, .null, .null, .null, .null, .null, .int 0, .int 0, .null, .int 0, .null, .null, .null, .null, .int 0, .int 0, .int 0, .int 0, .int 0, .int 0, .int 0, .null, .int 0, .int 0]
def mc12 : List Value := [.ref 158, .ref 159, .ref 160, .ref 161, .ref 162, .ref 163, .ref 164, .ref 165, .ref 166, .ref 167, .ref 168, .ref 169, .null, .null, .null, .null, .null, .null, .null, .null, .null, .null, .null, .null, .null, .null, .null, .null, .int 0, .int 0, .null, .int 0, .null, .null, .null, .null, .int 0, .int 0, .int 0, .int 0, .int 0, .int 0, .int 0, .null, .int 0, .int 0]
def mc13 : List Value := [.ref 158, .ref 159, .ref 160, .ref 161, .ref 162, .ref 163, .ref 164, .ref 165, .ref 166, .ref 167, .ref 168, .ref 169, .ref 170, .null, .null, .null, .null, .null, .null, .null, .null, .null, .null, .null, .null, .null, .null, .null, .int 0, .int 0, .null, .int 0, .null, .null, .null, .null, .int 0, .int 0, .int 0, .int 0, .int 0, .int 0, .int 0, .null, .int 0, .int 0]
def mc14 : List Value := [.ref 158, .ref 159, .ref 160, .ref 161, .ref 162, .ref 163, .ref 164, .ref 165, .ref 166, .ref 167, .ref 168, .ref 169, .ref 170, .ref 171, .null, .null, .null, .null, .null, .null, .null, .null, .null, .null, .null, .null, .null, .null, .int 0, .int 0, .null, .int 0, .null, .null, .null, .null, .int 0, .int 0, .int 0, .int 0, .int 0, .int 0, .int 0, .null, .int 0, .int 0]
def mc15 : List Value := [.ref 158, .ref 159, .ref 160, .ref 161, .ref 162, .ref 163, .ref 164, .ref 165, .ref 166, .ref 167, .ref 168, .ref 169, .ref 170, .ref 171, .ref 172, .null, .null, .null, .null, .null, .null, .null, .null, .null, .null, .null, .null, .null, .int 0, .int 0, .null, .int 0, .null, .null, .null, .null, .int 0, .int 0, .int 0, .int 0, .int 0, .int 0, .int 0, .null, .int 0, .int 0]
def mc16 : List Value := [.ref 158, .ref 159, .ref 160, .ref 161, .ref 162, .ref 163, .ref 164, .ref 165, .ref 166, .ref 167, .ref 168, .ref 169, .ref 170, .ref 171, .ref 172, .ref 173, .null, .null, .null, .null, .null, .null, .null, .null, .null, .null, .null, .null, .int 0, .int 0, .null, .int 0, .null, .null, .null, .null, .int 0, .int 0, .int 0, .int 0, .int 0, .int 0, .int 0, .null, .int 0, .int 0]
def mc17 : List Value := [.ref 158, .ref 159, .ref 160, .ref 161, .ref 162, .ref 163, .ref 164, .ref 165, .ref 166, .ref 167, .ref 168, .ref 169, .ref 170, .ref 171, .ref 172, .ref 173, .ref 174, .null, .null, .null, .null, .null, .null, .null, .null, .null, .null, .null, .int 0, .int 0, .null, .int 0, .null, .null, .null, .null, .int 0, .int 0, .int 0, .int 0, .int 0, .int 0, .int 0, .null, .int 0, .int 0]
def mc18 : List Value := [.ref 158, .ref 159, .ref 160, .ref 161, .ref 162, .ref 163, .ref 164, .ref 165, .ref 166, .ref 167, .ref 168, .ref 169, .ref 170, .ref 171, .ref 172, .ref 173, .ref 174, .ref 175, .null, .null, .null, .null, .null, .null, .null, .null, .null, .null, .int 0, .int 0, .null, .int 0, .null, .null, .null, .null, .int 0, .int 0, .int 0, .int 0, .int 0, .int 0, .int 0, .null, .int 0, .int 0]
def mc19 : List Value := [.ref 158, .ref 159, .ref 160, .ref 161, .ref 162, .ref 163, .ref 164, .ref 165, .ref 166, .ref 167, .ref 168, .ref 169, .ref 170, .ref 171, .ref 172, .ref 173, .ref 174, .ref 175, .ref 176, .null, .null, .null, .null, .null, .null, .null, .null, .null, .int 0, .int 0, .null, .int 0, .null, .null, .null, .null, .int 0, .int 0, .int 0, .int 0, .int 0, .int 0, .int 0, .null, .int 0, .int 0]
def mc20 : List Value := [.ref 158, .ref 159, .ref 160, .ref 161, .ref 162, .ref 163, .ref 164, .ref 165, .ref 166, .ref 167, .ref 168, .ref 169, .ref 170, .ref 171, .ref 172, .ref 173, .ref 174, .ref 175, .ref 176, .ref 177, .null, .null, .null, .null, .null, .null, .null, .null, .int 0, .int 0, .null, .int 0, .null, .null, .null, .null, .int 0, .int 0, .int 0, .int 0, .int 0, .int 0, .int 0, .null, .int 0, .int 0]
def mc21 : List Value := [.ref 158, .ref 159, .ref 160, .ref 161, .ref 162, .ref 163, .ref 164, .ref 165, .ref 166, .ref 167, .ref 168, .ref 169, .ref 170, .ref 171, .ref 172, .ref 173, .ref 174, .ref 175, .ref 176, .ref 177, .ref 178, .null, .null, .null, .null, .null, .null, .null, .int 0, .int 0, .null, .int 0, .null, .null, .null, .null, .int 0, .int 0, .int 0, .int 0, .int 0, .int 0, .int 0, .null, .int 0, .int 0]
def mc22 : List Value := [.ref 158, .ref 159, .ref 160, .ref 161, .ref 162, .ref 163, .ref 164, .ref 165, .ref 166, .ref 167, .ref 168, .ref 169, .ref 170, .ref 171, .ref 172, .ref 173, .ref 174, .ref 175, .ref 176, .ref 177, .ref 178, .ref 179, .null, .null, .null, .null, .null, .null, .int 0, .int 0, .null, .int 0, .null, .null, .null, .null, .int 0, .int 0, .int 0, .int 0, .int 0, .int 0, .int 0, .null, .int 0, .int 0]
def mc23 : List Value := [.ref 158, .ref 159, .ref 160, .ref 161, .ref 162, .ref 163, .ref 164, .ref 165, .ref 166, .ref 167, .ref 168, .ref 169, .ref 170, .ref 171, .ref 172, .ref 173, .ref 174, .ref 175, .ref 176, .ref 177, .ref 178, .ref 179, .ref 180, .null, .null, .null, .null, .null, .int 0, .int 0, .null, .int 0, .null, .null, .null, .null, .int 0, .int 0, .int 0, .int 0, .int 0, .int 0, .int 0, .null, .int 0, .int 0]
def mc24 : List Value := [.ref 158, .ref 159, .ref 160, .ref 161, .ref 162, .ref 163, .ref 164, .ref 165, .ref 166, .ref 167, .ref 168, .ref 169, .ref 170, .ref 171, .ref 172, .ref 173, .ref 174, .ref 175, .ref 176, .ref 177, .ref 178, .ref 179, .ref 180, .ref 181, .null, .null, .null, .null, .int 0, .int 0, .null, .int 0, .null, .null, .null, .null, .int 0, .int 0, .int 0, .int 0, .int 0, .int 0, .int 0, .null, .int 0, .int 0]
def mc25 : List Value := [.ref 158, .ref 159, .ref 160, .ref 161, .ref 162, .ref 163, .ref 164, .ref 165, .ref 166, .ref 167, .ref 168, .ref 169, .ref 170, .ref 171, .ref 172, .ref 173, .ref 174, .ref 175, .ref 176, .ref 177, .ref 178, .ref 179, .ref 180, .ref 181, .ref 182, .null, .null, .null, .int 0, .int 0, .null, .int 0, .null, .null, .null, .null, .int 0, .int 0, .int 0, .int 0, .int 0, .int 0, .int 0, .null, .int 0, .int 0]
def mc26 : List Value := [.ref 158, .ref 159, .ref 160, .ref 161, .ref 162, .ref 163, .ref 164, .ref 165, .ref 166, .ref 167, .ref 168, .ref 169, .ref 170, .ref 171, .ref 172, .ref 173, .ref 174, .ref 175, .ref 176, .ref 177, .ref 178, .ref 179, .ref 180, .ref 181, .ref 182, .ref 183, .null, .null, .int 0, .int 0, .null, .int 0, .null, .null, .null, .null, .int 0, .int 0, .int 0, .int 0, .int 0, .int 0, .int 0, .null, .int 0, .int 0]
def mc27 : List Value := [.ref 158, .ref 159, .ref 160, .ref 161, .ref 162, .ref 163, .ref 164, .ref 165, .ref 166, .ref 167, .ref 168, .ref 169, .ref 170, .ref 171, .ref 172, .ref 173, .ref 174, .ref 175, .ref 176, .ref 177, .ref 178, .ref 179, .ref 180, .ref 181, .ref 182, .ref 183, .ref 184, .null, .int 0, .int 0, .null, .int 0, .null, .null, .null, .null, .int 0, .int 0, .int 0, .int 0, .int 0, .int 0, .int 0, .null, .int 0, .int 0]
def mc28 : List Value := [.ref 158, .ref 159, .ref 160, .ref 161, .ref 162, .ref 163, .ref 164, .ref 165, .ref 166, .ref 167, .ref 168, .ref 169, .ref 170, .ref 171, .ref 172, .ref 173, .ref 174, .ref 175, .ref 176, .ref 177, .ref 178, .ref 179, .ref 180, .ref 181, .ref 182, .ref 183, .ref 184, .ref 185, .int 0, .int 0, .null, .int 0, .null, .null, .null, .null, .int 0, .int 0, .int 0, .int 0, .int 0, .int 0, .int 0, .null, .int 0, .int 0]
def mc29 : List Value := [.ref 158, .ref 159, .ref 160, .ref 161, .ref 162, .ref 163, .ref 164, .ref 165, .ref 166, .ref 167, .ref 168, .ref 169, .ref 170, .ref 171, .ref 172, .ref 173, .ref 174, .ref 175, .ref 176, .ref 177, .ref 178, .ref 179, .ref 180, .ref 181, .ref 182, .ref 183, .ref 184, .ref 185, .int 0, .int 0, .ref 186, .int 0, .null, .null, .null, .null, .int 0, .int 0, .int 0, .int 0, .int 0, .int 0, .int 0, .null, .int 0, .int 0]
def mc30 : List Value := [.ref 158, .ref 159, .ref 160, .ref 161, .ref 162, .ref 163, .ref 164, .ref 165, .ref 166, .ref 167, .ref 168, .ref 169, .ref 170, .ref 171, .ref 172, .ref 173, .ref 174, .ref 175, .ref 176, .ref 177, .ref 178, .ref 179, .ref 180, .ref 181, .ref 182, .ref 183, .ref 184, .ref 185, .int 0, .int 0, .ref 186, .int 0, .ref 187, .null, .null, .null, .int 0, .int 0, .int 0, .int 0, .int 0, .int 0, .int 0, .null, .int 0, .int 0]
def mc31 : List Value := [.ref 158, .ref 159, .ref 160, .ref 161, .ref 162, .ref 163, .ref 164, .ref 165, .ref 166, .ref 167, .ref 168, .ref 169, .ref 170, .ref 171, .ref 172, .ref 173, .ref 174, .ref 175, .ref 176, .ref 177, .ref 178, .ref 179, .ref 180, .ref 181, .ref 182, .ref 183, .ref 184, .ref 185, .int 0, .int 0, .ref 186, .int 0, .ref 187, .ref 188, .null, .null, .int 0, .int 0, .int 0, .int 0, .int 0, .int 0, .int 0, .null, .int 0, .int 0]
def mc32 : List Value := [.ref 158, .ref 159, .ref 160, .ref 161, .ref 162, .ref 163, .ref 164, .ref 165, .ref 166, .ref 167, .ref 168, .ref 169, .ref 170, .ref 171, .ref 172, .ref 173, .ref 174, .ref 175, .ref 176, .ref 177, .ref 178, .ref 179, .ref 180, .ref 181, .ref 182, .ref 183, .ref 184, .ref 185, .int 0, .int 0, .ref 186, .int 0, .ref 187, .ref 188, .ref 189, .null, .int 0, .int 0, .int 0, .int 0, .int 0, .int 0, .int 0, .null, .int 0, .int 0]
def mc33 : List Value := [.ref 158, .ref 159, .ref 160, .ref 161, .ref 162, .ref 163, .ref 164, .ref 165, .ref 166, .ref 167, .ref 168, .ref 169, .ref 170, .ref 171, .ref 172, .ref 173, .ref 174, .ref 175, .ref 176, .ref 177, .ref 178, .ref 179, .ref 180, .ref 181, .ref 182, .ref 183, .ref 184, .ref 185, .int 0, .int 0, .ref 186, .int 0, .ref 187, .ref 188, .ref 189, .ref 190, .int 0, .int 0, .int 0, .int 0, .int 0, .int 0, .int 0, .null, .int 0, .int 0]
def mc34 : List Value := [.ref 158, .ref 159, .ref 160, .ref 161, .ref 162, .ref 163, .ref 164, .ref 165, .ref 166, .ref 167, .ref 168, .ref 169, .ref 170, .ref 171, .ref 172, .ref 173, .ref 174, .ref 175, .ref 176, .ref 177, .ref 178, .ref 179, .ref 180, .ref 181, .ref 182, .ref 183, .ref 184, .ref 185, .int 0, .int 0, .ref 186, .int 0, .ref 187, .ref 188, .ref 189, .ref 190, .int 0, .int 0, .int 0, .int 0, .int 0, .int 0, .int 0, .ref 191, .int 0, .int 0]
theorem nw_8 {n s : Nat} {g : Nat → jv_C} : jv_newo gw (HH n s g) 8 = some (HH (n + 1) (s + 46) (va_up g (n + 1) (.inr (8, mc0)))) := H_newo (c := 8) rfl
theorem mn0 : jv_newi (HH 157 1594 (va_up E0 157 (.inr (8, mc0)))) 1 4 = some (HH 158 1598 (va_up E0 157 (.inr (8, mc0)))) := ni_id (n := 157) (s := 1594) (m := 4) (by decide) (by decide) (by rw [up_ne (by decide)]; rfl)
theorem mp0 : jv_put (HH 158 1598 (va_up E0 157 (.inr (8, mc0)))) 157 8 0 (.ref 158) = some (HH 158 1598 (va_up E0 157 (.inr (8, mc1)))) := put_1 (by decide) (by decide)
theorem mn1 : jv_newi (HH 158 1598 (va_up E0 157 (.inr (8, mc1)))) 1 4 = some (HH 159 1602 (va_up E0 157 (.inr (8, mc1)))) := ni_id (n := 158) (s := 1598) (m := 4) (by decide) (by decide) (by rw [up_ne (by decide)]; rfl)
theorem mp1 : jv_put (HH 159 1602 (va_up E0 157 (.inr (8, mc1)))) 157 8 1 (.ref 159) = some (HH 159 1602 (va_up E0 157 (.inr (8, mc2)))) := put_1 (by decide) (by decide)
theorem mn2 : jv_newi (HH 159 1602 (va_up E0 157 (.inr (8, mc2)))) 1 16 = some (HH 160 1618 (va_up E0 157 (.inr (8, mc2)))) := ni_id (n := 159) (s := 1602) (m := 16) (by decide) (by decide) (by rw [up_ne (by decide)]; rfl)
theorem mp2 : jv_put (HH 160 1618 (va_up E0 157 (.inr (8, mc2)))) 157 8 2 (.ref 160) = some (HH 160 1618 (va_up E0 157 (.inr (8, mc3)))) := put_1 (by decide) (by decide)
theorem mn3 : jv_newi (HH 160 1618 (va_up E0 157 (.inr (8, mc3)))) 1 16 = some (HH 161 1634 (va_up E0 157 (.inr (8, mc3)))) := ni_id (n := 160) (s := 1618) (m := 16) (by decide) (by decide) (by rw [up_ne (by decide)]; rfl)
theorem mp3 : jv_put (HH 161 1634 (va_up E0 157 (.inr (8, mc3)))) 157 8 3 (.ref 161) = some (HH 161 1634 (va_up E0 157 (.inr (8, mc4)))) := put_1 (by decide) (by decide)
theorem mn4 : jv_newi (HH 161 1634 (va_up E0 157 (.inr (8, mc4)))) 0 16 = some (HH 162 1650 (va_up E0 157 (.inr (8, mc4)))) := ni_id (n := 161) (s := 1634) (m := 16) (by decide) (by decide) (by rw [up_ne (by decide)]; rfl)
theorem mp4 : jv_put (HH 162 1650 (va_up E0 157 (.inr (8, mc4)))) 157 8 4 (.ref 162) = some (HH 162 1650 (va_up E0 157 (.inr (8, mc5)))) := put_1 (by decide) (by decide)
theorem mn5 : jv_newi (HH 162 1650 (va_up E0 157 (.inr (8, mc5)))) 0 128 = some (HH 163 1778 (va_up E0 157 (.inr (8, mc5)))) := ni_id (n := 162) (s := 1650) (m := 128) (by decide) (by decide) (by rw [up_ne (by decide)]; rfl)
theorem mp5 : jv_put (HH 163 1778 (va_up E0 157 (.inr (8, mc5)))) 157 8 5 (.ref 163) = some (HH 163 1778 (va_up E0 157 (.inr (8, mc6)))) := put_1 (by decide) (by decide)
theorem mn6 : jv_newi (HH 163 1778 (va_up E0 157 (.inr (8, mc6)))) 0 128 = some (HH 164 1906 (va_up E0 157 (.inr (8, mc6)))) := ni_id (n := 163) (s := 1778) (m := 128) (by decide) (by decide) (by rw [up_ne (by decide)]; rfl)
theorem mp6 : jv_put (HH 164 1906 (va_up E0 157 (.inr (8, mc6)))) 157 8 6 (.ref 164) = some (HH 164 1906 (va_up E0 157 (.inr (8, mc7)))) := put_1 (by decide) (by decide)
theorem mn7 : jv_newi (HH 164 1906 (va_up E0 157 (.inr (8, mc7)))) 0 128 = some (HH 165 2034 (va_up E0 157 (.inr (8, mc7)))) := ni_id (n := 164) (s := 1906) (m := 128) (by decide) (by decide) (by rw [up_ne (by decide)]; rfl)
theorem mp7 : jv_put (HH 165 2034 (va_up E0 157 (.inr (8, mc7)))) 157 8 7 (.ref 165) = some (HH 165 2034 (va_up E0 157 (.inr (8, mc8)))) := put_1 (by decide) (by decide)
theorem mn8 : jv_newi (HH 165 2034 (va_up E0 157 (.inr (8, mc8)))) 0 32 = some (HH 166 2066 (va_up E0 157 (.inr (8, mc8)))) := ni_id (n := 165) (s := 2034) (m := 32) (by decide) (by decide) (by rw [up_ne (by decide)]; rfl)
theorem mp8 : jv_put (HH 166 2066 (va_up E0 157 (.inr (8, mc8)))) 157 8 8 (.ref 166) = some (HH 166 2066 (va_up E0 157 (.inr (8, mc9)))) := put_1 (by decide) (by decide)
theorem mn9 : jv_newi (HH 166 2066 (va_up E0 157 (.inr (8, mc9)))) 0 32 = some (HH 167 2098 (va_up E0 157 (.inr (8, mc9)))) := ni_id (n := 166) (s := 2066) (m := 32) (by decide) (by decide) (by rw [up_ne (by decide)]; rfl)
theorem mp9 : jv_put (HH 167 2098 (va_up E0 157 (.inr (8, mc9)))) 157 8 9 (.ref 167) = some (HH 167 2098 (va_up E0 157 (.inr (8, mc10)))) := put_1 (by decide) (by decide)
theorem mn10 : jv_newi (HH 167 2098 (va_up E0 157 (.inr (8, mc10)))) 0 32 = some (HH 168 2130 (va_up E0 157 (.inr (8, mc10)))) := ni_id (n := 167) (s := 2098) (m := 32) (by decide) (by decide) (by rw [up_ne (by decide)]; rfl)
theorem mp10 : jv_put (HH 168 2130 (va_up E0 157 (.inr (8, mc10)))) 157 8 10 (.ref 168) = some (HH 168 2130 (va_up E0 157 (.inr (8, mc11)))) := put_1 (by decide) (by decide)
theorem mn11 : jv_newi (HH 168 2130 (va_up E0 157 (.inr (8, mc11)))) 0 32 = some (HH 169 2162 (va_up E0 157 (.inr (8, mc11)))) := ni_id (n := 168) (s := 2130) (m := 32) (by decide) (by decide) (by rw [up_ne (by decide)]; rfl)
theorem mp11 : jv_put (HH 169 2162 (va_up E0 157 (.inr (8, mc11)))) 157 8 11 (.ref 169) = some (HH 169 2162 (va_up E0 157 (.inr (8, mc12)))) := put_1 (by decide) (by decide)
theorem mn12 : jv_newi (HH 169 2162 (va_up E0 157 (.inr (8, mc12)))) 0 32 = some (HH 170 2194 (va_up E0 157 (.inr (8, mc12)))) := ni_id (n := 169) (s := 2162) (m := 32) (by decide) (by decide) (by rw [up_ne (by decide)]; rfl)
theorem mp12 : jv_put (HH 170 2194 (va_up E0 157 (.inr (8, mc12)))) 157 8 12 (.ref 170) = some (HH 170 2194 (va_up E0 157 (.inr (8, mc13)))) := put_1 (by decide) (by decide)
theorem mn13 : jv_newi (HH 170 2194 (va_up E0 157 (.inr (8, mc13)))) 0 32 = some (HH 171 2226 (va_up E0 157 (.inr (8, mc13)))) := ni_id (n := 170) (s := 2194) (m := 32) (by decide) (by decide) (by rw [up_ne (by decide)]; rfl)
theorem mp13 : jv_put (HH 171 2226 (va_up E0 157 (.inr (8, mc13)))) 157 8 13 (.ref 171) = some (HH 171 2226 (va_up E0 157 (.inr (8, mc14)))) := put_1 (by decide) (by decide)
theorem mn14 : jv_newi (HH 171 2226 (va_up E0 157 (.inr (8, mc14)))) 0 32 = some (HH 172 2258 (va_up E0 157 (.inr (8, mc14)))) := ni_id (n := 171) (s := 2226) (m := 32) (by decide) (by decide) (by rw [up_ne (by decide)]; rfl)
theorem mp14 : jv_put (HH 172 2258 (va_up E0 157 (.inr (8, mc14)))) 157 8 14 (.ref 172) = some (HH 172 2258 (va_up E0 157 (.inr (8, mc15)))) := put_1 (by decide) (by decide)
theorem mn15 : jv_newi (HH 172 2258 (va_up E0 157 (.inr (8, mc15)))) 0 32 = some (HH 173 2290 (va_up E0 157 (.inr (8, mc15)))) := ni_id (n := 172) (s := 2258) (m := 32) (by decide) (by decide) (by rw [up_ne (by decide)]; rfl)
theorem mp15 : jv_put (HH 173 2290 (va_up E0 157 (.inr (8, mc15)))) 157 8 15 (.ref 173) = some (HH 173 2290 (va_up E0 157 (.inr (8, mc16)))) := put_1 (by decide) (by decide)
theorem mn16 : jv_newi (HH 173 2290 (va_up E0 157 (.inr (8, mc16)))) 1 32 = some (HH 174 2322 (va_up E0 157 (.inr (8, mc16)))) := ni_id (n := 173) (s := 2290) (m := 32) (by decide) (by decide) (by rw [up_ne (by decide)]; rfl)
theorem mp16 : jv_put (HH 174 2322 (va_up E0 157 (.inr (8, mc16)))) 157 8 16 (.ref 174) = some (HH 174 2322 (va_up E0 157 (.inr (8, mc17)))) := put_1 (by decide) (by decide)
theorem mn17 : jv_newi (HH 174 2322 (va_up E0 157 (.inr (8, mc17)))) 0 30 = some (HH 175 2352 (va_up E0 157 (.inr (8, mc17)))) := ni_id (n := 174) (s := 2322) (m := 30) (by decide) (by decide) (by rw [up_ne (by decide)]; rfl)
theorem mp17 : jv_put (HH 175 2352 (va_up E0 157 (.inr (8, mc17)))) 157 8 17 (.ref 175) = some (HH 175 2352 (va_up E0 157 (.inr (8, mc18)))) := put_1 (by decide) (by decide)
theorem mn18 : jv_newi (HH 175 2352 (va_up E0 157 (.inr (8, mc18)))) 0 30 = some (HH 176 2382 (va_up E0 157 (.inr (8, mc18)))) := ni_id (n := 175) (s := 2352) (m := 30) (by decide) (by decide) (by rw [up_ne (by decide)]; rfl)
theorem mp18 : jv_put (HH 176 2382 (va_up E0 157 (.inr (8, mc18)))) 157 8 18 (.ref 176) = some (HH 176 2382 (va_up E0 157 (.inr (8, mc19)))) := put_1 (by decide) (by decide)
theorem mn19 : jv_newi (HH 176 2382 (va_up E0 157 (.inr (8, mc19)))) 0 30 = some (HH 177 2412 (va_up E0 157 (.inr (8, mc19)))) := ni_id (n := 176) (s := 2382) (m := 30) (by decide) (by decide) (by rw [up_ne (by decide)]; rfl)
theorem mp19 : jv_put (HH 177 2412 (va_up E0 157 (.inr (8, mc19)))) 157 8 19 (.ref 177) = some (HH 177 2412 (va_up E0 157 (.inr (8, mc20)))) := put_1 (by decide) (by decide)
theorem mn20 : jv_newi (HH 177 2412 (va_up E0 157 (.inr (8, mc20)))) 0 30 = some (HH 178 2442 (va_up E0 157 (.inr (8, mc20)))) := ni_id (n := 177) (s := 2412) (m := 30) (by decide) (by decide) (by rw [up_ne (by decide)]; rfl)
theorem mp20 : jv_put (HH 178 2442 (va_up E0 157 (.inr (8, mc20)))) 157 8 20 (.ref 178) = some (HH 178 2442 (va_up E0 157 (.inr (8, mc21)))) := put_1 (by decide) (by decide)
theorem mn21 : jv_newi (HH 178 2442 (va_up E0 157 (.inr (8, mc21)))) 0 30 = some (HH 179 2472 (va_up E0 157 (.inr (8, mc21)))) := ni_id (n := 178) (s := 2442) (m := 30) (by decide) (by decide) (by rw [up_ne (by decide)]; rfl)
theorem mp21 : jv_put (HH 179 2472 (va_up E0 157 (.inr (8, mc21)))) 157 8 21 (.ref 179) = some (HH 179 2472 (va_up E0 157 (.inr (8, mc22)))) := put_1 (by decide) (by decide)
theorem mn22 : jv_newi (HH 179 2472 (va_up E0 157 (.inr (8, mc22)))) 0 30 = some (HH 180 2502 (va_up E0 157 (.inr (8, mc22)))) := ni_id (n := 179) (s := 2472) (m := 30) (by decide) (by decide) (by rw [up_ne (by decide)]; rfl)
theorem mp22 : jv_put (HH 180 2502 (va_up E0 157 (.inr (8, mc22)))) 157 8 22 (.ref 180) = some (HH 180 2502 (va_up E0 157 (.inr (8, mc23)))) := put_1 (by decide) (by decide)
theorem mn23 : jv_newi (HH 180 2502 (va_up E0 157 (.inr (8, mc23)))) 0 30 = some (HH 181 2532 (va_up E0 157 (.inr (8, mc23)))) := ni_id (n := 180) (s := 2502) (m := 30) (by decide) (by decide) (by rw [up_ne (by decide)]; rfl)
theorem mp23 : jv_put (HH 181 2532 (va_up E0 157 (.inr (8, mc23)))) 157 8 23 (.ref 181) = some (HH 181 2532 (va_up E0 157 (.inr (8, mc24)))) := put_1 (by decide) (by decide)
theorem mn24 : jv_newi (HH 181 2532 (va_up E0 157 (.inr (8, mc24)))) 0 30 = some (HH 182 2562 (va_up E0 157 (.inr (8, mc24)))) := ni_id (n := 181) (s := 2532) (m := 30) (by decide) (by decide) (by rw [up_ne (by decide)]; rfl)
theorem mp24 : jv_put (HH 182 2562 (va_up E0 157 (.inr (8, mc24)))) 157 8 24 (.ref 182) = some (HH 182 2562 (va_up E0 157 (.inr (8, mc25)))) := put_1 (by decide) (by decide)
theorem mn25 : jv_newi (HH 182 2562 (va_up E0 157 (.inr (8, mc25)))) 0 30 = some (HH 183 2592 (va_up E0 157 (.inr (8, mc25)))) := ni_id (n := 182) (s := 2562) (m := 30) (by decide) (by decide) (by rw [up_ne (by decide)]; rfl)
theorem mp25 : jv_put (HH 183 2592 (va_up E0 157 (.inr (8, mc25)))) 157 8 25 (.ref 183) = some (HH 183 2592 (va_up E0 157 (.inr (8, mc26)))) := put_1 (by decide) (by decide)
theorem mn26 : jv_newi (HH 183 2592 (va_up E0 157 (.inr (8, mc26)))) 0 30 = some (HH 184 2622 (va_up E0 157 (.inr (8, mc26)))) := ni_id (n := 183) (s := 2592) (m := 30) (by decide) (by decide) (by rw [up_ne (by decide)]; rfl)
theorem mp26 : jv_put (HH 184 2622 (va_up E0 157 (.inr (8, mc26)))) 157 8 26 (.ref 184) = some (HH 184 2622 (va_up E0 157 (.inr (8, mc27)))) := put_1 (by decide) (by decide)
theorem mn27 : jv_newi (HH 184 2622 (va_up E0 157 (.inr (8, mc27)))) 0 30 = some (HH 185 2652 (va_up E0 157 (.inr (8, mc27)))) := ni_id (n := 184) (s := 2622) (m := 30) (by decide) (by decide) (by rw [up_ne (by decide)]; rfl)
theorem mp27 : jv_put (HH 185 2652 (va_up E0 157 (.inr (8, mc27)))) 157 8 27 (.ref 185) = some (HH 185 2652 (va_up E0 157 (.inr (8, mc28)))) := put_1 (by decide) (by decide)
theorem mn28 : jv_newi (HH 185 2652 (va_up E0 157 (.inr (8, mc28)))) 0 64 = some (HH 186 2716 (va_up E0 157 (.inr (8, mc28)))) := ni_id (n := 185) (s := 2652) (m := 64) (by decide) (by decide) (by rw [up_ne (by decide)]; rfl)
theorem mp28 : jv_put (HH 186 2716 (va_up E0 157 (.inr (8, mc28)))) 157 8 30 (.ref 186) = some (HH 186 2716 (va_up E0 157 (.inr (8, mc29)))) := put_1 (by decide) (by decide)
theorem mn29 : jv_newi (HH 186 2716 (va_up E0 157 (.inr (8, mc29)))) 0 12 = some (HH 187 2728 (va_up E0 157 (.inr (8, mc29)))) := ni_id (n := 186) (s := 2716) (m := 12) (by decide) (by decide) (by rw [up_ne (by decide)]; rfl)
theorem mp29 : jv_put (HH 187 2728 (va_up E0 157 (.inr (8, mc29)))) 157 8 32 (.ref 187) = some (HH 187 2728 (va_up E0 157 (.inr (8, mc30)))) := put_1 (by decide) (by decide)
theorem mn30 : jv_newi (HH 187 2728 (va_up E0 157 (.inr (8, mc30)))) 0 12 = some (HH 188 2740 (va_up E0 157 (.inr (8, mc30)))) := ni_id (n := 187) (s := 2728) (m := 12) (by decide) (by decide) (by rw [up_ne (by decide)]; rfl)
theorem mp30 : jv_put (HH 188 2740 (va_up E0 157 (.inr (8, mc30)))) 157 8 33 (.ref 188) = some (HH 188 2740 (va_up E0 157 (.inr (8, mc31)))) := put_1 (by decide) (by decide)
theorem mn31 : jv_newi (HH 188 2740 (va_up E0 157 (.inr (8, mc31)))) 0 12 = some (HH 189 2752 (va_up E0 157 (.inr (8, mc31)))) := ni_id (n := 188) (s := 2740) (m := 12) (by decide) (by decide) (by rw [up_ne (by decide)]; rfl)
theorem mp31 : jv_put (HH 189 2752 (va_up E0 157 (.inr (8, mc31)))) 157 8 34 (.ref 189) = some (HH 189 2752 (va_up E0 157 (.inr (8, mc32)))) := put_1 (by decide) (by decide)
theorem mn32 : jv_newi (HH 189 2752 (va_up E0 157 (.inr (8, mc32)))) 0 12 = some (HH 190 2764 (va_up E0 157 (.inr (8, mc32)))) := ni_id (n := 189) (s := 2752) (m := 12) (by decide) (by decide) (by rw [up_ne (by decide)]; rfl)
theorem mp32 : jv_put (HH 190 2764 (va_up E0 157 (.inr (8, mc32)))) 157 8 35 (.ref 190) = some (HH 190 2764 (va_up E0 157 (.inr (8, mc33)))) := put_1 (by decide) (by decide)
theorem mn33 : jv_newi (HH 190 2764 (va_up E0 157 (.inr (8, mc33)))) 0 32 = some (HH 191 2796 (va_up E0 157 (.inr (8, mc33)))) := ni_id (n := 190) (s := 2764) (m := 32) (by decide) (by decide) (by rw [up_ne (by decide)]; rfl)
theorem mp33 : jv_put (HH 191 2796 (va_up E0 157 (.inr (8, mc33)))) 157 8 43 (.ref 191) = some (HH 191 2796 (va_up E0 157 (.inr (8, mc34)))) := put_1 (by decide) (by decide)
theorem m_end : HH 191 2796 (va_up E0 157 (.inr (8, mc34))) = he zI zP zM := by
  rw [up_id (a := 157) (show E0 157 = .inr (8, mc34) from rfl)]
  unfold HH he
  congr 2
  funext a
  unfold cutH
  by_cases h : a ≤ 191
  · rw [if_pos h]; rfl
  · rw [if_neg h]
    show jv_no = en zI zP zM a
    unfold en
    rw [if_neg (by omega), if_neg (by omega), if_neg (by omega), if_neg (by omega), if_neg (by omega), if_neg (by omega)]
    unfold en3
    split <;> first | omega | rfl
theorem i76 (hd : 1 ≤ d) : jv_F gw X d 76 [.ref 157] (HH 157 1594 (va_up E0 157 (.inr (8, mc0)))) = some (none, he zI zP zM) := by
  obtain ⟨d, rfl⟩ : ∃ q, d = q + 1 := ⟨d - 1, by omega⟩
  rw [e76, ← m_end]
  simp (disch := first | decide | omega | assumption | (simp (disch := decide) only [u2_ne, u2_same, mQueue]; assumption)) only [kV_some, kI_some, kR_some, kR_any, kH_some, kC_none, kC_some, jv_rsv_ref, jv_rsv_rf, jv_nz_ref, jv_nz_null, jv_nz_rf0, jv_nz_rf1, jv_rq_r1, jv_rq_r0, n10, n11, n00, Nat.reduceEqDiff, Option.bind_some, Option.bind_none, jv_isr_ref, jv_isr_rf, jv_isr_null, va_rf_some, va_rf_none, jv_cat1_int, jv_cat1_ref, jv_cat1_rf, if_true, if_false, eq_self, Option.toList_some, Option.toList_none, List.cons_append, List.nil_append, Bool.and_self, Bool.and_true, i32_10, i32_01, i32_80, nI_div8, nI_mul4, nI_mul8, nI_mul32, nI_add, ↓reduceIte, u2_ne, u2_same, r76_0, r76_1, r76_4, r76_5, r76_6, r76_8, r76_11, r76_12, r76_13, r76_15, r76_18, r76_19, r76_21, r76_23, r76_26, r76_27, r76_29, r76_31, r76_34, r76_35, r76_37, r76_39, r76_42, r76_43, r76_46, r76_48, r76_51, r76_52, r76_55, r76_57, r76_60, r76_61, r76_64, r76_66, r76_69, r76_70, r76_72, r76_74, r76_77, r76_78, r76_80, r76_82, r76_85, r76_86, r76_88, r76_90, r76_93, r76_94, r76_96, r76_98, r76_101, r76_102, r76_104, r76_106, r76_109, r76_110, r76_112, r76_114, r76_117, r76_118, r76_120, r76_122, r76_125, r76_126, r76_128, r76_130, r76_133, r76_134, r76_136, r76_138, r76_141, r76_142, r76_144, r76_146, r76_149, r76_150, r76_152, r76_154, r76_157, r76_158, r76_160, r76_162, r76_165, r76_166, r76_168, r76_170, r76_173, r76_174, r76_176, r76_178, r76_181, r76_182, r76_184, r76_186, r76_189, r76_190, r76_192, r76_194, r76_197, r76_198, r76_200, r76_202, r76_205, r76_206, r76_208, r76_210, r76_213, r76_214, r76_216, r76_218, r76_221, r76_222, r76_224, r76_226, r76_229, r76_230, r76_232, r76_234, r76_237, r76_238, r76_240, r76_242, r76_245, r76_246, r76_248, r76_250, r76_253, r76_254, r76_256, r76_258, r76_261, r76_262, r76_264, r76_266, r76_269, r76_270, r76_272, r76_274, r76_277, HH_1, mn0, mp0, mn1, mp1, mn2, mp2, mn3, mp3, mn4, mp4, mn5, mp5, mn6, mp6, mn7, mp7, mn8, mp8, mn9, mp9, mn10, mp10, mn11, mp11, mn12, mp12, mn13, mp13, mn14, mp14, mn15, mp15, mn16, mp16, mn17, mp17, mn18, mp18, mn19, mp19, mn20, mp20, mn21, mp21, mn22, mp22, mn23, mp23, mn24, mp24, mn25, mp25, mn26, mp26, mn27, mp27, mn28, mp28, mn29, mp29, mn30, mp30, mn31, mp31, mn32, mp32, mn33, mp33, Nat.reduceAdd]
end CI
