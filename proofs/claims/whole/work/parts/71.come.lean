/-! ===== J: what else changes; the reference: come ===== -/
def kF (f : Nat) : Bool := [4, 5, 6, 7, 8, 17, 18, 19, 23, 24, 25, 26, 28, 29, 30, 31, 32, 34, 36].contains f
theorem kF_ne {f q : Nat} (h : kF f = true) (hq : kF q = false) : f ≠ q := fun z => by rw [z, hq] at h; exact absurd h (by decide)
section JJ
variable {M N : Nat → Nat → Int32} {R W K O Q : Nat} {y x : Int32}
theorem J.upd (h : J M R W K O Q y x) (e : ∀ f, kF f = true → N f = M f) (h22 : ∀ i, i < R → N 22 i = M 22 i ∨ ∃ a : Nat, a < 100 ∧ N 22 i = nI a) (hg : JG (M 8) (N 9) (N 10) (N 11) (N 15) (N 14) (N 16)) : J N R W K O Q y x := by
  refine ⟨?_, ?_, ?_, ?_, ?_, ?_, ?_, ?_, ?_⟩
  · refine h.ok.of (by rw [e 28 rfl]) (by rw [e 31 rfl]; exact h.hW) (fun j _ => by rw [e 18 rfl]) (fun j _ => by rw [e 19 rfl]) h22 (e 4 rfl) (fun j _ => Or.inl (by rw [e 26 rfl])) ?_
    rw [e 23 rfl, e 8 rfl]
    exact h.ok.2.2.2.2.2.2.1
  · rw [e 17 rfl, e 29 rfl]; exact h.n
  · rw [e 18 rfl, e 23 rfl, e 8 rfl]; exact h.s
  · rw [e 17 rfl, e 23 rfl, e 30 rfl, e 8 rfl]; exact h.l
  · rw [e 17 rfl, e 23 rfl, e 24 rfl, e 25 rfl, e 26 rfl, e 32 rfl, e 34 rfl]; exact h.a
  · rw [e 36 rfl]; exact h.o
  · rw [e 34 rfl, e 29 rfl]; exact h.q
  · rw [e 8 rfl]; exact hg
  · rw [e 4 rfl, e 5 rfl, e 6 rfl, e 7 rfl]; exact h.t
theorem J.mono (h : J M R W K O Q y x) {K2 Q2 : Nat} (hK : K ≤ K2) (h2 : K2 ≤ 62) (hQ : Q ≤ Q2) (hQ2 : Q2 < 2 ^ 30) : J M R W K2 O Q2 y x := by
  obtain ⟨a1, a2, a3, a4, a5, a6, a7, a8, a9⟩ := h
  obtain ⟨n, n1, n2, n3⟩ := a2.2.2
  exact ⟨⟨a1.1, a1.2.1, a1.2.2.1, a1.2.2.2.1, a1.2.2.2.2.1, a1.2.2.2.2.2.1, Nat.le_trans a1.2.2.2.2.2.2.1 hK, h2⟩, ⟨a2.1, a2.2.1, n, n1, by omega, hQ2⟩, a3, a4, a5, a6, a7, a8, a9⟩
/-- a grain that was coming has another status -/
theorem J.arrive {g : Nat} {v : Int32} (h : J M R W (R + 31) O Q (-2 - nI g) x) (hg : g < 32) (h8 : M 8 g = 1) (hv : ¬ v = 1) (e8 : N 8 = va_up (M 8) g v) (e : ∀ f, kF f = true → f ≠ 8 → N f = M f) (h22 : N 22 = M 22) (hgN : JG (N 8) (N 9) (N 10) (N 11) (N 15) (N 14) (N 16)) : J N R W (R + 32) O Q (-1) x := by
  have h30 := h.h30
  have h' : okM M R W (R + 32) := ⟨h.ok.1, h.ok.2.1, h.ok.2.2.1, h.ok.2.2.2.1, h.ok.2.2.2.2.1, h.ok.2.2.2.2.2.1, by have := h.ok.2.2.2.2.2.2.1; omega, by omega⟩
  refine ⟨?_, ?_, ?_, ?_, ?_, ?_, ?_, hgN, ?_⟩
  · refine h'.of (by rw [e 28 rfl (by decide)]) (by rw [e 31 rfl (by decide)]; exact h.hW) (fun j _ => by rw [e 18 rfl (by decide)]) (fun j _ => by rw [e 19 rfl (by decide)]) (fun j _ => Or.inl (by rw [h22])) (e 4 rfl (by decide)) (fun j _ => Or.inl (by rw [e 26 rfl (by decide)])) ?_
    have := cnt_up (f := M 8) (x := 1) (v := v) (k := g) 32 0 (Nat.zero_le _) (by omega)
    rw [if_pos h8, if_neg hv] at this
    have hc := h.ok.2.2.2.2.2.2.1
    rw [e 23 rfl (by decide), e8]
    omega
  · rw [e 17 rfl (by decide), e 29 rfl (by decide)]; exact h.n
  · rw [e 18 rfl (by decide), e 23 rfl (by decide), e8]; exact h.s.sta (Or.inr (Or.inl (by rw [h8]; decide)))
  · rw [e 17 rfl (by decide), e 23 rfl (by decide), e 30 rfl (by decide), e8]
    refine h.l.sta (fun k g2 hk hg2 z1 z2 => ?_) (fun k j _ _ _ z => z) (fun k hk => ((h.l.none h.n).1 k hk).1) (h.l.none h.n).2.2
    have : ¬ g2 = g := fun z => by rw [z] at z1; exact (h.l.1 k hk).1 z1
    simp only [va_up, if_neg this]; exact z2
  · rw [e 17 rfl (by decide), e 23 rfl (by decide), e 24 rfl (by decide), e 25 rfl (by decide), e 26 rfl (by decide), e 32 rfl (by decide), e 34 rfl (by decide)]; exact h.a
  · rw [e 36 rfl (by decide)]; exact h.o
  · rw [e 34 rfl (by decide), e 29 rfl (by decide)]; exact h.q
  · rw [e 4 rfl (by decide), e 5 rfl (by decide), e 6 rfl (by decide), e 7 rfl (by decide)]; exact h.t
end JJ
/-- what waits at grain g, of these numbers, ends -/
noncomputable def mFailL (g : Nat) : List Int32 → (Nat → Nat → Int32) → (Nat → Nat → Int32)
  | [], M => M
  | n :: ns, M => if 0 ≤ mFind M n (nn (M 28 0)) 0 ∧ M 18 (nn (mFind M n (nn (M 28 0)) 0)) = nI g then mFailL g ns (mOver M (nn (M 28 0)) (nn (mFind M n (nn (M 28 0)) 0)) 0 101) else mFailL g ns M
def nus (M : Nat → Nat → Int32) (R : Nat) : List Int32 := (List.range R).map (M 17)
theorem mem_nus {M : Nat → Nat → Int32} {R k : Nat} (hk : k < R) : M 17 k ∈ nus M R := List.mem_map.mpr ⟨k, List.mem_range.mpr hk, rfl⟩
theorem nus_lt {M : Nat → Nat → Int32} {R Q : Nat} {md : Int32} (h : JN (M 17) md R Q) : (nus M R).Pairwise (· < ·) := by
  unfold nus
  rw [List.pairwise_map]
  refine List.Pairwise.imp_of_mem ?_ (List.pairwise_lt_range (n := R))
  intro a b ha hb hab
  exact h.2.1 a b hab (List.mem_range.mp hb)
theorem mFirst_at {M : Nat → Nat → Int32} {g : Int32} {R j : Nat} (hj : j < R) (h1 : M 18 j = g) (h2 : ∀ k, k < j → ¬ M 18 k = g) : mFirst M g R 0 = nI j := by
  have key : ∀ (r i : Nat), i + r = R → i ≤ j → mFirst M g r i = nI j := by
    intro r
    induction r with
    | zero => intro i h1 h2; omega
    | succ r ih =>
      intro i hi hij
      rw [mFirst]
      by_cases hz : i = j
      · subst hz; rw [if_pos h1]
      · rw [if_neg (h2 i (by omega))]
        exact ih (i + 1) (by omega) (by omega)
  exact key R 0 (by omega) (by omega)
theorem mFirst_no {M : Nat → Nat → Int32} {g : Int32} : ∀ (r i : Nat), (∀ k, i ≤ k → k < i + r → ¬ M 18 k = g) → mFirst M g r i = -1
  | 0, _, _ => rfl
  | r + 1, i, h => by
    rw [mFirst, if_neg (h i (by omega) (by omega)), mFirst_no r (i + 1) (fun k a b => h k (by omega) (by omega))]
/-- one of them: live at g or not -/
theorem mFailL_cons {M : Nat → Nat → Int32} {R W K O Q g : Nat} {y x n : Int32} {ns : List Int32} (h : J M R W K O Q y x) : (∃ j, j < R ∧ M 17 j = n ∧ M 18 j = nI g ∧ mFailL g (n :: ns) M = mFailL g ns (mOver M R j 0 101)) ∨ ((∀ j, j < R → M 17 j = n → ¬ M 18 j = nI g) ∧ mFailL g (n :: ns) M = mFailL g ns M) := by
  have hR : nn (M 28 0) = R := by rw [h.hR, nn_nI (by have := h.h30; omega)]
  have h30 := h.h30
  rw [mFailL, hR]
  rcases mFind_cases (M := M) (n := n) R 0 with z | ⟨j, j1, j2, j3, j4⟩
  · refine Or.inr ⟨fun j hj hn => ?_, by rw [if_neg (by rw [z]; exact fun q => absurd q.1 (by decide))]⟩
    have := mFind_at h.n hj hn
    rw [z] at this
    exact absurd this.symm (p_m1 (nI_pos' (by omega)))
  · have hnj : nn (nI j) = j := nn_nI (by omega)
    by_cases hg : M 18 j = nI g
    · exact Or.inl ⟨j, by omega, j3, hg, by rw [if_pos (by rw [j4, hnj]; exact ⟨nI_pos' (by omega), hg⟩), j4, hnj]⟩
    · refine Or.inr ⟨fun q hq hn => ?_, by rw [if_neg (by rw [j4, hnj]; exact fun z => hg z.2)]⟩
      have := h.n.inj hq (show j < R by omega) (hn.trans j3.symm)
      rw [this]; exact hg
theorem J.wait {M : Nat → Nat → Int32} {R W K O Q g j : Nat} {y x : Int32} (h : J M R W K O Q y x) (hg : g < 32) (h8 : ¬ M 8 g = 2) (hj : j < R) (hw : M 18 j = nI g) : M 23 j = 0 := by
  rcases h.s j hj with z | z
  · exact z
  · rw [hw, nn_nI (by omega)] at z
    exact absurd z.2 h8
theorem J.failL {O Q g : Nat} (hg : g < 32) : ∀ (ns : List Int32) (M : Nat → Nat → Int32) (R W : Nat), J M R W (R + 32) O Q (-1) (-1) → ¬ M 8 g = 2 → ∃ R' W', J (mFailL g ns M) R' W' (R' + 32) O Q (-1) (-1)
  | [], M, R, W, h, _ => ⟨R, W, h⟩
  | n :: ns, M, R, W, h, h8 => by
    rcases mFailL_cons (g := g) (n := n) (ns := ns) h with ⟨j, j1, j2, j3, j4⟩ | ⟨-, j4⟩
    · rw [j4]
      have hw := h.wait hg h8 j1 j3
      obtain ⟨R0, rfl⟩ : ∃ q, R = q + 1 := ⟨R - 1, by omega⟩
      obtain ⟨R', W', q1, q2, q3, q4⟩ := J.over (v := 0) (code := 101) (i := j) (by rw [if_neg (by rw [hw]; decide)]; exact h) j1 (Or.inr ⟨by rw [hw]; decide, rfl⟩) (fun k hk => h.noline j1 (by rw [hw]; decide) hk)
      exact J.failL hg ns _ R' W' q1 (by rw [q4 g h8]; exact h8)
    · rw [j4]
      exact J.failL hg ns M R W h h8
theorem s84l {X : Nat × (Nat → Int32)} {d : Nat} {I : Nat → Nat → Int32} {P : Nat → Nat → Option Nat} {O Q g : Nat} (hg : g < 32) (hd : 3 ≤ d) : ∀ (ns : List Int32) (M : Nat → Nat → Int32) (R W : Nat) (a2 : Option Value), J M R W (R + 32) O Q (-1) (-1) → ¬ M 8 g = 2 → (∀ k, k < R → M 18 k = nI g → M 17 k ∈ ns) → ns.Pairwise (· < ·) → jl gw X d 84 98 [some (.ref 157), some (.int (nI g)), a2, some (.int (mFirst M (nI g) R 0))] [] (he I P M) = some (none, he I P (mFailL g ns M)) := by
  intro ns
  induction ns with
  | nil =>
    intro M R W a2 h h8 hm hp
    have hno : mFirst M (nI g) R 0 = -1 := mFirst_no R 0 (fun k _ hk z => by have := hm k (by omega) z; exact absurd this (by simp))
    have hm1 : (-1 : Int32) < 0 := by decide
    rw [hno, r84_98]
    simp (disch := first | decide | omega | assumption | (simp (disch := decide) only [u2_ne, u2_same, mQueue]; assumption)) only [kV_some, kI_some, kR_some, kR_any, kH_some, kC_none, kC_some, jv_rsv_ref, jv_rsv_rf, jv_nz_ref, jv_nz_null, jv_nz_rf0, jv_nz_rf1, jv_rq_r1, jv_rq_r0, n10, n11, n00, Nat.reduceEqDiff, Option.bind_some, Option.bind_none, jv_isr_ref, jv_isr_rf, jv_isr_null, va_rf_some, va_rf_none, jv_cat1_int, jv_cat1_ref, jv_cat1_rf, if_true, if_false, eq_self, Option.toList_some, Option.toList_none, List.cons_append, List.nil_append, Bool.and_self, Bool.and_true, i32_10, i32_01, i32_80, nI_div8, nI_mul4, nI_mul8, nI_mul32, nI_add, ↓reduceIte, u2_ne, u2_same, r84_0, r84_1, r84_4, r84_5, r84_7, r84_8, r84_9, r84_12, r84_13, r84_16, r84_19, r84_20, r84_23, r84_24, r84_25, r84_26, r84_29, r84_30, r84_31, r84_34, r84_35, r84_38, r84_39, r84_40, r84_41, r84_42, r84_45, r84_46, r84_47, r84_50, r84_51, r84_53, r84_54, r84_55, r84_58, r84_59, r84_62, r84_63, r84_64, r84_67, r84_68, r84_69, r84_70, r84_71, r84_74, r84_75, r84_76, r84_79, r84_80, r84_81, r84_84, r84_85, r84_86, r84_89, r84_90, r84_91, r84_92, r84_93, r84_94, r84_97, r84_99, r84_102, r84_103, r84_104, r84_105, r84_107, r84_110, r84_111, r84_112, r84_115, r84_116, r84_119, hm1, mFailL]
  | cons n ns ih =>
    intro M R W a2 h h8 hm hp
    rw [List.pairwise_cons] at hp
    rcases mFailL_cons (g := g) (n := n) (ns := ns) h with ⟨j, j1, j2, j3, j4⟩ | ⟨j3, j4⟩
    · have h30 := h.h30
      have hw := h.wait hg h8 j1 j3
      have hfirst : mFirst M (nI g) R 0 = nI j := mFirst_at j1 j3 (fun k hk z => by
        have hlt := h.n.2.1 k j hk j1
        have hmem := hm k (by omega) z
        rw [j2] at hlt
        rcases List.mem_cons.mp hmem with q | q
        · rw [q] at hlt; exact absurd hlt Int32.lt_irrefl
        · exact absurd (Int32.lt_trans hlt (hp.1 _ q)) Int32.lt_irrefl)
      obtain ⟨R0, rfl⟩ : ∃ q, R = q + 1 := ⟨R - 1, by omega⟩
      have hJ : J M (R0 + 1) W (R0 + 32 + (if M 23 j = 1 then 0 else 1)) O Q (-1) (-1) := by rw [if_neg (by rw [hw]; decide)]; exact h
      obtain ⟨R', W', q1, q2, q3, q4⟩ := J.over (v := 0) (code := 101) (i := j) hJ j1 (Or.inr ⟨by rw [hw]; decide, rfl⟩) (fun k hk => h.noline j1 (by rw [hw]; decide) hk)
      have ho := (t92 (X := X) (d := d) (I := I) (P := P) (v := 0) (code := 101) hJ.ok j1 hd).1
      have hf := t91 (X := X) (d := d) (I := I) (P := P) (g := nI g) q1.hR q1.h30 (by omega)
      have p1 : ¬ nI j < 0 := nI_pos (by omega)
      rw [hfirst, j4, r84_98]
      simp (disch := first | decide | omega | assumption | (simp (disch := decide) only [u2_ne, u2_same, mQueue]; assumption)) only [kV_some, kI_some, kR_some, kR_any, kH_some, kC_none, kC_some, jv_rsv_ref, jv_rsv_rf, jv_nz_ref, jv_nz_null, jv_nz_rf0, jv_nz_rf1, jv_rq_r1, jv_rq_r0, n10, n11, n00, Nat.reduceEqDiff, Option.bind_some, Option.bind_none, jv_isr_ref, jv_isr_rf, jv_isr_null, va_rf_some, va_rf_none, jv_cat1_int, jv_cat1_ref, jv_cat1_rf, if_true, if_false, eq_self, Option.toList_some, Option.toList_none, List.cons_append, List.nil_append, Bool.and_self, Bool.and_true, i32_10, i32_01, i32_80, nI_div8, nI_mul4, nI_mul8, nI_mul32, nI_add, ↓reduceIte, u2_ne, u2_same, r84_0, r84_1, r84_4, r84_5, r84_7, r84_8, r84_9, r84_12, r84_13, r84_16, r84_19, r84_20, r84_23, r84_24, r84_25, r84_26, r84_29, r84_30, r84_31, r84_34, r84_35, r84_38, r84_39, r84_40, r84_41, r84_42, r84_45, r84_46, r84_47, r84_50, r84_51, r84_53, r84_54, r84_55, r84_58, r84_59, r84_62, r84_63, r84_64, r84_67, r84_68, r84_69, r84_70, r84_71, r84_74, r84_75, r84_76, r84_79, r84_80, r84_81, r84_84, r84_85, r84_86, r84_89, r84_90, r84_91, r84_92, r84_93, r84_94, r84_97, r84_99, r84_102, r84_103, r84_104, r84_105, r84_107, r84_110, r84_111, r84_112, r84_115, r84_116, r84_119, ic_157, p1, ho, hf]
      refine ih _ R' W' a2 q1 (by rw [q4 g h8]; exact h8) (fun k hk z => ?_) hp.2
      obtain ⟨p, p2, p3, p4⟩ := q2 k hk
      have := hm p p2 (p4.symm.trans z)
      rw [← p3] at this
      rcases List.mem_cons.mp this with q | q
      · exact absurd (q.trans j2.symm) (q3 k hk)
      · exact q
    · rw [j4]
      refine ih M R W a2 h h8 (fun k hk z => ?_) hp.2
      rcases List.mem_cons.mp (hm k hk z) with q | q
      · exact absurd z (j3 k hk q)
      · exact q
/-- come(g) -/
def mArr (M : Nat → Nat → Int32) (g : Nat) : Nat → Nat → Int32 := u2 (u2 (u2 (mLeave M g) 8 g 2) 9 g (if M 1 (g / 8) = 0 then 0 else M 12 g)) 41 0 (M 41 0 + 1)
noncomputable def mCome (M : Nat → Nat → Int32) (g R : Nat) : Nat → Nat → Int32 :=
  if M 1 (g / 8) = 0 ∨ M 42 0 = 0 then mLooked (mArr M g) g R else mFailL g (nus M R) (u2 (mWorked M) 8 g 0)
theorem J.arr {M : Nat → Nat → Int32} {R W O Q g : Nat} {x : Int32} (h : J M R W (R + 31) O Q (-2 - nI g) x) (hg : g < 32) (h8 : M 8 g = 1) : J (mArr M g) R W (R + 32) O Q (-1) x := by
  refine h.arrive (v := 2) hg h8 (by decide) ?_ (fun f hf hf8 => ?_) ?_ (fun k hk => ?_)
  · unfold mArr
    rw [u2_ne (by decide), u2_ne (by decide), u2_eq, mLeave_8]
    funext j
    simp only [va_up]
    split <;> rfl
  · unfold mArr
    rw [u2_ne (kF_ne hf rfl), u2_ne (kF_ne hf rfl), u2_ne hf8, mLeave_at ⟨hf8, kF_ne hf rfl, kF_ne hf rfl, kF_ne hf rfl, kF_ne hf rfl⟩]
  · unfold mArr
    rw [u2_ne (by decide), u2_ne (by decide), u2_ne (by decide), mLeave_at (by decide)]
  · obtain ⟨l9, l10, l11, l16⟩ := mLeave_f (M := M) (g := g)
    obtain ⟨h1, h2⟩ := h.g k hk
    have e8 : mArr M g 8 k = if k = g then 2 else M 8 k := by
      unfold mArr
      rw [u2_ne (by decide), u2_ne (by decide), u2_at, mLeave_8]
      simp only [va_up]
      split <;> rfl
    have e15 : mArr M g 15 = M 15 := by unfold mArr; rw [u2_ne (by decide), u2_ne (by decide), u2_ne (by decide), mLeave_at (by decide)]
    have e14 : mArr M g 14 = M 14 := by unfold mArr; rw [u2_ne (by decide), u2_ne (by decide), u2_ne (by decide), mLeave_at (by decide)]
    rw [e15, e14, e8]
    refine ⟨?_, h2⟩
    by_cases hkg : k = g
    · rw [if_pos hkg]; exact Or.inl rfl
    · rw [if_neg hkg]
      have e9 : mArr M g 9 k = M 9 k := by unfold mArr; rw [u2_ne (by decide), u2_oth hkg, u2_ne (by decide), l9]; simp only [va_up, if_neg hkg]
      have e10 : mArr M g 10 k = M 10 k := by unfold mArr; rw [u2_ne (by decide), u2_ne (by decide), u2_ne (by decide), l10]; simp only [va_up, if_neg hkg]
      have e11 : mArr M g 11 k = M 11 k := by unfold mArr; rw [u2_ne (by decide), u2_ne (by decide), u2_ne (by decide), l11]; simp only [va_up, if_neg hkg]
      have e16 : mArr M g 16 k = M 16 k := by unfold mArr; rw [u2_ne (by decide), u2_ne (by decide), u2_ne (by decide), l16]; simp only [va_up, if_neg hkg]
      rw [e9, e10, e11, e16]
      exact h1
theorem J.brk {M : Nat → Nat → Int32} {R W O Q g : Nat} {x : Int32} (h : J M R W (R + 31) O Q (-2 - nI g) x) (hg : g < 32) (h8 : M 8 g = 1) : J (u2 (mWorked M) 8 g 0) R W (R + 32) O Q (-1) x := by
  have e : ∀ f, f ≠ 42 → f ≠ 8 → u2 (mWorked M) 8 g 0 f = M f := fun f a b => by rw [u2_ne b, mWorked_at a]
  refine h.arrive (v := 0) hg h8 (by decide) (by rw [u2_eq, mWorked_at (by decide)]) (fun f hf hf8 => e f (kF_ne hf rfl) hf8) (e 22 (by decide) (by decide)) (fun k hk => ?_)
  rw [e 9 (by decide) (by decide), e 10 (by decide) (by decide), e 11 (by decide) (by decide), e 15 (by decide) (by decide), e 14 (by decide) (by decide), e 16 (by decide) (by decide), u2_at, mWorked_at (by decide)]
  obtain ⟨h1, h2⟩ := h.g k hk
  refine ⟨?_, h2⟩
  by_cases hkg : k = g
  · rw [if_pos hkg]
    rcases h1 with z | z
    · rw [hkg, h8] at z; exact absurd z (by decide)
    · exact Or.inr ⟨Or.inl rfl, z.2⟩
  · rw [if_neg hkg]; exact h1
theorem t84 {X : Nat × (Nat → Int32)} {d : Nat} {I : Nat → Nat → Int32} {P : Nat → Nat → Option Nat} {M : Nat → Nat → Int32} {R W O Q g : Nat} (h : J M R W (R + 31) O Q (-2 - nI g) (-1)) (hg : g < 32) (h8 : M 8 g = 1) (hd : 4 ≤ d) : jv_F gw X d 84 [.ref 157, .int (nI g)] (he I P M) = some (none, he I P (mCome M g R)) ∧ ∃ R' W', J (mCome M g R) R' W' (R' + 32) O Q (-1) (-1) := by
  obtain ⟨d, rfl⟩ : ∃ q, d = q + 1 := ⟨d - 1, by omega⟩
  unfold mCome
  by_cases hz : M 1 (g / 8) = 0 ∨ M 42 0 = 0
  · have hJ := h.arr hg h8
    obtain ⟨W', hJ'⟩ := hJ.looked hg
    rw [if_pos hz]
    refine ⟨?_, R, W', hJ'⟩
    have hlk := u87 (X := X) (d := d) (I := I) (P := P) hg hJ.ok (by omega)
    have e1 : mLeave M g 1 = M 1 := mLeave_at (by decide)
    have e12 : mLeave M g 12 = M 12 := mLeave_at (by decide)
    have e41 : mLeave M g 41 = M 41 := mLeave_at (by decide)
    rw [e84]
    unfold mArr at hlk ⊢
    by_cases h1 : M 1 (g / 8) = 0
    · rw [if_pos h1] at hlk ⊢
      simp (disch := first | decide | omega | assumption | (simp (disch := decide) only [u2_ne, u2_same, mQueue]; assumption)) only [kV_some, kI_some, kR_some, kR_any, kH_some, kC_none, kC_some, jv_rsv_ref, jv_rsv_rf, jv_nz_ref, jv_nz_null, jv_nz_rf0, jv_nz_rf1, jv_rq_r1, jv_rq_r0, n10, n11, n00, Nat.reduceEqDiff, Option.bind_some, Option.bind_none, jv_isr_ref, jv_isr_rf, jv_isr_null, va_rf_some, va_rf_none, jv_cat1_int, jv_cat1_ref, jv_cat1_rf, if_true, if_false, eq_self, Option.toList_some, Option.toList_none, List.cons_append, List.nil_append, Bool.and_self, Bool.and_true, i32_10, i32_01, i32_80, nI_div8, nI_mul4, nI_mul8, nI_mul32, nI_add, ↓reduceIte, u2_ne, u2_same, r84_0, r84_1, r84_4, r84_5, r84_7, r84_8, r84_9, r84_12, r84_13, r84_16, r84_19, r84_20, r84_23, r84_24, r84_25, r84_26, r84_29, r84_30, r84_31, r84_34, r84_35, r84_38, r84_39, r84_40, r84_41, r84_42, r84_45, r84_46, r84_47, r84_50, r84_51, r84_53, r84_54, r84_55, r84_58, r84_59, r84_62, r84_63, r84_64, r84_67, r84_68, r84_69, r84_70, r84_71, r84_74, r84_75, r84_76, r84_79, r84_80, r84_81, r84_84, r84_85, r84_86, r84_89, r84_90, r84_91, r84_92, r84_93, r84_94, r84_97, r84_99, r84_102, r84_103, r84_104, r84_105, r84_107, r84_110, r84_111, r84_112, r84_115, r84_116, r84_119, ic_157, gt_157_1, rd_159, h1, t86 hg, gt_157_8, wr_166, gt_157_9, e1, wr_167, gt_157_41, e41, pt_157_41, hlk]
    · have h2 := hz.resolve_left h1
      have hw : mWorked M = M := by unfold mWorked; rw [if_pos h2]
      have hw1 : mWorks M = 1 := by unfold mWorks; rw [if_pos h2]
      rw [if_neg h1] at hlk ⊢
      simp (disch := first | decide | omega | assumption | (simp (disch := decide) only [u2_ne, u2_same, mQueue]; assumption)) only [kV_some, kI_some, kR_some, kR_any, kH_some, kC_none, kC_some, jv_rsv_ref, jv_rsv_rf, jv_nz_ref, jv_nz_null, jv_nz_rf0, jv_nz_rf1, jv_rq_r1, jv_rq_r0, n10, n11, n00, Nat.reduceEqDiff, Option.bind_some, Option.bind_none, jv_isr_ref, jv_isr_rf, jv_isr_null, va_rf_some, va_rf_none, jv_cat1_int, jv_cat1_ref, jv_cat1_rf, if_true, if_false, eq_self, Option.toList_some, Option.toList_none, List.cons_append, List.nil_append, Bool.and_self, Bool.and_true, i32_10, i32_01, i32_80, nI_div8, nI_mul4, nI_mul8, nI_mul32, nI_add, ↓reduceIte, u2_ne, u2_same, r84_0, r84_1, r84_4, r84_5, r84_7, r84_8, r84_9, r84_12, r84_13, r84_16, r84_19, r84_20, r84_23, r84_24, r84_25, r84_26, r84_29, r84_30, r84_31, r84_34, r84_35, r84_38, r84_39, r84_40, r84_41, r84_42, r84_45, r84_46, r84_47, r84_50, r84_51, r84_53, r84_54, r84_55, r84_58, r84_59, r84_62, r84_63, r84_64, r84_67, r84_68, r84_69, r84_70, r84_71, r84_74, r84_75, r84_76, r84_79, r84_80, r84_81, r84_84, r84_85, r84_86, r84_89, r84_90, r84_91, r84_92, r84_93, r84_94, r84_97, r84_99, r84_102, r84_103, r84_104, r84_105, r84_107, r84_110, r84_111, r84_112, r84_115, r84_116, r84_119, ic_157, gt_157_1, rd_159, h1, t85, hw, hw1, t86 hg, gt_157_8, wr_166, gt_157_9, e1, wr_167, gt_157_12, rd_170, e12, gt_157_41, e41, pt_157_41, hlk]
  · have h1 : ¬ M 1 (g / 8) = 0 := fun z => hz (Or.inl z)
    have h2 : ¬ M 42 0 = 0 := fun z => hz (Or.inr z)
    have hJ := h.brk hg h8
    have hs : ¬ u2 (mWorked M) 8 g 0 8 g = 2 := by rw [u2_same]; decide
    have e17 : u2 (mWorked M) 8 g 0 17 = M 17 := by rw [u2_ne (by decide), mWorked_at (by decide)]
    rw [if_neg hz]
    refine ⟨?_, J.failL hg (nus M R) _ R W hJ hs⟩
    have hw1 : mWorks M = 0 := by unfold mWorks; rw [if_neg h2]
    have hf := t91 (X := X) (d := d) (I := I) (P := P) (g := nI g) hJ.hR hJ.h30 (by omega)
    rw [e84]
    simp (disch := first | decide | omega | assumption | (simp (disch := decide) only [u2_ne, u2_same, mQueue]; assumption)) only [kV_some, kI_some, kR_some, kR_any, kH_some, kC_none, kC_some, jv_rsv_ref, jv_rsv_rf, jv_nz_ref, jv_nz_null, jv_nz_rf0, jv_nz_rf1, jv_rq_r1, jv_rq_r0, n10, n11, n00, Nat.reduceEqDiff, Option.bind_some, Option.bind_none, jv_isr_ref, jv_isr_rf, jv_isr_null, va_rf_some, va_rf_none, jv_cat1_int, jv_cat1_ref, jv_cat1_rf, if_true, if_false, eq_self, Option.toList_some, Option.toList_none, List.cons_append, List.nil_append, Bool.and_self, Bool.and_true, i32_10, i32_01, i32_80, nI_div8, nI_mul4, nI_mul8, nI_mul32, nI_add, ↓reduceIte, u2_ne, u2_same, r84_0, r84_1, r84_4, r84_5, r84_7, r84_8, r84_9, r84_12, r84_13, r84_16, r84_19, r84_20, r84_23, r84_24, r84_25, r84_26, r84_29, r84_30, r84_31, r84_34, r84_35, r84_38, r84_39, r84_40, r84_41, r84_42, r84_45, r84_46, r84_47, r84_50, r84_51, r84_53, r84_54, r84_55, r84_58, r84_59, r84_62, r84_63, r84_64, r84_67, r84_68, r84_69, r84_70, r84_71, r84_74, r84_75, r84_76, r84_79, r84_80, r84_81, r84_84, r84_85, r84_86, r84_89, r84_90, r84_91, r84_92, r84_93, r84_94, r84_97, r84_99, r84_102, r84_103, r84_104, r84_105, r84_107, r84_110, r84_111, r84_112, r84_115, r84_116, r84_119, ic_157, gt_157_1, rd_159, h1, t85, hw1, gt_157_8, wr_166, hf]
    exact s84l hg (by omega) (nus M R) _ R W _ hJ hs (fun k hk _ => by rw [e17]; exact mem_nus hk) (nus_lt h.n)
