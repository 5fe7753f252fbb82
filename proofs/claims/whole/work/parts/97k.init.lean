/-! ===== the constructors ===== -/
def cutH (g : Nat → jv_C) (n : Nat) : Nat → jv_C := fun a => if a ≤ n then g a else jv_no
/-- the heap with n places made; what g says of places behind n is not there yet -/
def HH (n s : Nat) (g : Nat → jv_C) : jv_H := (n, s, cutH g n)
section HL
variable {n s a c k j u m t : Nat} {g : Nat → jv_C} {fs : List Value} {v : Value}
theorem HH_1 : (HH n s g).1 = n := rfl
theorem HH_at (h : a ≤ n) : (HH n s g).2.2 a = g a := if_pos h
theorem up_at {q : jv_C} : va_up g a q a = q := by simp [va_up]
theorem up_ne {q : jv_C} (h : ¬ k = a) : va_up g a q k = g k := by simp [va_up, h]
theorem up_id {q : jv_C} (h : g a = q) : va_up g a q = g := by
  funext k
  by_cases e : k = a
  · subst e; rw [up_at, h]
  · rw [up_ne e]
theorem up_comm {p q : jv_C} (h : ¬ a = k) : va_up (va_up g a p) k q = va_up (va_up g k q) a p := by
  funext b
  by_cases e1 : b = a
  · subst e1; rw [up_at, up_ne h, up_at]
  · by_cases e2 : b = k
    · subst e2; rw [up_at, up_ne e1, up_at]
    · rw [up_ne e2, up_ne e1, up_ne e1, up_ne e2]
theorem cut_up {q : jv_C} (h : a ≤ n) : va_up (cutH g n) a q = cutH (va_up g a q) n := by
  funext b
  unfold cutH
  by_cases e : b = a
  · subst e; simp [va_up, h]
  · simp [va_up, e]
theorem cut_new {q : jv_C} : va_up (cutH g n) (n + 1) q = cutH (va_up g (n + 1) q) (n + 1) := by
  funext b
  unfold cutH
  by_cases e : b = n + 1
  · subst e; simp [va_up]
  · by_cases h : b ≤ n
    · have : b ≤ n + 1 := by omega
      simp [va_up, e, h, this]
    · have : ¬ b ≤ n + 1 := by omega
      simp [va_up, e, h, this]
theorem H_newo {q : vw_C × (Nat → FieldType)} (hq : (jg_cls gw)[c]? = some q) : jv_newo gw (HH n s g) c = some (HH (n + 1) (s + q.1.2.2) (va_up g (n + 1) (.inr (c, (List.range q.1.2.2).map (fun k => jv_def (q.2 k)))))) := by
  unfold jv_newo
  rw [hq]
  show some ((n + 1, s + q.1.2.2, va_up (cutH g n) (n + 1) _) : jv_H) = _
  rw [cut_new]
  rfl
theorem H_newi {x : Int32} (hx : ¬ (x < 0 ∨ 1000 < x.toNatClampNeg)) (hm : x.toNatClampNeg = m) : jv_newi (HH n s g) t x = some (HH (n + 1) (s + m) (va_up g (n + 1) (.inl (t, m, .inl (fun _ => 0))))) := by
  unfold jv_newi
  rw [if_neg hx, hm]
  show some ((n + 1, s + m, va_up (cutH g n) (n + 1) _) : jv_H) = _
  rw [cut_new]
  rfl
theorem H_newr {x : Int32} (hx : ¬ (x < 0 ∨ 1000 < x.toNatClampNeg)) (hm : x.toNatClampNeg = m) : jv_newr (HH n s g) t x = some (HH (n + 1) (s + m) (va_up g (n + 1) (.inl (t, m, .inr (fun _ => none))))) := by
  unfold jv_newr
  rw [if_neg hx, hm]
  show some ((n + 1, s + m, va_up (cutH g n) (n + 1) _) : jv_H) = _
  rw [cut_new]
  rfl
theorem H_put (h : a ≤ n) (hc : g a = .inr (c, fs)) (hk : k < fs.length) : jv_put (HH n s g) a c k v = some (HH n s (va_up g a (.inr (c, fs.set k v)))) := by
  rw [jv_put_of (h := HH n s g) ((HH_at h).trans hc) hk]
  show some ((n, s, va_up (cutH g n) a _) : jv_H) = _
  rw [cut_up h]
  rfl
theorem H_get (h : a ≤ n) (hc : g a = .inr (c, fs)) (hv : fs[k]? = some v) : jv_get (HH n s g) a c k = some v := jv_get_of (h := HH n s g) ((HH_at h).trans hc) hv
theorem H_rld {f : Nat → Option Nat} (h : a ≤ n) (hc : g a = .inl (u, m, .inr f)) (hj : j < m) (hm : m < 2 ^ 31) (hu : 2 ≤ u ∧ u < 7) : jv_rld gw (HH n s g) a (nI j) = some (f j) := jv_rld_of (h := HH n s g) ((HH_at h).trans hc) hj hm hu
theorem H_rst {f : Nat → Option Nat} {b : Nat} {w : FieldType × Nat} {gs : List Value} (h : a ≤ n) (hb : b ≤ n) (hc : g a = .inl (u, m, .inr f)) (hj : j < m) (hm : m < 2 ^ 31) (hu : 2 ≤ u) (hw : (jg_tys gw)[u]? = some w) (hv : g b = .inr (w.2, gs)) : jv_rst gw (HH n s g) a (nI j) (some b) = some (HH n s (va_up g a (.inl (u, m, .inr (va_up f j (some b)))))) := by
  rw [jv_rst_of (h := HH n s g) ((HH_at h).trans hc) hj hm hu hw (jv_isC_of (h := HH n s g) ((HH_at hb).trans hv))]
  show some ((n, s, va_up (cutH g n) a _) : jv_H) = _
  rw [cut_up h]
  rfl
/-- a row that is filled up to k -/
def rowTo (u m b st k : Nat) : jv_C := .inl (u, m, .inr (fun i => if i < k then some (b + st * i) else none))
theorem rowTo_0 {b st : Nat} : rowTo u m b st 0 = .inl (u, m, .inr (fun _ => none)) := by unfold rowTo; simp
theorem H_row {b st : Nat} {w : FieldType × Nat} {gs : List Value} (h : a ≤ n) (hb : b + st * j ≤ n) (hab : ¬ b + st * j = a) (hj : j < m) (hm : m < 2 ^ 31) (hu : 2 ≤ u) (hw : (jg_tys gw)[u]? = some w) (hv : g (b + st * j) = .inr (w.2, gs)) : jv_rst gw (HH n s (va_up g a (rowTo u m b st j))) a (nI j) (some (b + st * j)) = some (HH n s (va_up g a (rowTo u m b st (j + 1)))) := by
  rw [H_rst (g := va_up g a (rowTo u m b st j)) h hb up_at hj hm hu hw (by rw [up_ne hab]; exact hv), bx_uu]
  congr 2
  congr 1
  unfold rowTo
  congr 4
  funext i
  by_cases e : i = j
  · subst e; simp [va_up]
  · by_cases e2 : i < j
    · have : i < j + 1 := by omega
      simp [va_up, e, e2, this]
    · have : ¬ i < j + 1 := by omega
      simp [va_up, e, e2, this]
end HL
def z8 : jv_C := .inl (0, 8, .inl (fun _ => 0))
def dq : List Value := [.int 0, .null, .int 0, .null, .int 0, .int 0, .int 0, .int 0, .int 0, .int 0, .null, .null, .null, .int 0]
def fq : List Value := [.int 0, .null, .int 0, .null, .int 0, .int 3, .int 0, .int 0, .int 0, .int 0, .null, .null, .null, .int 0]
section CI
variable {X : Nat × (Nat → Int32)} {d n s a : Nat} {g : Nat → jv_C}
theorem nw_4 : jv_newo gw (HH n s g) 4 = some (HH (n + 1) (s + 14) (va_up g (n + 1) (.inr (4, dq)))) := H_newo (c := 4) rfl
theorem nw_2 : jv_newo gw (HH n s g) 2 = some (HH (n + 1) (s + 6) (va_up g (n + 1) (.inr (2, [.null, .null, .null, .int 0, .int 0, .int 0])))) := H_newo (c := 2) rfl
theorem nw_1 : jv_newo gw (HH n s g) 1 = some (HH (n + 1) (s + 3) (va_up g (n + 1) (.inr (1, [.null, .int 0, .int 0])))) := H_newo (c := 1) rfl
theorem nw_3 : jv_newo gw (HH n s g) 3 = some (HH (n + 1) (s + 11) (va_up g (n + 1) (.inr (3, [.int 0, .null, .int 0, .int 0, .int 0, .int 0, .int 0, .int 0, .int 0, .int 0, .int 0])))) := H_newo (c := 3) rfl
theorem nw_5 : jv_newo gw (HH n s g) 5 = some (HH (n + 1) (s + 3) (va_up g (n + 1) (.inr (5, [.null, .int 0, .int 0])))) := H_newo (c := 5) rfl
theorem nw_6 : jv_newo gw (HH n s g) 6 = some (HH (n + 1) (s + 3) (va_up g (n + 1) (.inr (6, [.null, .int 0, .int 0])))) := H_newo (c := 6) rfl
theorem nw_7 : jv_newo gw (HH n s g) 7 = some (HH (n + 1) (s + 4) (va_up g (n + 1) (.inr (7, [.int 0, .int 0, .int 0, .int 0])))) := H_newo (c := 7) rfl
theorem nw_0 : jv_newo gw (HH n s g) 0 = some (HH (n + 1) (s + 14) (va_up g (n + 1) (.inr (0, [.null, .null, .null, .null, .null, .null, .null, .int 0, .int 0, .int 0, .int 0, .int 0, .int 0, .int 0])))) := H_newo (c := 0) rfl
theorem i2 (ha : a ≤ n) (hg : g a = .inr (4, dq)) (hd : 1 ≤ d) : jv_F gw X d 2 [.ref a] (HH n s g) = some (none, HH n s (va_up g a (.inr (4, fq)))) := by
  obtain ⟨d, rfl⟩ : ∃ q, d = q + 1 := ⟨d - 1, by omega⟩
  have hp : jv_put (HH n s g) a 4 5 (.int 3) = some (HH n s (va_up g a (.inr (4, fq)))) := H_put ha hg (by decide)
  rw [e2]
  simp (disch := first | decide | omega | assumption | (simp (disch := decide) only [u2_ne, u2_same, mQueue]; assumption)) only [kV_some, kI_some, kR_some, kR_any, kH_some, kC_none, kC_some, jv_rsv_ref, jv_rsv_rf, jv_nz_ref, jv_nz_null, jv_nz_rf0, jv_nz_rf1, jv_rq_r1, jv_rq_r0, n10, n11, n00, Nat.reduceEqDiff, Option.bind_some, Option.bind_none, jv_isr_ref, jv_isr_rf, jv_isr_null, va_rf_some, va_rf_none, jv_cat1_int, jv_cat1_ref, jv_cat1_rf, if_true, if_false, eq_self, Option.toList_some, Option.toList_none, List.cons_append, List.nil_append, Bool.and_self, Bool.and_true, i32_10, i32_01, i32_80, nI_div8, nI_mul4, nI_mul8, nI_mul32, nI_add, ↓reduceIte, u2_ne, u2_same, r2_0, r2_1, r2_4, r2_5, r2_6, r2_9, hp]
theorem i1l (hd : 1 ≤ d) (hq : ∀ j, j < 30 → g (7 + j) = .inr (4, fq)) (h5 : g 5 = .inr (5, [.ref 6, .int 0, .int 0])) : ∀ (r i : Nat), i + r = 30 → jl gw X d 1 15 [some (.ref 5), some (.int (nI i))] [] (HH (6 + i) (s + 14 * i) (va_up g 6 (rowTo 5 30 7 1 i))) = some (none, HH 36 (s + 420) (va_up g 6 (rowTo 5 30 7 1 30))) := by
  intro r
  induction r with
  | zero =>
    intro i hi
    have hi : i = 30 := by omega
    subst hi
    have h1 : (30 : Int32) ≤ nI 30 := by decide
    rw [r1_15]
    simp (disch := first | decide | omega | assumption | (simp (disch := decide) only [u2_ne, u2_same, mQueue]; assumption)) only [kV_some, kI_some, kR_some, kR_any, kH_some, kC_none, kC_some, jv_rsv_ref, jv_rsv_rf, jv_nz_ref, jv_nz_null, jv_nz_rf0, jv_nz_rf1, jv_rq_r1, jv_rq_r0, n10, n11, n00, Nat.reduceEqDiff, Option.bind_some, Option.bind_none, jv_isr_ref, jv_isr_rf, jv_isr_null, va_rf_some, va_rf_none, jv_cat1_int, jv_cat1_ref, jv_cat1_rf, if_true, if_false, eq_self, Option.toList_some, Option.toList_none, List.cons_append, List.nil_append, Bool.and_self, Bool.and_true, i32_10, i32_01, i32_80, nI_div8, nI_mul4, nI_mul8, nI_mul32, nI_add, ↓reduceIte, u2_ne, u2_same, r1_0, r1_1, r1_4, r1_5, r1_7, r1_10, r1_13, r1_14, r1_16, r1_18, r1_21, r1_22, r1_25, r1_26, r1_29, r1_30, r1_33, r1_34, r1_37, r1_40, h1]
  | succ r ih =>
    intro i hi
    have h1 : ¬ (30 : Int32) ≤ nI i := nI_ge (b := 30) (by omega) (by decide)
    have ihh := ih (i + 1) (by omega)
    have hget : jv_get (HH (6 + i) (s + 14 * i) (va_up g 6 (rowTo 5 30 7 1 i))) 5 5 0 = some (.ref 6) := H_get (by omega) (by rw [up_ne (by decide)]; exact h5) rfl
    have hini := i2 (X := X) (d := d) (n := 6 + i + 1) (s := s + 14 * i + 14) (a := 6 + i + 1) (g := va_up (va_up g 6 (rowTo 5 30 7 1 i)) (6 + i + 1) (.inr (4, dq))) (Nat.le_refl _) up_at hd
    rw [bx_uu, up_id (show va_up g 6 (rowTo 5 30 7 1 i) (6 + i + 1) = .inr (4, fq) by rw [up_ne (by omega), show 6 + i + 1 = 7 + i by omega]; exact hq i (by omega))] at hini
    have hst := H_row (n := 6 + i + 1) (s := s + 14 * i + 14) (g := g) (a := 6) (u := 5) (m := 30) (b := 7) (st := 1) (j := i) (gs := fq) (by omega) (by omega) (by omega) (by omega) (by decide) (by decide) rfl (by rw [Nat.one_mul]; exact hq i (by omega))
    rw [show 7 + 1 * i = 6 + i + 1 by omega] at hst
    rw [show 6 + (i + 1) = 6 + i + 1 by omega, show s + 14 * (i + 1) = s + 14 * i + 14 by omega] at ihh
    rw [r1_15]
    simp (disch := first | decide | omega | assumption | (simp (disch := decide) only [u2_ne, u2_same, mQueue]; assumption)) only [kV_some, kI_some, kR_some, kR_any, kH_some, kC_none, kC_some, jv_rsv_ref, jv_rsv_rf, jv_nz_ref, jv_nz_null, jv_nz_rf0, jv_nz_rf1, jv_rq_r1, jv_rq_r0, n10, n11, n00, Nat.reduceEqDiff, Option.bind_some, Option.bind_none, jv_isr_ref, jv_isr_rf, jv_isr_null, va_rf_some, va_rf_none, jv_cat1_int, jv_cat1_ref, jv_cat1_rf, if_true, if_false, eq_self, Option.toList_some, Option.toList_none, List.cons_append, List.nil_append, Bool.and_self, Bool.and_true, i32_10, i32_01, i32_80, nI_div8, nI_mul4, nI_mul8, nI_mul32, nI_add, ↓reduceIte, u2_ne, u2_same, r1_0, r1_1, r1_4, r1_5, r1_7, r1_10, r1_13, r1_14, r1_16, r1_18, r1_21, r1_22, r1_25, r1_26, r1_29, r1_30, r1_33, r1_34, r1_37, r1_40, h1, hget, nw_4, HH_1, hini, hst, nI_1]
    exact ihh
theorem ni_30 {t : Nat} : jv_newr (HH n s g) t 30 = some (HH (n + 1) (s + 30) (va_up g (n + 1) (.inl (t, 30, .inr (fun _ => none))))) := H_newr (by decide) (by decide)
theorem i1 (hd : 2 ≤ d) (hq : ∀ j, j < 30 → g (7 + j) = .inr (4, fq)) (h5 : g 5 = .inr (5, [.ref 6, .int 0, .int 0])) (h6 : g 6 = rowTo 5 30 7 1 30) : jv_F gw X d 1 [.ref 5] (HH 5 s (va_up g 5 (.inr (5, [.null, .int 0, .int 0])))) = some (none, HH 36 (s + 450) g) := by
  obtain ⟨d, rfl⟩ : ∃ q, d = q + 1 := ⟨d - 1, by omega⟩
  have hnr : jv_newr (HH 5 s (va_up g 5 (.inr (5, [.null, .int 0, .int 0])))) 5 30 = some (HH 6 (s + 30) (va_up (va_up g 5 (.inr (5, [.null, .int 0, .int 0]))) 6 (rowTo 5 30 7 1 0))) := by rw [rowTo_0]; exact ni_30
  have hp : jv_put (HH 6 (s + 30) (va_up (va_up g 5 (.inr (5, [.null, .int 0, .int 0]))) 6 (rowTo 5 30 7 1 0))) 5 5 0 (.ref 6) = some (HH 6 (s + 30) (va_up g 6 (rowTo 5 30 7 1 0))) := by
    rw [H_put (fs := [.null, .int 0, .int 0]) (by decide) (by rw [up_ne (by decide), up_at]) (by decide), up_comm (by decide), bx_uu]
    show some (HH 6 (s + 30) (va_up (va_up g 5 (.inr (5, [.ref 6, .int 0, .int 0]))) 6 _)) = _
    rw [up_id (a := 5) h5]
  have hl := i1l (X := X) (d := d) (s := s + 30) (g := g) (by omega) hq h5 30 0 (by omega)
  rw [up_id (a := 6) h6] at hl
  rw [e1]
  simp (disch := first | decide | omega | assumption | (simp (disch := decide) only [u2_ne, u2_same, mQueue]; assumption)) only [kV_some, kI_some, kR_some, kR_any, kH_some, kC_none, kC_some, jv_rsv_ref, jv_rsv_rf, jv_nz_ref, jv_nz_null, jv_nz_rf0, jv_nz_rf1, jv_rq_r1, jv_rq_r0, n10, n11, n00, Nat.reduceEqDiff, Option.bind_some, Option.bind_none, jv_isr_ref, jv_isr_rf, jv_isr_null, va_rf_some, va_rf_none, jv_cat1_int, jv_cat1_ref, jv_cat1_rf, if_true, if_false, eq_self, Option.toList_some, Option.toList_none, List.cons_append, List.nil_append, Bool.and_self, Bool.and_true, i32_10, i32_01, i32_80, nI_div8, nI_mul4, nI_mul8, nI_mul32, nI_add, ↓reduceIte, u2_ne, u2_same, r1_0, r1_1, r1_4, r1_5, r1_7, r1_10, r1_13, r1_14, r1_16, r1_18, r1_21, r1_22, r1_25, r1_26, r1_29, r1_30, r1_33, r1_34, r1_37, r1_40, hnr, HH_1, hp]
  exact hl
theorem nI_62 {t : Nat} : jv_newi (HH n s g) t 62 = some (HH (n + 1) (s + 62) (va_up g (n + 1) (.inl (t, 62, .inl (fun _ => 0))))) := H_newi (by decide) (by decide)
theorem i3 (hd : 1 ≤ d) (h1 : g n = .inr (6, [.ref (n + 1), .int 0, .int 0])) (h2 : g (n + 1) = .inl (0, 62, .inl (fun _ => 0))) : jv_F gw X d 3 [.ref n] (HH n s (va_up g n (.inr (6, [.null, .int 0, .int 0])))) = some (none, HH (n + 1) (s + 62) g) := by
  obtain ⟨d, rfl⟩ : ∃ q, d = q + 1 := ⟨d - 1, by omega⟩
  have hn : jv_newi (HH n s (va_up g n (.inr (6, [.null, .int 0, .int 0])))) 0 62 = some (HH (n + 1) (s + 62) (va_up g n (.inr (6, [.null, .int 0, .int 0])))) := by
    rw [nI_62, up_id (a := n + 1) (by rw [up_ne (by omega)]; exact h2)]
  have hp : jv_put (HH (n + 1) (s + 62) (va_up g n (.inr (6, [.null, .int 0, .int 0])))) n 6 0 (.ref (n + 1)) = some (HH (n + 1) (s + 62) g) := by
    rw [H_put (fs := [.null, .int 0, .int 0]) (by omega) up_at (by decide), bx_uu]
    show some (HH (n + 1) (s + 62) (va_up g n (.inr (6, [.ref (n + 1), .int 0, .int 0])))) = _
    rw [up_id h1]
  rw [e3]
  simp (disch := first | decide | omega | assumption | (simp (disch := decide) only [u2_ne, u2_same, mQueue]; assumption)) only [kV_some, kI_some, kR_some, kR_any, kH_some, kC_none, kC_some, jv_rsv_ref, jv_rsv_rf, jv_nz_ref, jv_nz_null, jv_nz_rf0, jv_nz_rf1, jv_rq_r1, jv_rq_r0, n10, n11, n00, Nat.reduceEqDiff, Option.bind_some, Option.bind_none, jv_isr_ref, jv_isr_rf, jv_isr_null, va_rf_some, va_rf_none, jv_cat1_int, jv_cat1_ref, jv_cat1_rf, if_true, if_false, eq_self, Option.toList_some, Option.toList_none, List.cons_append, List.nil_append, Bool.and_self, Bool.and_true, i32_10, i32_01, i32_80, nI_div8, nI_mul4, nI_mul8, nI_mul32, nI_add, ↓reduceIte, u2_ne, u2_same, r3_0, r3_1, r3_4, r3_5, r3_7, r3_9, r3_12, hn, HH_1, hp]
theorem nI_8 {t : Nat} : jv_newi (HH n s g) t 8 = some (HH (n + 1) (s + 8) (va_up g (n + 1) (.inl (t, 8, .inl (fun _ => 0))))) := H_newi (by decide) (by decide)
theorem nI_8z (h : g (n + 1) = z8) : jv_newi (HH n s g) 0 8 = some (HH (n + 1) (s + 8) g) := by rw [nI_8]; exact congrArg (fun q => some (HH (n + 1) (s + 8) q)) (up_id (a := n + 1) h)
theorem i5 (hd : 1 ≤ d) (h0 : g n = .inr (2, [.ref (n + 1), .ref (n + 2), .ref (n + 3), .int 0, .int 0, .int 0])) (h1 : g (n + 1) = z8) (h2 : g (n + 2) = z8) (h3 : g (n + 3) = z8) : jv_F gw X d 5 [.ref n] (HH n s (va_up g n (.inr (2, [.null, .null, .null, .int 0, .int 0, .int 0])))) = some (none, HH (n + 3) (s + 24) g) := by
  obtain ⟨d, rfl⟩ : ∃ q, d = q + 1 := ⟨d - 1, by omega⟩
  have hn : ∀ {c s k : Nat} {q : jv_C}, ¬ k = n → ¬ (n : Nat) = k → g k = z8 → (va_up g n q) k = z8 := fun hk _ h => by rw [up_ne hk]; exact h
  have a1 : jv_newi (HH n s (va_up g n (.inr (2, [.null, .null, .null, .int 0, .int 0, .int 0])))) 0 8 = some (HH (n + 1) (s + 8) (va_up g n (.inr (2, [.null, .null, .null, .int 0, .int 0, .int 0])))) := nI_8z (by rw [up_ne (by omega)]; exact h1)
  have p1 : jv_put (HH (n + 1) (s + 8) (va_up g n (.inr (2, [.null, .null, .null, .int 0, .int 0, .int 0])))) n 2 0 (.ref (n + 1)) = some (HH (n + 1) (s + 8) (va_up g n (.inr (2, [.ref (n + 1), .null, .null, .int 0, .int 0, .int 0])))) := by
    rw [H_put (fs := [.null, .null, .null, .int 0, .int 0, .int 0]) (by omega) up_at (by decide), bx_uu]; rfl
  have a2 : jv_newi (HH (n + 1) (s + 8) (va_up g n (.inr (2, [.ref (n + 1), .null, .null, .int 0, .int 0, .int 0])))) 0 8 = some (HH (n + 2) (s + 16) (va_up g n (.inr (2, [.ref (n + 1), .null, .null, .int 0, .int 0, .int 0])))) := nI_8z (n := n + 1) (s := s + 8) (by rw [up_ne (by omega)]; exact h2)
  have p2 : jv_put (HH (n + 2) (s + 16) (va_up g n (.inr (2, [.ref (n + 1), .null, .null, .int 0, .int 0, .int 0])))) n 2 1 (.ref (n + 2)) = some (HH (n + 2) (s + 16) (va_up g n (.inr (2, [.ref (n + 1), .ref (n + 2), .null, .int 0, .int 0, .int 0])))) := by
    rw [H_put (fs := [.ref (n + 1), .null, .null, .int 0, .int 0, .int 0]) (by omega) up_at (by show 1 < 6; decide), bx_uu]; rfl
  have a3 : jv_newi (HH (n + 2) (s + 16) (va_up g n (.inr (2, [.ref (n + 1), .ref (n + 2), .null, .int 0, .int 0, .int 0])))) 0 8 = some (HH (n + 3) (s + 24) (va_up g n (.inr (2, [.ref (n + 1), .ref (n + 2), .null, .int 0, .int 0, .int 0])))) := nI_8z (n := n + 2) (s := s + 16) (by rw [up_ne (by omega)]; exact h3)
  have p3 : jv_put (HH (n + 3) (s + 24) (va_up g n (.inr (2, [.ref (n + 1), .ref (n + 2), .null, .int 0, .int 0, .int 0])))) n 2 2 (.ref (n + 3)) = some (HH (n + 3) (s + 24) g) := by
    rw [H_put (fs := [.ref (n + 1), .ref (n + 2), .null, .int 0, .int 0, .int 0]) (by omega) up_at (by show 2 < 6; decide), bx_uu]
    show some (HH (n + 3) (s + 24) (va_up g n (.inr (2, [.ref (n + 1), .ref (n + 2), .ref (n + 3), .int 0, .int 0, .int 0])))) = _
    rw [up_id h0]
  rw [e5]
  simp (disch := first | decide | omega | assumption | (simp (disch := decide) only [u2_ne, u2_same, mQueue]; assumption)) only [kV_some, kI_some, kR_some, kR_any, kH_some, kC_none, kC_some, jv_rsv_ref, jv_rsv_rf, jv_nz_ref, jv_nz_null, jv_nz_rf0, jv_nz_rf1, jv_rq_r1, jv_rq_r0, n10, n11, n00, Nat.reduceEqDiff, Option.bind_some, Option.bind_none, jv_isr_ref, jv_isr_rf, jv_isr_null, va_rf_some, va_rf_none, jv_cat1_int, jv_cat1_ref, jv_cat1_rf, if_true, if_false, eq_self, Option.toList_some, Option.toList_none, List.cons_append, List.nil_append, Bool.and_self, Bool.and_true, i32_10, i32_01, i32_80, nI_div8, nI_mul4, nI_mul8, nI_mul32, nI_add, ↓reduceIte, u2_ne, u2_same, r5_0, r5_1, r5_4, r5_5, r5_7, r5_9, r5_12, r5_13, r5_15, r5_17, r5_20, r5_21, r5_23, r5_25, r5_28, a1, HH_1, p1, a2, p2, a3, p3, Nat.add_assoc, Nat.reduceAdd]
theorem i4l (hd : 2 ≤ d) (h0 : g n = .inr (1, [.ref (n + 1), .int 0, .int 0])) (hm : ∀ j, j < 4 → g (n + 2 + 4 * j) = .inr (2, [.ref (n + 2 + 4 * j + 1), .ref (n + 2 + 4 * j + 2), .ref (n + 2 + 4 * j + 3), .int 0, .int 0, .int 0]) ∧ g (n + 2 + 4 * j + 1) = z8 ∧ g (n + 2 + 4 * j + 2) = z8 ∧ g (n + 2 + 4 * j + 3) = z8) : ∀ (r i : Nat), i + r = 4 → jl gw X d 4 14 [some (.ref n), some (.int (nI i))] [] (HH (n + 1 + 4 * i) (s + 30 * i) (va_up g (n + 1) (rowTo 6 4 (n + 2) 4 i))) = some (none, HH (n + 17) (s + 120) (va_up g (n + 1) (rowTo 6 4 (n + 2) 4 4))) := by
  intro r
  induction r with
  | zero =>
    intro i hi
    have hi : i = 4 := by omega
    subst hi
    have h1 : (4 : Int32) ≤ nI 4 := by decide
    rw [r4_14]
    simp (disch := first | decide | omega | assumption | (simp (disch := decide) only [u2_ne, u2_same, mQueue]; assumption)) only [kV_some, kI_some, kR_some, kR_any, kH_some, kC_none, kC_some, jv_rsv_ref, jv_rsv_rf, jv_nz_ref, jv_nz_null, jv_nz_rf0, jv_nz_rf1, jv_rq_r1, jv_rq_r0, n10, n11, n00, Nat.reduceEqDiff, Option.bind_some, Option.bind_none, jv_isr_ref, jv_isr_rf, jv_isr_null, va_rf_some, va_rf_none, jv_cat1_int, jv_cat1_ref, jv_cat1_rf, if_true, if_false, eq_self, Option.toList_some, Option.toList_none, List.cons_append, List.nil_append, Bool.and_self, Bool.and_true, i32_10, i32_01, i32_80, nI_div8, nI_mul4, nI_mul8, nI_mul32, nI_add, ↓reduceIte, u2_ne, u2_same, r4_0, r4_1, r4_4, r4_5, r4_6, r4_9, r4_12, r4_13, r4_15, r4_16, r4_19, r4_20, r4_23, r4_24, r4_27, r4_28, r4_31, r4_32, r4_35, r4_38, h1]
  | succ r ih =>
    intro i hi
    have h1 : ¬ (4 : Int32) ≤ nI i := nI_ge (b := 4) (by omega) (by decide)
    have ihh := ih (i + 1) (by omega)
    obtain ⟨m0, m1, m2, m3⟩ := hm i (by omega)
    have ep : n + 1 + 4 * i + 1 = n + 2 + 4 * i := by omega
    have hget : jv_get (HH (n + 1 + 4 * i) (s + 30 * i) (va_up g (n + 1) (rowTo 6 4 (n + 2) 4 i))) n 1 0 = some (.ref (n + 1)) := H_get (by omega) (by rw [up_ne (by omega)]; exact h0) rfl
    have hnew : jv_newo gw (HH (n + 1 + 4 * i) (s + 30 * i) (va_up g (n + 1) (rowTo 6 4 (n + 2) 4 i))) 2 = some (HH (n + 2 + 4 * i) (s + 30 * i + 6) (va_up (va_up g (n + 1) (rowTo 6 4 (n + 2) 4 i)) (n + 2 + 4 * i) (.inr (2, [.null, .null, .null, .int 0, .int 0, .int 0])))) := by rw [nw_2, ep]
    have hini := i5 (X := X) (d := d) (n := n + 2 + 4 * i) (s := s + 30 * i + 6) (g := va_up g (n + 1) (rowTo 6 4 (n + 2) 4 i)) (by omega) (by rw [up_ne (by omega)]; exact m0) (by rw [up_ne (by omega)]; exact m1) (by rw [up_ne (by omega)]; exact m2) (by rw [up_ne (by omega)]; exact m3)
    have hst := H_row (n := n + 2 + 4 * i + 3) (s := s + 30 * i + 6 + 24) (g := g) (a := n + 1) (u := 6) (m := 4) (b := n + 2) (st := 4) (j := i) (by omega) (by omega) (by omega) (by omega) (by decide) (by decide) rfl m0
    rw [show n + 1 + 4 * (i + 1) = n + 2 + 4 * i + 3 by omega, show s + 30 * (i + 1) = s + 30 * i + 6 + 24 by omega] at ihh
    rw [r4_14]
    simp (disch := first | decide | omega | assumption | (simp (disch := decide) only [u2_ne, u2_same, mQueue]; assumption)) only [kV_some, kI_some, kR_some, kR_any, kH_some, kC_none, kC_some, jv_rsv_ref, jv_rsv_rf, jv_nz_ref, jv_nz_null, jv_nz_rf0, jv_nz_rf1, jv_rq_r1, jv_rq_r0, n10, n11, n00, Nat.reduceEqDiff, Option.bind_some, Option.bind_none, jv_isr_ref, jv_isr_rf, jv_isr_null, va_rf_some, va_rf_none, jv_cat1_int, jv_cat1_ref, jv_cat1_rf, if_true, if_false, eq_self, Option.toList_some, Option.toList_none, List.cons_append, List.nil_append, Bool.and_self, Bool.and_true, i32_10, i32_01, i32_80, nI_div8, nI_mul4, nI_mul8, nI_mul32, nI_add, ↓reduceIte, u2_ne, u2_same, r4_0, r4_1, r4_4, r4_5, r4_6, r4_9, r4_12, r4_13, r4_15, r4_16, r4_19, r4_20, r4_23, r4_24, r4_27, r4_28, r4_31, r4_32, r4_35, r4_38, h1, hget, hnew, HH_1, ep, hini, hst, nI_1]
    exact ihh
theorem nr_4 {t : Nat} : jv_newr (HH n s g) t 4 = some (HH (n + 1) (s + 4) (va_up g (n + 1) (.inl (t, 4, .inr (fun _ => none))))) := H_newr (by decide) (by decide)
theorem i4 (hd : 3 ≤ d) (h0 : g n = .inr (1, [.ref (n + 1), .int 0, .int 0])) (h1 : g (n + 1) = rowTo 6 4 (n + 2) 4 4) (hm : ∀ j, j < 4 → g (n + 2 + 4 * j) = .inr (2, [.ref (n + 2 + 4 * j + 1), .ref (n + 2 + 4 * j + 2), .ref (n + 2 + 4 * j + 3), .int 0, .int 0, .int 0]) ∧ g (n + 2 + 4 * j + 1) = z8 ∧ g (n + 2 + 4 * j + 2) = z8 ∧ g (n + 2 + 4 * j + 3) = z8) : jv_F gw X d 4 [.ref n] (HH n s (va_up g n (.inr (1, [.null, .int 0, .int 0])))) = some (none, HH (n + 17) (s + 124) g) := by
  obtain ⟨d, rfl⟩ : ∃ q, d = q + 1 := ⟨d - 1, by omega⟩
  have hnr : jv_newr (HH n s (va_up g n (.inr (1, [.null, .int 0, .int 0])))) 6 4 = some (HH (n + 1) (s + 4) (va_up (va_up g n (.inr (1, [.null, .int 0, .int 0]))) (n + 1) (rowTo 6 4 (n + 2) 4 0))) := by rw [rowTo_0]; exact nr_4
  have hp : jv_put (HH (n + 1) (s + 4) (va_up (va_up g n (.inr (1, [.null, .int 0, .int 0]))) (n + 1) (rowTo 6 4 (n + 2) 4 0))) n 1 0 (.ref (n + 1)) = some (HH (n + 1) (s + 4) (va_up g (n + 1) (rowTo 6 4 (n + 2) 4 0))) := by
    rw [H_put (fs := [.null, .int 0, .int 0]) (by omega) (by rw [up_ne (by omega), up_at]) (by decide), up_comm (by omega), bx_uu]
    show some (HH (n + 1) (s + 4) (va_up (va_up g n (.inr (1, [.ref (n + 1), .int 0, .int 0]))) (n + 1) _)) = _
    rw [up_id (a := n) h0]
  have hl := i4l (X := X) (d := d) (n := n) (s := s + 4) (g := g) (by omega) h0 hm 4 0 (by omega)
  rw [up_id (a := n + 1) h1] at hl
  rw [e4]
  simp (disch := first | decide | omega | assumption | (simp (disch := decide) only [u2_ne, u2_same, mQueue]; assumption)) only [kV_some, kI_some, kR_some, kR_any, kH_some, kC_none, kC_some, jv_rsv_ref, jv_rsv_rf, jv_nz_ref, jv_nz_null, jv_nz_rf0, jv_nz_rf1, jv_rq_r1, jv_rq_r0, n10, n11, n00, Nat.reduceEqDiff, Option.bind_some, Option.bind_none, jv_isr_ref, jv_isr_rf, jv_isr_null, va_rf_some, va_rf_none, jv_cat1_int, jv_cat1_ref, jv_cat1_rf, if_true, if_false, eq_self, Option.toList_some, Option.toList_none, List.cons_append, List.nil_append, Bool.and_self, Bool.and_true, i32_10, i32_01, i32_80, nI_div8, nI_mul4, nI_mul8, nI_mul32, nI_add, ↓reduceIte, u2_ne, u2_same, r4_0, r4_1, r4_4, r4_5, r4_6, r4_9, r4_12, r4_13, r4_15, r4_16, r4_19, r4_20, r4_23, r4_24, r4_27, r4_28, r4_31, r4_32, r4_35, r4_38, hnr, HH_1, hp]
  exact hl
theorem i6 {x : Int32} {b : Nat} (hd : 1 ≤ d) (ha : a ≤ n) (h0 : g a = .inr (3, [.int x, .ref b, .int 0, .int 0, .int 0, .int 0, .int 0, .int 0, .int 0, .int 0, .int 0])) : jv_F gw X d 6 [.ref a, .int x, .ref b] (HH n s (va_up g a (.inr (3, [.int 0, .null, .int 0, .int 0, .int 0, .int 0, .int 0, .int 0, .int 0, .int 0, .int 0])))) = some (none, HH n s g) := by
  obtain ⟨d, rfl⟩ : ∃ q, d = q + 1 := ⟨d - 1, by omega⟩
  have p1 : jv_put (HH n s (va_up g a (.inr (3, [.int 0, .null, .int 0, .int 0, .int 0, .int 0, .int 0, .int 0, .int 0, .int 0, .int 0])))) a 3 0 (.int x) = some (HH n s (va_up g a (.inr (3, [.int x, .null, .int 0, .int 0, .int 0, .int 0, .int 0, .int 0, .int 0, .int 0, .int 0])))) := by
    rw [H_put (fs := [.int 0, .null, .int 0, .int 0, .int 0, .int 0, .int 0, .int 0, .int 0, .int 0, .int 0]) ha up_at (by decide), bx_uu]; rfl
  have p2 : jv_put (HH n s (va_up g a (.inr (3, [.int x, .null, .int 0, .int 0, .int 0, .int 0, .int 0, .int 0, .int 0, .int 0, .int 0])))) a 3 1 (.ref b) = some (HH n s g) := by
    rw [H_put (fs := [.int x, .null, .int 0, .int 0, .int 0, .int 0, .int 0, .int 0, .int 0, .int 0, .int 0]) ha up_at (by show 1 < 11; decide), bx_uu]
    show some (HH n s (va_up g a (.inr (3, [.int x, .ref b, .int 0, .int 0, .int 0, .int 0, .int 0, .int 0, .int 0, .int 0, .int 0])))) = _
    rw [up_id h0]
  rw [e6 rfl]
  simp (disch := first | decide | omega | assumption | (simp (disch := decide) only [u2_ne, u2_same, mQueue]; assumption)) only [kV_some, kI_some, kR_some, kR_any, kH_some, kC_none, kC_some, jv_rsv_ref, jv_rsv_rf, jv_nz_ref, jv_nz_null, jv_nz_rf0, jv_nz_rf1, jv_rq_r1, jv_rq_r0, n10, n11, n00, Nat.reduceEqDiff, Option.bind_some, Option.bind_none, jv_isr_ref, jv_isr_rf, jv_isr_null, va_rf_some, va_rf_none, jv_cat1_int, jv_cat1_ref, jv_cat1_rf, if_true, if_false, eq_self, Option.toList_some, Option.toList_none, List.cons_append, List.nil_append, Bool.and_self, Bool.and_true, i32_10, i32_01, i32_80, nI_div8, nI_mul4, nI_mul8, nI_mul32, nI_add, ↓reduceIte, u2_ne, u2_same, r6_0, r6_1, r6_4, r6_5, r6_6, r6_9, r6_10, r6_11, r6_14, p1, p2]
theorem i7 {h : jv_H} (hd : 1 ≤ d) : jv_F gw X d 7 [.ref a] h = some (none, h) := by
  obtain ⟨d, rfl⟩ : ∃ q, d = q + 1 := ⟨d - 1, by omega⟩
  rw [e7]
  simp (disch := first | decide | omega | assumption | (simp (disch := decide) only [u2_ne, u2_same, mQueue]; assumption)) only [kV_some, kI_some, kR_some, kR_any, kH_some, kC_none, kC_some, jv_rsv_ref, jv_rsv_rf, jv_nz_ref, jv_nz_null, jv_nz_rf0, jv_nz_rf1, jv_rq_r1, jv_rq_r0, n10, n11, n00, Nat.reduceEqDiff, Option.bind_some, Option.bind_none, jv_isr_ref, jv_isr_rf, jv_isr_null, va_rf_some, va_rf_none, jv_cat1_int, jv_cat1_ref, jv_cat1_rf, if_true, if_false, eq_self, Option.toList_some, Option.toList_none, List.cons_append, List.nil_append, Bool.and_self, Bool.and_true, i32_10, i32_01, i32_80, nI_div8, nI_mul4, nI_mul8, nI_mul32, nI_add, ↓reduceIte, u2_ne, u2_same, r7_0, r7_1, r7_4]
end CI
