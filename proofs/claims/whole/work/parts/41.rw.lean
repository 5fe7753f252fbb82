/-! ===== reading and writing the heap he I P M ===== -/
theorem jv_get_of {h : jv_H} {a c k : Nat} {fs : List Value} {v : Value} (hc : h.2.2 a = .inr (c, fs)) (hv : fs[k]? = some v) : jv_get h a c k = some v := by unfold jv_get; rw [hc]; simp [hv]
theorem jv_put_of {h : jv_H} {a c k : Nat} {fs : List Value} {v : Value} (hc : h.2.2 a = .inr (c, fs)) (hk : k < fs.length) : jv_put h a c k v = some (h.1, h.2.1, va_up h.2.2 a (.inr (c, fs.set k v))) := by unfold jv_put; rw [hc]; simp [hk]
theorem jv_out_nI {j n : Nat} (hj : j < n) (hn : n < 2 ^ 31) : jv_out (nI j) n = false := decide_eq_false (nI_in hj hn)
theorem jv_ald_of {h : jv_H} {t a n j : Nat} {f : Nat → Int32} (hc : h.2.2 a = .inl (t, n, .inl f)) (hj : j < n) (hn : n < 2 ^ 31) : jv_ald h t a (nI j) = some (f j) := by
  unfold jv_ald; rw [hc]; simp [jv_out_nI hj hn, nI_clamp (Nat.lt_trans hj hn)]
theorem jv_ast_of {h : jv_H} {t a n j : Nat} {f : Nat → Int32} {x : Int32} (hc : h.2.2 a = .inl (t, n, .inl f)) (hj : j < n) (hn : n < 2 ^ 31) : jv_ast h t a (nI j) x = some (h.1, h.2.1, va_up h.2.2 a (.inl (t, n, .inl (va_up f j x)))) := by
  unfold jv_ast; rw [hc]; simp [jv_out_nI hj hn, nI_clamp (Nat.lt_trans hj hn)]
theorem jv_rld_of {h : jv_H} {u a n j : Nat} {f : Nat → Option Nat} (hc : h.2.2 a = .inl (u, n, .inr f)) (hj : j < n) (hn : n < 2 ^ 31) (hu : 2 ≤ u ∧ u < 7) : jv_rld gw h a (nI j) = some (f j) := by
  have hl : (jg_tys gw).length = 7 := rfl
  unfold jv_rld; rw [hc]; simp [jv_out_nI hj hn, nI_clamp (Nat.lt_trans hj hn), hl, hu.1, hu.2]
theorem jv_rst_of {h : jv_H} {u a n j : Nat} {f : Nat → Option Nat} {v : Option Nat} {w : FieldType × Nat} (hc : h.2.2 a = .inl (u, n, .inr f)) (hj : j < n) (hn : n < 2 ^ 31) (hu : 2 ≤ u) (hw : (jg_tys gw)[u]? = some w) (hv : jv_isC h w.2 v = true) : jv_rst gw h a (nI j) v = some (h.1, h.2.1, va_up h.2.2 a (.inl (u, n, .inr (va_up f j v)))) := by
  unfold jv_rst; rw [hc]; simp [jv_out_nI hj hn, nI_clamp (Nat.lt_trans hj hn), hu, hw, hv]
theorem jv_isC_of {h : jv_H} {a c : Nat} {fs : List Value} (hc : h.2.2 a = .inr (c, fs)) : jv_isC h c (some a) = true := by unfold jv_isC; simp [hc]
theorem jv_rdi_pos {X : Nat × (Nat → Int32)} {h : jv_H} {a : Nat} {i : Int32} (ha : 0 < a) : jv_rdi X h a i = jv_ald h 0 a i := by cases a with
  | zero => omega
  | succ a => rfl
theorem en_up {s s2 : Nat → jv_C} {p : Nat} {c : jv_C} (hc : c = s2 p) (hw : ∀ a, a ≠ p → s2 a = s a) : va_up s p c = s2 := by
  funext a
  by_cases h : a = p
  · subst h; simp only [va_up, if_true]; exact hc
  · simp only [va_up, if_neg h]; exact (hw a h).symm
theorem he_eq {I : Nat → Nat → Int32} {P : Nat → Nat → Option Nat} {M : Nat → Nat → Int32} {s : Nat → jv_C} (h : s = en I P M) : ((191, 2796, s) : jv_H) = he I P M := by rw [h]; rfl
theorem ic_1 {I : Nat → Nat → Int32} {P : Nat → Nat → Option Nat} {M : Nat → Nat → Int32} : jv_isC (he I P M) 0 (some 1) = true := rfl
theorem gt_1_0 {I : Nat → Nat → Int32} {P : Nat → Nat → Option Nat} {M : Nat → Nat → Int32} : jv_get (he I P M) 1 0 0 = some (.ref 2) := rfl
theorem gt_1_1 {I : Nat → Nat → Int32} {P : Nat → Nat → Option Nat} {M : Nat → Nat → Int32} : jv_get (he I P M) 1 0 1 = some (.ref 3) := rfl
theorem gt_1_2 {I : Nat → Nat → Int32} {P : Nat → Nat → Option Nat} {M : Nat → Nat → Int32} : jv_get (he I P M) 1 0 2 = some (.ref 4) := rfl
theorem gt_1_3 {I : Nat → Nat → Int32} {P : Nat → Nat → Option Nat} {M : Nat → Nat → Int32} : jv_get (he I P M) 1 0 3 = some (.ref 5) := rfl
theorem gt_1_4 {I : Nat → Nat → Int32} {P : Nat → Nat → Option Nat} {M : Nat → Nat → Int32} : jv_get (he I P M) 1 0 4 = some (.ref 37) := rfl
theorem gt_1_5 {I : Nat → Nat → Int32} {P : Nat → Nat → Option Nat} {M : Nat → Nat → Int32} : jv_get (he I P M) 1 0 5 = some (.ref 39) := rfl
theorem gt_1_6 {I : Nat → Nat → Int32} {P : Nat → Nat → Option Nat} {M : Nat → Nat → Int32} : jv_get (he I P M) 1 0 6 = some (.ref 40) := rfl
theorem gt_1_7 {I : Nat → Nat → Int32} {P : Nat → Nat → Option Nat} {M : Nat → Nat → Int32} : jv_get (he I P M) 1 0 7 = some (.int (I 1 0)) := rfl
theorem pt_1_7 {I : Nat → Nat → Int32} {P : Nat → Nat → Option Nat} {M : Nat → Nat → Int32} {v : Int32} : jv_put (he I P M) 1 0 7 (.int v) = some (he (u2 I 1 0 v) P M) := by
  rw [jv_put_of (h := he I P M) (a := 1) (c := 0) rfl (Nat.le_of_ble_eq_true rfl)]
  refine congrArg some (he_eq (en_up ?_ (fun a h => en_w1 h)))
  show _ = cHost (u2 I 1 0 v)
  simp [cHost, u2_ne, u2_same]
theorem gt_1_8 {I : Nat → Nat → Int32} {P : Nat → Nat → Option Nat} {M : Nat → Nat → Int32} : jv_get (he I P M) 1 0 8 = some (.int (I 2 0)) := rfl
theorem pt_1_8 {I : Nat → Nat → Int32} {P : Nat → Nat → Option Nat} {M : Nat → Nat → Int32} {v : Int32} : jv_put (he I P M) 1 0 8 (.int v) = some (he (u2 I 2 0 v) P M) := by
  rw [jv_put_of (h := he I P M) (a := 1) (c := 0) rfl (Nat.le_of_ble_eq_true rfl)]
  refine congrArg some (he_eq (en_up ?_ (fun a h => en_w2 h)))
  show _ = cHost (u2 I 2 0 v)
  simp [cHost, u2_ne, u2_same]
theorem gt_1_9 {I : Nat → Nat → Int32} {P : Nat → Nat → Option Nat} {M : Nat → Nat → Int32} : jv_get (he I P M) 1 0 9 = some (.int (I 3 0)) := rfl
theorem pt_1_9 {I : Nat → Nat → Int32} {P : Nat → Nat → Option Nat} {M : Nat → Nat → Int32} {v : Int32} : jv_put (he I P M) 1 0 9 (.int v) = some (he (u2 I 3 0 v) P M) := by
  rw [jv_put_of (h := he I P M) (a := 1) (c := 0) rfl (Nat.le_of_ble_eq_true rfl)]
  refine congrArg some (he_eq (en_up ?_ (fun a h => en_w3 h)))
  show _ = cHost (u2 I 3 0 v)
  simp [cHost, u2_ne, u2_same]
theorem gt_1_10 {I : Nat → Nat → Int32} {P : Nat → Nat → Option Nat} {M : Nat → Nat → Int32} : jv_get (he I P M) 1 0 10 = some (.int (I 4 0)) := rfl
theorem pt_1_10 {I : Nat → Nat → Int32} {P : Nat → Nat → Option Nat} {M : Nat → Nat → Int32} {v : Int32} : jv_put (he I P M) 1 0 10 (.int v) = some (he (u2 I 4 0 v) P M) := by
  rw [jv_put_of (h := he I P M) (a := 1) (c := 0) rfl (Nat.le_of_ble_eq_true rfl)]
  refine congrArg some (he_eq (en_up ?_ (fun a h => en_w4 h)))
  show _ = cHost (u2 I 4 0 v)
  simp [cHost, u2_ne, u2_same]
theorem gt_1_11 {I : Nat → Nat → Int32} {P : Nat → Nat → Option Nat} {M : Nat → Nat → Int32} : jv_get (he I P M) 1 0 11 = some (.int (I 5 0)) := rfl
theorem pt_1_11 {I : Nat → Nat → Int32} {P : Nat → Nat → Option Nat} {M : Nat → Nat → Int32} {v : Int32} : jv_put (he I P M) 1 0 11 (.int v) = some (he (u2 I 5 0 v) P M) := by
  rw [jv_put_of (h := he I P M) (a := 1) (c := 0) rfl (Nat.le_of_ble_eq_true rfl)]
  refine congrArg some (he_eq (en_up ?_ (fun a h => en_w5 h)))
  show _ = cHost (u2 I 5 0 v)
  simp [cHost, u2_ne, u2_same]
theorem gt_1_12 {I : Nat → Nat → Int32} {P : Nat → Nat → Option Nat} {M : Nat → Nat → Int32} : jv_get (he I P M) 1 0 12 = some (.int (I 6 0)) := rfl
theorem pt_1_12 {I : Nat → Nat → Int32} {P : Nat → Nat → Option Nat} {M : Nat → Nat → Int32} {v : Int32} : jv_put (he I P M) 1 0 12 (.int v) = some (he (u2 I 6 0 v) P M) := by
  rw [jv_put_of (h := he I P M) (a := 1) (c := 0) rfl (Nat.le_of_ble_eq_true rfl)]
  refine congrArg some (he_eq (en_up ?_ (fun a h => en_w6 h)))
  show _ = cHost (u2 I 6 0 v)
  simp [cHost, u2_ne, u2_same]
theorem gt_1_13 {I : Nat → Nat → Int32} {P : Nat → Nat → Option Nat} {M : Nat → Nat → Int32} : jv_get (he I P M) 1 0 13 = some (.int (I 7 0)) := rfl
theorem pt_1_13 {I : Nat → Nat → Int32} {P : Nat → Nat → Option Nat} {M : Nat → Nat → Int32} {v : Int32} : jv_put (he I P M) 1 0 13 (.int v) = some (he (u2 I 7 0 v) P M) := by
  rw [jv_put_of (h := he I P M) (a := 1) (c := 0) rfl (Nat.le_of_ble_eq_true rfl)]
  refine congrArg some (he_eq (en_up ?_ (fun a h => en_w7 h)))
  show _ = cHost (u2 I 7 0 v)
  simp [cHost, u2_ne, u2_same]
theorem ic_5 {I : Nat → Nat → Int32} {P : Nat → Nat → Option Nat} {M : Nat → Nat → Int32} : jv_isC (he I P M) 5 (some 5) = true := rfl
theorem gt_5_0 {I : Nat → Nat → Int32} {P : Nat → Nat → Option Nat} {M : Nat → Nat → Int32} : jv_get (he I P M) 5 5 0 = some (.ref 6) := rfl
theorem gt_5_1 {I : Nat → Nat → Int32} {P : Nat → Nat → Option Nat} {M : Nat → Nat → Int32} : jv_get (he I P M) 5 5 1 = some (.int (I 50 0)) := rfl
theorem pt_5_1 {I : Nat → Nat → Int32} {P : Nat → Nat → Option Nat} {M : Nat → Nat → Int32} {v : Int32} : jv_put (he I P M) 5 5 1 (.int v) = some (he (u2 I 50 0 v) P M) := by
  rw [jv_put_of (h := he I P M) (a := 5) (c := 5) rfl (Nat.le_of_ble_eq_true rfl)]
  refine congrArg some (he_eq (en_up ?_ (fun a h => en_w50 h)))
  show _ = cReqs (u2 I 50 0 v)
  simp [cReqs, u2_ne, u2_same]
theorem gt_5_2 {I : Nat → Nat → Int32} {P : Nat → Nat → Option Nat} {M : Nat → Nat → Int32} : jv_get (he I P M) 5 5 2 = some (.int (I 51 0)) := rfl
theorem pt_5_2 {I : Nat → Nat → Int32} {P : Nat → Nat → Option Nat} {M : Nat → Nat → Int32} {v : Int32} : jv_put (he I P M) 5 5 2 (.int v) = some (he (u2 I 51 0 v) P M) := by
  rw [jv_put_of (h := he I P M) (a := 5) (c := 5) rfl (Nat.le_of_ble_eq_true rfl)]
  refine congrArg some (he_eq (en_up ?_ (fun a h => en_w51 h)))
  show _ = cReqs (u2 I 51 0 v)
  simp [cReqs, u2_ne, u2_same]
theorem ic_37 {I : Nat → Nat → Int32} {P : Nat → Nat → Option Nat} {M : Nat → Nat → Int32} : jv_isC (he I P M) 6 (some 37) = true := rfl
theorem gt_37_0 {I : Nat → Nat → Int32} {P : Nat → Nat → Option Nat} {M : Nat → Nat → Int32} : jv_get (he I P M) 37 6 0 = some (.ref 38) := rfl
theorem gt_37_1 {I : Nat → Nat → Int32} {P : Nat → Nat → Option Nat} {M : Nat → Nat → Int32} : jv_get (he I P M) 37 6 1 = some (.int (I 52 0)) := rfl
theorem pt_37_1 {I : Nat → Nat → Int32} {P : Nat → Nat → Option Nat} {M : Nat → Nat → Int32} {v : Int32} : jv_put (he I P M) 37 6 1 (.int v) = some (he (u2 I 52 0 v) P M) := by
  rw [jv_put_of (h := he I P M) (a := 37) (c := 6) rfl (Nat.le_of_ble_eq_true rfl)]
  refine congrArg some (he_eq (en_up ?_ (fun a h => en_w52 h)))
  show _ = cLine (u2 I 52 0 v)
  simp [cLine, u2_ne, u2_same]
theorem gt_37_2 {I : Nat → Nat → Int32} {P : Nat → Nat → Option Nat} {M : Nat → Nat → Int32} : jv_get (he I P M) 37 6 2 = some (.int (I 53 0)) := rfl
theorem pt_37_2 {I : Nat → Nat → Int32} {P : Nat → Nat → Option Nat} {M : Nat → Nat → Int32} {v : Int32} : jv_put (he I P M) 37 6 2 (.int v) = some (he (u2 I 53 0 v) P M) := by
  rw [jv_put_of (h := he I P M) (a := 37) (c := 6) rfl (Nat.le_of_ble_eq_true rfl)]
  refine congrArg some (he_eq (en_up ?_ (fun a h => en_w53 h)))
  show _ = cLine (u2 I 53 0 v)
  simp [cLine, u2_ne, u2_same]
theorem ic_gr {I : Nat → Nat → Int32} {P : Nat → Nat → Option Nat} {M : Nat → Nat → Int32} {g : Nat} (hg : g < 32) : jv_isC (he I P M) 3 (some (113 + g)) = true := jv_isC_of (h := he I P M) (en_gr hg)
theorem gt_gr_0 {I : Nat → Nat → Int32} {P : Nat → Nat → Option Nat} {M : Nat → Nat → Int32} {g : Nat} (hg : g < 32) : jv_get (he I P M) (113 + g) 3 0 = some (.int (nI g)) := jv_get_of (h := he I P M) (en_gr hg) rfl
theorem gt_gr_1 {I : Nat → Nat → Int32} {P : Nat → Nat → Option Nat} {M : Nat → Nat → Int32} {g : Nat} (hg : g < 32) : jv_get (he I P M) (113 + g) 3 1 = some (.ref (41 + 18 * (g / 8))) := jv_get_of (h := he I P M) (en_gr hg) rfl
theorem gt_gr_2 {I : Nat → Nat → Int32} {P : Nat → Nat → Option Nat} {M : Nat → Nat → Int32} {g : Nat} (hg : g < 32) : jv_get (he I P M) (113 + g) 3 2 = some (.int (I 30 g)) := jv_get_of (h := he I P M) (en_gr hg) rfl
theorem pt_gr_2 {I : Nat → Nat → Int32} {P : Nat → Nat → Option Nat} {M : Nat → Nat → Int32} {g : Nat} (hg : g < 32) {v : Int32} : jv_put (he I P M) (113 + g) 3 2 (.int v) = some (he (u2 I 30 g v) P M) := by
  rw [jv_put_of (h := he I P M) (en_gr hg) (Nat.le_of_ble_eq_true rfl)]
  refine congrArg some (he_eq (en_up ?_ (fun a h => en_w30 h)))
  rw [en_gr hg]
  simp [cGr, u2_ne, u2_same]
theorem gt_gr_3 {I : Nat → Nat → Int32} {P : Nat → Nat → Option Nat} {M : Nat → Nat → Int32} {g : Nat} (hg : g < 32) : jv_get (he I P M) (113 + g) 3 3 = some (.int (I 31 g)) := jv_get_of (h := he I P M) (en_gr hg) rfl
theorem pt_gr_3 {I : Nat → Nat → Int32} {P : Nat → Nat → Option Nat} {M : Nat → Nat → Int32} {g : Nat} (hg : g < 32) {v : Int32} : jv_put (he I P M) (113 + g) 3 3 (.int v) = some (he (u2 I 31 g v) P M) := by
  rw [jv_put_of (h := he I P M) (en_gr hg) (Nat.le_of_ble_eq_true rfl)]
  refine congrArg some (he_eq (en_up ?_ (fun a h => en_w31 h)))
  rw [en_gr hg]
  simp [cGr, u2_ne, u2_same]
theorem gt_gr_4 {I : Nat → Nat → Int32} {P : Nat → Nat → Option Nat} {M : Nat → Nat → Int32} {g : Nat} (hg : g < 32) : jv_get (he I P M) (113 + g) 3 4 = some (.int (I 32 g)) := jv_get_of (h := he I P M) (en_gr hg) rfl
theorem pt_gr_4 {I : Nat → Nat → Int32} {P : Nat → Nat → Option Nat} {M : Nat → Nat → Int32} {g : Nat} (hg : g < 32) {v : Int32} : jv_put (he I P M) (113 + g) 3 4 (.int v) = some (he (u2 I 32 g v) P M) := by
  rw [jv_put_of (h := he I P M) (en_gr hg) (Nat.le_of_ble_eq_true rfl)]
  refine congrArg some (he_eq (en_up ?_ (fun a h => en_w32 h)))
  rw [en_gr hg]
  simp [cGr, u2_ne, u2_same]
theorem gt_gr_5 {I : Nat → Nat → Int32} {P : Nat → Nat → Option Nat} {M : Nat → Nat → Int32} {g : Nat} (hg : g < 32) : jv_get (he I P M) (113 + g) 3 5 = some (.int (I 33 g)) := jv_get_of (h := he I P M) (en_gr hg) rfl
theorem pt_gr_5 {I : Nat → Nat → Int32} {P : Nat → Nat → Option Nat} {M : Nat → Nat → Int32} {g : Nat} (hg : g < 32) {v : Int32} : jv_put (he I P M) (113 + g) 3 5 (.int v) = some (he (u2 I 33 g v) P M) := by
  rw [jv_put_of (h := he I P M) (en_gr hg) (Nat.le_of_ble_eq_true rfl)]
  refine congrArg some (he_eq (en_up ?_ (fun a h => en_w33 h)))
  rw [en_gr hg]
  simp [cGr, u2_ne, u2_same]
theorem gt_gr_6 {I : Nat → Nat → Int32} {P : Nat → Nat → Option Nat} {M : Nat → Nat → Int32} {g : Nat} (hg : g < 32) : jv_get (he I P M) (113 + g) 3 6 = some (.int (I 34 g)) := jv_get_of (h := he I P M) (en_gr hg) rfl
theorem pt_gr_6 {I : Nat → Nat → Int32} {P : Nat → Nat → Option Nat} {M : Nat → Nat → Int32} {g : Nat} (hg : g < 32) {v : Int32} : jv_put (he I P M) (113 + g) 3 6 (.int v) = some (he (u2 I 34 g v) P M) := by
  rw [jv_put_of (h := he I P M) (en_gr hg) (Nat.le_of_ble_eq_true rfl)]
  refine congrArg some (he_eq (en_up ?_ (fun a h => en_w34 h)))
  rw [en_gr hg]
  simp [cGr, u2_ne, u2_same]
theorem gt_gr_7 {I : Nat → Nat → Int32} {P : Nat → Nat → Option Nat} {M : Nat → Nat → Int32} {g : Nat} (hg : g < 32) : jv_get (he I P M) (113 + g) 3 7 = some (.int (I 35 g)) := jv_get_of (h := he I P M) (en_gr hg) rfl
theorem pt_gr_7 {I : Nat → Nat → Int32} {P : Nat → Nat → Option Nat} {M : Nat → Nat → Int32} {g : Nat} (hg : g < 32) {v : Int32} : jv_put (he I P M) (113 + g) 3 7 (.int v) = some (he (u2 I 35 g v) P M) := by
  rw [jv_put_of (h := he I P M) (en_gr hg) (Nat.le_of_ble_eq_true rfl)]
  refine congrArg some (he_eq (en_up ?_ (fun a h => en_w35 h)))
  rw [en_gr hg]
  simp [cGr, u2_ne, u2_same]
theorem gt_gr_8 {I : Nat → Nat → Int32} {P : Nat → Nat → Option Nat} {M : Nat → Nat → Int32} {g : Nat} (hg : g < 32) : jv_get (he I P M) (113 + g) 3 8 = some (.int (I 36 g)) := jv_get_of (h := he I P M) (en_gr hg) rfl
theorem pt_gr_8 {I : Nat → Nat → Int32} {P : Nat → Nat → Option Nat} {M : Nat → Nat → Int32} {g : Nat} (hg : g < 32) {v : Int32} : jv_put (he I P M) (113 + g) 3 8 (.int v) = some (he (u2 I 36 g v) P M) := by
  rw [jv_put_of (h := he I P M) (en_gr hg) (Nat.le_of_ble_eq_true rfl)]
  refine congrArg some (he_eq (en_up ?_ (fun a h => en_w36 h)))
  rw [en_gr hg]
  simp [cGr, u2_ne, u2_same]
theorem gt_gr_9 {I : Nat → Nat → Int32} {P : Nat → Nat → Option Nat} {M : Nat → Nat → Int32} {g : Nat} (hg : g < 32) : jv_get (he I P M) (113 + g) 3 9 = some (.int (I 37 g)) := jv_get_of (h := he I P M) (en_gr hg) rfl
theorem pt_gr_9 {I : Nat → Nat → Int32} {P : Nat → Nat → Option Nat} {M : Nat → Nat → Int32} {g : Nat} (hg : g < 32) {v : Int32} : jv_put (he I P M) (113 + g) 3 9 (.int v) = some (he (u2 I 37 g v) P M) := by
  rw [jv_put_of (h := he I P M) (en_gr hg) (Nat.le_of_ble_eq_true rfl)]
  refine congrArg some (he_eq (en_up ?_ (fun a h => en_w37 h)))
  rw [en_gr hg]
  simp [cGr, u2_ne, u2_same]
theorem gt_gr_10 {I : Nat → Nat → Int32} {P : Nat → Nat → Option Nat} {M : Nat → Nat → Int32} {g : Nat} (hg : g < 32) : jv_get (he I P M) (113 + g) 3 10 = some (.int (I 38 g)) := jv_get_of (h := he I P M) (en_gr hg) rfl
theorem pt_gr_10 {I : Nat → Nat → Int32} {P : Nat → Nat → Option Nat} {M : Nat → Nat → Int32} {g : Nat} (hg : g < 32) {v : Int32} : jv_put (he I P M) (113 + g) 3 10 (.int v) = some (he (u2 I 38 g v) P M) := by
  rw [jv_put_of (h := he I P M) (en_gr hg) (Nat.le_of_ble_eq_true rfl)]
  refine congrArg some (he_eq (en_up ?_ (fun a h => en_w38 h)))
  rw [en_gr hg]
  simp [cGr, u2_ne, u2_same]
theorem ic_rq {I : Nat → Nat → Int32} {P : Nat → Nat → Option Nat} {M : Nat → Nat → Int32} {g : Nat} (hg : g < 30) : jv_isC (he I P M) 4 (some (7 + g)) = true := jv_isC_of (h := he I P M) (en_req hg)
theorem gt_rq_0 {I : Nat → Nat → Int32} {P : Nat → Nat → Option Nat} {M : Nat → Nat → Int32} {g : Nat} (hg : g < 30) : jv_get (he I P M) (7 + g) 4 0 = some (.int (I 40 g)) := jv_get_of (h := he I P M) (en_req hg) rfl
theorem pt_rq_0 {I : Nat → Nat → Int32} {P : Nat → Nat → Option Nat} {M : Nat → Nat → Int32} {g : Nat} (hg : g < 30) {v : Int32} : jv_put (he I P M) (7 + g) 4 0 (.int v) = some (he (u2 I 40 g v) P M) := by
  rw [jv_put_of (h := he I P M) (en_req hg) (Nat.le_of_ble_eq_true rfl)]
  refine congrArg some (he_eq (en_up ?_ (fun a h => en_w40 h)))
  rw [en_req hg]
  simp [cReq, u2_ne, u2_same]
theorem gt_rq_1 {I : Nat → Nat → Int32} {P : Nat → Nat → Option Nat} {M : Nat → Nat → Int32} {g : Nat} (hg : g < 30) : jv_get (he I P M) (7 + g) 4 1 = some (va_rf (P 0 g)) := jv_get_of (h := he I P M) (en_req hg) rfl
theorem pt_rq_1 {I : Nat → Nat → Int32} {P : Nat → Nat → Option Nat} {M : Nat → Nat → Int32} {g : Nat} (hg : g < 30) {v : Option Nat} : jv_put (he I P M) (7 + g) 4 1 (va_rf v) = some (he I (u2 P 0 g v) M) := by
  rw [jv_put_of (h := he I P M) (en_req hg) (Nat.le_of_ble_eq_true rfl)]
  refine congrArg some (he_eq (en_up ?_ (fun a h => en_p0 h)))
  rw [en_req hg]
  simp [cReq, u2_ne, u2_same]
theorem pt_rq_1r {I : Nat → Nat → Int32} {P : Nat → Nat → Option Nat} {M : Nat → Nat → Int32} {g : Nat} (hg : g < 30) {v : Nat} : jv_put (he I P M) (7 + g) 4 1 (.ref v) = some (he I (u2 P 0 g (some v)) M) := pt_rq_1 hg (v := some v)
theorem pt_rq_1n {I : Nat → Nat → Int32} {P : Nat → Nat → Option Nat} {M : Nat → Nat → Int32} {g : Nat} (hg : g < 30) : jv_put (he I P M) (7 + g) 4 1 .null = some (he I (u2 P 0 g none) M) := pt_rq_1 hg (v := none)
theorem gt_rq_2 {I : Nat → Nat → Int32} {P : Nat → Nat → Option Nat} {M : Nat → Nat → Int32} {g : Nat} (hg : g < 30) : jv_get (he I P M) (7 + g) 4 2 = some (.int (I 41 g)) := jv_get_of (h := he I P M) (en_req hg) rfl
theorem pt_rq_2 {I : Nat → Nat → Int32} {P : Nat → Nat → Option Nat} {M : Nat → Nat → Int32} {g : Nat} (hg : g < 30) {v : Int32} : jv_put (he I P M) (7 + g) 4 2 (.int v) = some (he (u2 I 41 g v) P M) := by
  rw [jv_put_of (h := he I P M) (en_req hg) (Nat.le_of_ble_eq_true rfl)]
  refine congrArg some (he_eq (en_up ?_ (fun a h => en_w41 h)))
  rw [en_req hg]
  simp [cReq, u2_ne, u2_same]
theorem gt_rq_3 {I : Nat → Nat → Int32} {P : Nat → Nat → Option Nat} {M : Nat → Nat → Int32} {g : Nat} (hg : g < 30) : jv_get (he I P M) (7 + g) 4 3 = some (va_rf (P 1 g)) := jv_get_of (h := he I P M) (en_req hg) rfl
theorem pt_rq_3 {I : Nat → Nat → Int32} {P : Nat → Nat → Option Nat} {M : Nat → Nat → Int32} {g : Nat} (hg : g < 30) {v : Option Nat} : jv_put (he I P M) (7 + g) 4 3 (va_rf v) = some (he I (u2 P 1 g v) M) := by
  rw [jv_put_of (h := he I P M) (en_req hg) (Nat.le_of_ble_eq_true rfl)]
  refine congrArg some (he_eq (en_up ?_ (fun a h => en_p1 h)))
  rw [en_req hg]
  simp [cReq, u2_ne, u2_same]
theorem pt_rq_3r {I : Nat → Nat → Int32} {P : Nat → Nat → Option Nat} {M : Nat → Nat → Int32} {g : Nat} (hg : g < 30) {v : Nat} : jv_put (he I P M) (7 + g) 4 3 (.ref v) = some (he I (u2 P 1 g (some v)) M) := pt_rq_3 hg (v := some v)
theorem pt_rq_3n {I : Nat → Nat → Int32} {P : Nat → Nat → Option Nat} {M : Nat → Nat → Int32} {g : Nat} (hg : g < 30) : jv_put (he I P M) (7 + g) 4 3 .null = some (he I (u2 P 1 g none) M) := pt_rq_3 hg (v := none)
theorem gt_rq_4 {I : Nat → Nat → Int32} {P : Nat → Nat → Option Nat} {M : Nat → Nat → Int32} {g : Nat} (hg : g < 30) : jv_get (he I P M) (7 + g) 4 4 = some (.int (I 42 g)) := jv_get_of (h := he I P M) (en_req hg) rfl
theorem pt_rq_4 {I : Nat → Nat → Int32} {P : Nat → Nat → Option Nat} {M : Nat → Nat → Int32} {g : Nat} (hg : g < 30) {v : Int32} : jv_put (he I P M) (7 + g) 4 4 (.int v) = some (he (u2 I 42 g v) P M) := by
  rw [jv_put_of (h := he I P M) (en_req hg) (Nat.le_of_ble_eq_true rfl)]
  refine congrArg some (he_eq (en_up ?_ (fun a h => en_w42 h)))
  rw [en_req hg]
  simp [cReq, u2_ne, u2_same]
theorem gt_rq_5 {I : Nat → Nat → Int32} {P : Nat → Nat → Option Nat} {M : Nat → Nat → Int32} {g : Nat} (hg : g < 30) : jv_get (he I P M) (7 + g) 4 5 = some (.int (I 43 g)) := jv_get_of (h := he I P M) (en_req hg) rfl
theorem pt_rq_5 {I : Nat → Nat → Int32} {P : Nat → Nat → Option Nat} {M : Nat → Nat → Int32} {g : Nat} (hg : g < 30) {v : Int32} : jv_put (he I P M) (7 + g) 4 5 (.int v) = some (he (u2 I 43 g v) P M) := by
  rw [jv_put_of (h := he I P M) (en_req hg) (Nat.le_of_ble_eq_true rfl)]
  refine congrArg some (he_eq (en_up ?_ (fun a h => en_w43 h)))
  rw [en_req hg]
  simp [cReq, u2_ne, u2_same]
theorem gt_rq_6 {I : Nat → Nat → Int32} {P : Nat → Nat → Option Nat} {M : Nat → Nat → Int32} {g : Nat} (hg : g < 30) : jv_get (he I P M) (7 + g) 4 6 = some (.int (I 44 g)) := jv_get_of (h := he I P M) (en_req hg) rfl
theorem pt_rq_6 {I : Nat → Nat → Int32} {P : Nat → Nat → Option Nat} {M : Nat → Nat → Int32} {g : Nat} (hg : g < 30) {v : Int32} : jv_put (he I P M) (7 + g) 4 6 (.int v) = some (he (u2 I 44 g v) P M) := by
  rw [jv_put_of (h := he I P M) (en_req hg) (Nat.le_of_ble_eq_true rfl)]
  refine congrArg some (he_eq (en_up ?_ (fun a h => en_w44 h)))
  rw [en_req hg]
  simp [cReq, u2_ne, u2_same]
theorem gt_rq_7 {I : Nat → Nat → Int32} {P : Nat → Nat → Option Nat} {M : Nat → Nat → Int32} {g : Nat} (hg : g < 30) : jv_get (he I P M) (7 + g) 4 7 = some (.int (I 45 g)) := jv_get_of (h := he I P M) (en_req hg) rfl
theorem pt_rq_7 {I : Nat → Nat → Int32} {P : Nat → Nat → Option Nat} {M : Nat → Nat → Int32} {g : Nat} (hg : g < 30) {v : Int32} : jv_put (he I P M) (7 + g) 4 7 (.int v) = some (he (u2 I 45 g v) P M) := by
  rw [jv_put_of (h := he I P M) (en_req hg) (Nat.le_of_ble_eq_true rfl)]
  refine congrArg some (he_eq (en_up ?_ (fun a h => en_w45 h)))
  rw [en_req hg]
  simp [cReq, u2_ne, u2_same]
theorem gt_rq_8 {I : Nat → Nat → Int32} {P : Nat → Nat → Option Nat} {M : Nat → Nat → Int32} {g : Nat} (hg : g < 30) : jv_get (he I P M) (7 + g) 4 8 = some (.int (I 46 g)) := jv_get_of (h := he I P M) (en_req hg) rfl
theorem pt_rq_8 {I : Nat → Nat → Int32} {P : Nat → Nat → Option Nat} {M : Nat → Nat → Int32} {g : Nat} (hg : g < 30) {v : Int32} : jv_put (he I P M) (7 + g) 4 8 (.int v) = some (he (u2 I 46 g v) P M) := by
  rw [jv_put_of (h := he I P M) (en_req hg) (Nat.le_of_ble_eq_true rfl)]
  refine congrArg some (he_eq (en_up ?_ (fun a h => en_w46 h)))
  rw [en_req hg]
  simp [cReq, u2_ne, u2_same]
theorem gt_rq_9 {I : Nat → Nat → Int32} {P : Nat → Nat → Option Nat} {M : Nat → Nat → Int32} {g : Nat} (hg : g < 30) : jv_get (he I P M) (7 + g) 4 9 = some (.int (I 47 g)) := jv_get_of (h := he I P M) (en_req hg) rfl
theorem pt_rq_9 {I : Nat → Nat → Int32} {P : Nat → Nat → Option Nat} {M : Nat → Nat → Int32} {g : Nat} (hg : g < 30) {v : Int32} : jv_put (he I P M) (7 + g) 4 9 (.int v) = some (he (u2 I 47 g v) P M) := by
  rw [jv_put_of (h := he I P M) (en_req hg) (Nat.le_of_ble_eq_true rfl)]
  refine congrArg some (he_eq (en_up ?_ (fun a h => en_w47 h)))
  rw [en_req hg]
  simp [cReq, u2_ne, u2_same]
theorem gt_rq_10 {I : Nat → Nat → Int32} {P : Nat → Nat → Option Nat} {M : Nat → Nat → Int32} {g : Nat} (hg : g < 30) : jv_get (he I P M) (7 + g) 4 10 = some (va_rf (P 2 g)) := jv_get_of (h := he I P M) (en_req hg) rfl
theorem pt_rq_10 {I : Nat → Nat → Int32} {P : Nat → Nat → Option Nat} {M : Nat → Nat → Int32} {g : Nat} (hg : g < 30) {v : Option Nat} : jv_put (he I P M) (7 + g) 4 10 (va_rf v) = some (he I (u2 P 2 g v) M) := by
  rw [jv_put_of (h := he I P M) (en_req hg) (Nat.le_of_ble_eq_true rfl)]
  refine congrArg some (he_eq (en_up ?_ (fun a h => en_p2 h)))
  rw [en_req hg]
  simp [cReq, u2_ne, u2_same]
theorem pt_rq_10r {I : Nat → Nat → Int32} {P : Nat → Nat → Option Nat} {M : Nat → Nat → Int32} {g : Nat} (hg : g < 30) {v : Nat} : jv_put (he I P M) (7 + g) 4 10 (.ref v) = some (he I (u2 P 2 g (some v)) M) := pt_rq_10 hg (v := some v)
theorem pt_rq_10n {I : Nat → Nat → Int32} {P : Nat → Nat → Option Nat} {M : Nat → Nat → Int32} {g : Nat} (hg : g < 30) : jv_put (he I P M) (7 + g) 4 10 .null = some (he I (u2 P 2 g none) M) := pt_rq_10 hg (v := none)
theorem gt_rq_11 {I : Nat → Nat → Int32} {P : Nat → Nat → Option Nat} {M : Nat → Nat → Int32} {g : Nat} (hg : g < 30) : jv_get (he I P M) (7 + g) 4 11 = some (va_rf (P 3 g)) := jv_get_of (h := he I P M) (en_req hg) rfl
theorem pt_rq_11 {I : Nat → Nat → Int32} {P : Nat → Nat → Option Nat} {M : Nat → Nat → Int32} {g : Nat} (hg : g < 30) {v : Option Nat} : jv_put (he I P M) (7 + g) 4 11 (va_rf v) = some (he I (u2 P 3 g v) M) := by
  rw [jv_put_of (h := he I P M) (en_req hg) (Nat.le_of_ble_eq_true rfl)]
  refine congrArg some (he_eq (en_up ?_ (fun a h => en_p3 h)))
  rw [en_req hg]
  simp [cReq, u2_ne, u2_same]
theorem pt_rq_11r {I : Nat → Nat → Int32} {P : Nat → Nat → Option Nat} {M : Nat → Nat → Int32} {g : Nat} (hg : g < 30) {v : Nat} : jv_put (he I P M) (7 + g) 4 11 (.ref v) = some (he I (u2 P 3 g (some v)) M) := pt_rq_11 hg (v := some v)
theorem pt_rq_11n {I : Nat → Nat → Int32} {P : Nat → Nat → Option Nat} {M : Nat → Nat → Int32} {g : Nat} (hg : g < 30) : jv_put (he I P M) (7 + g) 4 11 .null = some (he I (u2 P 3 g none) M) := pt_rq_11 hg (v := none)
theorem gt_rq_12 {I : Nat → Nat → Int32} {P : Nat → Nat → Option Nat} {M : Nat → Nat → Int32} {g : Nat} (hg : g < 30) : jv_get (he I P M) (7 + g) 4 12 = some (va_rf (P 4 g)) := jv_get_of (h := he I P M) (en_req hg) rfl
theorem pt_rq_12 {I : Nat → Nat → Int32} {P : Nat → Nat → Option Nat} {M : Nat → Nat → Int32} {g : Nat} (hg : g < 30) {v : Option Nat} : jv_put (he I P M) (7 + g) 4 12 (va_rf v) = some (he I (u2 P 4 g v) M) := by
  rw [jv_put_of (h := he I P M) (en_req hg) (Nat.le_of_ble_eq_true rfl)]
  refine congrArg some (he_eq (en_up ?_ (fun a h => en_p4 h)))
  rw [en_req hg]
  simp [cReq, u2_ne, u2_same]
theorem pt_rq_12r {I : Nat → Nat → Int32} {P : Nat → Nat → Option Nat} {M : Nat → Nat → Int32} {g : Nat} (hg : g < 30) {v : Nat} : jv_put (he I P M) (7 + g) 4 12 (.ref v) = some (he I (u2 P 4 g (some v)) M) := pt_rq_12 hg (v := some v)
theorem pt_rq_12n {I : Nat → Nat → Int32} {P : Nat → Nat → Option Nat} {M : Nat → Nat → Int32} {g : Nat} (hg : g < 30) : jv_put (he I P M) (7 + g) 4 12 .null = some (he I (u2 P 4 g none) M) := pt_rq_12 hg (v := none)
theorem gt_rq_13 {I : Nat → Nat → Int32} {P : Nat → Nat → Option Nat} {M : Nat → Nat → Int32} {g : Nat} (hg : g < 30) : jv_get (he I P M) (7 + g) 4 13 = some (.int (I 48 g)) := jv_get_of (h := he I P M) (en_req hg) rfl
theorem pt_rq_13 {I : Nat → Nat → Int32} {P : Nat → Nat → Option Nat} {M : Nat → Nat → Int32} {g : Nat} (hg : g < 30) {v : Int32} : jv_put (he I P M) (7 + g) 4 13 (.int v) = some (he (u2 I 48 g v) P M) := by
  rw [jv_put_of (h := he I P M) (en_req hg) (Nat.le_of_ble_eq_true rfl)]
  refine congrArg some (he_eq (en_up ?_ (fun a h => en_w48 h)))
  rw [en_req hg]
  simp [cReq, u2_ne, u2_same]
theorem ic_ot {I : Nat → Nat → Int32} {P : Nat → Nat → Option Nat} {M : Nat → Nat → Int32} {g : Nat} (hg : g < 12) : jv_isC (he I P M) 7 (some (145 + g)) = true := jv_isC_of (h := he I P M) (en_out hg)
theorem gt_ot_0 {I : Nat → Nat → Int32} {P : Nat → Nat → Option Nat} {M : Nat → Nat → Int32} {g : Nat} (hg : g < 12) : jv_get (he I P M) (145 + g) 7 0 = some (.int (I 60 g)) := jv_get_of (h := he I P M) (en_out hg) rfl
theorem pt_ot_0 {I : Nat → Nat → Int32} {P : Nat → Nat → Option Nat} {M : Nat → Nat → Int32} {g : Nat} (hg : g < 12) {v : Int32} : jv_put (he I P M) (145 + g) 7 0 (.int v) = some (he (u2 I 60 g v) P M) := by
  rw [jv_put_of (h := he I P M) (en_out hg) (Nat.le_of_ble_eq_true rfl)]
  refine congrArg some (he_eq (en_up ?_ (fun a h => en_w60 h)))
  rw [en_out hg]
  simp [cOut, u2_ne, u2_same]
theorem gt_ot_1 {I : Nat → Nat → Int32} {P : Nat → Nat → Option Nat} {M : Nat → Nat → Int32} {g : Nat} (hg : g < 12) : jv_get (he I P M) (145 + g) 7 1 = some (.int (I 61 g)) := jv_get_of (h := he I P M) (en_out hg) rfl
theorem pt_ot_1 {I : Nat → Nat → Int32} {P : Nat → Nat → Option Nat} {M : Nat → Nat → Int32} {g : Nat} (hg : g < 12) {v : Int32} : jv_put (he I P M) (145 + g) 7 1 (.int v) = some (he (u2 I 61 g v) P M) := by
  rw [jv_put_of (h := he I P M) (en_out hg) (Nat.le_of_ble_eq_true rfl)]
  refine congrArg some (he_eq (en_up ?_ (fun a h => en_w61 h)))
  rw [en_out hg]
  simp [cOut, u2_ne, u2_same]
theorem gt_ot_2 {I : Nat → Nat → Int32} {P : Nat → Nat → Option Nat} {M : Nat → Nat → Int32} {g : Nat} (hg : g < 12) : jv_get (he I P M) (145 + g) 7 2 = some (.int (I 62 g)) := jv_get_of (h := he I P M) (en_out hg) rfl
theorem pt_ot_2 {I : Nat → Nat → Int32} {P : Nat → Nat → Option Nat} {M : Nat → Nat → Int32} {g : Nat} (hg : g < 12) {v : Int32} : jv_put (he I P M) (145 + g) 7 2 (.int v) = some (he (u2 I 62 g v) P M) := by
  rw [jv_put_of (h := he I P M) (en_out hg) (Nat.le_of_ble_eq_true rfl)]
  refine congrArg some (he_eq (en_up ?_ (fun a h => en_w62 h)))
  rw [en_out hg]
  simp [cOut, u2_ne, u2_same]
theorem gt_ot_3 {I : Nat → Nat → Int32} {P : Nat → Nat → Option Nat} {M : Nat → Nat → Int32} {g : Nat} (hg : g < 12) : jv_get (he I P M) (145 + g) 7 3 = some (.int (I 63 g)) := jv_get_of (h := he I P M) (en_out hg) rfl
theorem pt_ot_3 {I : Nat → Nat → Int32} {P : Nat → Nat → Option Nat} {M : Nat → Nat → Int32} {g : Nat} (hg : g < 12) {v : Int32} : jv_put (he I P M) (145 + g) 7 3 (.int v) = some (he (u2 I 63 g v) P M) := by
  rw [jv_put_of (h := he I P M) (en_out hg) (Nat.le_of_ble_eq_true rfl)]
  refine congrArg some (he_eq (en_up ?_ (fun a h => en_w63 h)))
  rw [en_out hg]
  simp [cOut, u2_ne, u2_same]
theorem ic_kd {I : Nat → Nat → Int32} {P : Nat → Nat → Option Nat} {M : Nat → Nat → Int32} {k : Nat} (hk : k < 4) : jv_isC (he I P M) 1 (some (41 + 18 * k)) = true := jv_isC_of (h := he I P M) (en_kd hk)
theorem ic_mt {I : Nat → Nat → Int32} {P : Nat → Nat → Option Nat} {M : Nat → Nat → Int32} {k m : Nat} (hk : k < 4) (hm : m < 4) : jv_isC (he I P M) 2 (some (43 + 18 * k + 4 * m)) = true := jv_isC_of (h := he I P M) (en_mt hk hm)
theorem gt_kd_0 {I : Nat → Nat → Int32} {P : Nat → Nat → Option Nat} {M : Nat → Nat → Int32} {k : Nat} (hk : k < 4) : jv_get (he I P M) (41 + 18 * k) 1 0 = some (.ref (42 + 18 * k)) := jv_get_of (h := he I P M) (en_kd hk) rfl
theorem gt_kd_1 {I : Nat → Nat → Int32} {P : Nat → Nat → Option Nat} {M : Nat → Nat → Int32} {k : Nat} (hk : k < 4) : jv_get (he I P M) (41 + 18 * k) 1 1 = some (.int (I 10 k)) := jv_get_of (h := he I P M) (en_kd hk) rfl
theorem pt_kd_1 {I : Nat → Nat → Int32} {P : Nat → Nat → Option Nat} {M : Nat → Nat → Int32} {k : Nat} (hk : k < 4) {v : Int32} : jv_put (he I P M) (41 + 18 * k) 1 1 (.int v) = some (he (u2 I 10 k v) P M) := by
  rw [jv_put_of (h := he I P M) (en_kd hk) (Nat.le_of_ble_eq_true rfl)]
  refine congrArg some (he_eq (en_up ?_ (fun a h => en_w10 h)))
  rw [en_kd hk]
  simp [cKd, u2_ne, u2_same]
theorem gt_kd_2 {I : Nat → Nat → Int32} {P : Nat → Nat → Option Nat} {M : Nat → Nat → Int32} {k : Nat} (hk : k < 4) : jv_get (he I P M) (41 + 18 * k) 1 2 = some (.int (I 11 k)) := jv_get_of (h := he I P M) (en_kd hk) rfl
theorem pt_kd_2 {I : Nat → Nat → Int32} {P : Nat → Nat → Option Nat} {M : Nat → Nat → Int32} {k : Nat} (hk : k < 4) {v : Int32} : jv_put (he I P M) (41 + 18 * k) 1 2 (.int v) = some (he (u2 I 11 k v) P M) := by
  rw [jv_put_of (h := he I P M) (en_kd hk) (Nat.le_of_ble_eq_true rfl)]
  refine congrArg some (he_eq (en_up ?_ (fun a h => en_w11 h)))
  rw [en_kd hk]
  simp [cKd, u2_ne, u2_same]
theorem gt_mt_0 {I : Nat → Nat → Int32} {P : Nat → Nat → Option Nat} {M : Nat → Nat → Int32} {k m : Nat} (hk : k < 4) (hm : m < 4) : jv_get (he I P M) (43 + 18 * k + 4 * m) 2 0 = some (.ref (44 + 18 * k + 4 * m)) := jv_get_of (h := he I P M) (en_mt hk hm) rfl
theorem gt_mt_1 {I : Nat → Nat → Int32} {P : Nat → Nat → Option Nat} {M : Nat → Nat → Int32} {k m : Nat} (hk : k < 4) (hm : m < 4) : jv_get (he I P M) (43 + 18 * k + 4 * m) 2 1 = some (.ref (45 + 18 * k + 4 * m)) := jv_get_of (h := he I P M) (en_mt hk hm) rfl
theorem gt_mt_2 {I : Nat → Nat → Int32} {P : Nat → Nat → Option Nat} {M : Nat → Nat → Int32} {k m : Nat} (hk : k < 4) (hm : m < 4) : jv_get (he I P M) (43 + 18 * k + 4 * m) 2 2 = some (.ref (46 + 18 * k + 4 * m)) := jv_get_of (h := he I P M) (en_mt hk hm) rfl
theorem gt_mt_3 {I : Nat → Nat → Int32} {P : Nat → Nat → Option Nat} {M : Nat → Nat → Int32} {k m : Nat} (hk : k < 4) (hm : m < 4) : jv_get (he I P M) (43 + 18 * k + 4 * m) 2 3 = some (.int (I 12 (4 * k + m))) := jv_get_of (h := he I P M) (en_mt hk hm) rfl
theorem pt_mt_3 {I : Nat → Nat → Int32} {P : Nat → Nat → Option Nat} {M : Nat → Nat → Int32} {k m : Nat} (hk : k < 4) (hm : m < 4) {v : Int32} : jv_put (he I P M) (43 + 18 * k + 4 * m) 2 3 (.int v) = some (he (u2 I 12 (4 * k + m) v) P M) := by
  rw [jv_put_of (h := he I P M) (en_mt hk hm) (Nat.le_of_ble_eq_true rfl)]
  refine congrArg some (he_eq (en_up ?_ (fun a h => en_w12 hm h)))
  rw [en_mt hk hm]
  simp [cMt, u2_ne, u2_same]
theorem gt_mt_4 {I : Nat → Nat → Int32} {P : Nat → Nat → Option Nat} {M : Nat → Nat → Int32} {k m : Nat} (hk : k < 4) (hm : m < 4) : jv_get (he I P M) (43 + 18 * k + 4 * m) 2 4 = some (.int (I 13 (4 * k + m))) := jv_get_of (h := he I P M) (en_mt hk hm) rfl
theorem pt_mt_4 {I : Nat → Nat → Int32} {P : Nat → Nat → Option Nat} {M : Nat → Nat → Int32} {k m : Nat} (hk : k < 4) (hm : m < 4) {v : Int32} : jv_put (he I P M) (43 + 18 * k + 4 * m) 2 4 (.int v) = some (he (u2 I 13 (4 * k + m) v) P M) := by
  rw [jv_put_of (h := he I P M) (en_mt hk hm) (Nat.le_of_ble_eq_true rfl)]
  refine congrArg some (he_eq (en_up ?_ (fun a h => en_w13 hm h)))
  rw [en_mt hk hm]
  simp [cMt, u2_ne, u2_same]
theorem gt_mt_5 {I : Nat → Nat → Int32} {P : Nat → Nat → Option Nat} {M : Nat → Nat → Int32} {k m : Nat} (hk : k < 4) (hm : m < 4) : jv_get (he I P M) (43 + 18 * k + 4 * m) 2 5 = some (.int (I 14 (4 * k + m))) := jv_get_of (h := he I P M) (en_mt hk hm) rfl
theorem pt_mt_5 {I : Nat → Nat → Int32} {P : Nat → Nat → Option Nat} {M : Nat → Nat → Int32} {k m : Nat} (hk : k < 4) (hm : m < 4) {v : Int32} : jv_put (he I P M) (43 + 18 * k + 4 * m) 2 5 (.int v) = some (he (u2 I 14 (4 * k + m) v) P M) := by
  rw [jv_put_of (h := he I P M) (en_mt hk hm) (Nat.le_of_ble_eq_true rfl)]
  refine congrArg some (he_eq (en_up ?_ (fun a h => en_w14 hm h)))
  rw [en_mt hk hm]
  simp [cMt, u2_ne, u2_same]
theorem rd_ops {I : Nat → Nat → Int32} {P : Nat → Nat → Option Nat} {M : Nat → Nat → Int32} {X : Nat × (Nat → Int32)} {k m j : Nat} (hk : k < 4) (hm : m < 4) (hj : j < 8) : jv_rdi X (he I P M) (44 + 18 * k + 4 * m) (nI j) = some (I 15 (8 * (4 * k + m) + j)) := by
  rw [jv_rdi_pos (by omega), jv_ald_of (h := he I P M) (en_ops hk hm) hj (by decide)]
  simp [hj]
theorem wr_ops {I : Nat → Nat → Int32} {P : Nat → Nat → Option Nat} {M : Nat → Nat → Int32} {k m j : Nat} (hk : k < 4) (hm : m < 4) (hj : j < 8) {v : Int32} : jv_ast (he I P M) 0 (44 + 18 * k + 4 * m) (nI j) v = some (he (u2 I 15 (8 * (4 * k + m) + j) v) P M) := by
  rw [jv_ast_of (h := he I P M) (en_ops hk hm) hj (by decide)]
  refine congrArg some (he_eq (en_up ?_ (fun a h => en_w15 hm hj h)))
  rw [en_ops hk hm]
  refine congrArg Sum.inl (Prod.ext rfl (Prod.ext rfl (congrArg Sum.inl ?_)))
  funext i
  rw [u2_at]
  by_cases hi : i = j
  · subst hi; simp [va_up, hj]
  · have hn : ¬ 8 * (4 * k + m) + i = 8 * (4 * k + m) + j := by omega
    simp [va_up, hi]
theorem rd_as {I : Nat → Nat → Int32} {P : Nat → Nat → Option Nat} {M : Nat → Nat → Int32} {X : Nat × (Nat → Int32)} {k m j : Nat} (hk : k < 4) (hm : m < 4) (hj : j < 8) : jv_rdi X (he I P M) (45 + 18 * k + 4 * m) (nI j) = some (I 16 (8 * (4 * k + m) + j)) := by
  rw [jv_rdi_pos (by omega), jv_ald_of (h := he I P M) (en_as hk hm) hj (by decide)]
  simp [hj]
theorem wr_as {I : Nat → Nat → Int32} {P : Nat → Nat → Option Nat} {M : Nat → Nat → Int32} {k m j : Nat} (hk : k < 4) (hm : m < 4) (hj : j < 8) {v : Int32} : jv_ast (he I P M) 0 (45 + 18 * k + 4 * m) (nI j) v = some (he (u2 I 16 (8 * (4 * k + m) + j) v) P M) := by
  rw [jv_ast_of (h := he I P M) (en_as hk hm) hj (by decide)]
  refine congrArg some (he_eq (en_up ?_ (fun a h => en_w16 hm hj h)))
  rw [en_as hk hm]
  refine congrArg Sum.inl (Prod.ext rfl (Prod.ext rfl (congrArg Sum.inl ?_)))
  funext i
  rw [u2_at]
  by_cases hi : i = j
  · subst hi; simp [va_up, hj]
  · have hn : ¬ 8 * (4 * k + m) + i = 8 * (4 * k + m) + j := by omega
    simp [va_up, hi]
theorem rd_bs {I : Nat → Nat → Int32} {P : Nat → Nat → Option Nat} {M : Nat → Nat → Int32} {X : Nat × (Nat → Int32)} {k m j : Nat} (hk : k < 4) (hm : m < 4) (hj : j < 8) : jv_rdi X (he I P M) (46 + 18 * k + 4 * m) (nI j) = some (I 17 (8 * (4 * k + m) + j)) := by
  rw [jv_rdi_pos (by omega), jv_ald_of (h := he I P M) (en_bs hk hm) hj (by decide)]
  simp [hj]
theorem wr_bs {I : Nat → Nat → Int32} {P : Nat → Nat → Option Nat} {M : Nat → Nat → Int32} {k m j : Nat} (hk : k < 4) (hm : m < 4) (hj : j < 8) {v : Int32} : jv_ast (he I P M) 0 (46 + 18 * k + 4 * m) (nI j) v = some (he (u2 I 17 (8 * (4 * k + m) + j) v) P M) := by
  rw [jv_ast_of (h := he I P M) (en_bs hk hm) hj (by decide)]
  refine congrArg some (he_eq (en_up ?_ (fun a h => en_w17 hm hj h)))
  rw [en_bs hk hm]
  refine congrArg Sum.inl (Prod.ext rfl (Prod.ext rfl (congrArg Sum.inl ?_)))
  funext i
  rw [u2_at]
  by_cases hi : i = j
  · subst hi; simp [va_up, hj]
  · have hn : ¬ 8 * (4 * k + m) + i = 8 * (4 * k + m) + j := by omega
    simp [va_up, hi]
theorem rl_2 {I : Nat → Nat → Int32} {P : Nat → Nat → Option Nat} {M : Nat → Nat → Int32} {j : Nat} (hj : j < 4) : jv_rld gw (he I P M) 2 (nI j) = some (some (41 + 18 * j)) := by
  rw [jv_rld_of (h := he I P M) (a := 2) rfl hj (by decide) (by decide), if_pos hj]
theorem rl_3 {I : Nat → Nat → Int32} {P : Nat → Nat → Option Nat} {M : Nat → Nat → Int32} {j : Nat} (hj : j < 32) : jv_rld gw (he I P M) 3 (nI j) = some (some (113 + j)) := by
  rw [jv_rld_of (h := he I P M) (a := 3) rfl hj (by decide) (by decide), if_pos hj]
theorem rl_4 {I : Nat → Nat → Int32} {P : Nat → Nat → Option Nat} {M : Nat → Nat → Int32} {j : Nat} (hj : j < 12) : jv_rld gw (he I P M) 4 (nI j) = some (some (145 + j)) := by
  rw [jv_rld_of (h := he I P M) (a := 4) rfl hj (by decide) (by decide), if_pos hj]
theorem rl_ma {I : Nat → Nat → Int32} {P : Nat → Nat → Option Nat} {M : Nat → Nat → Int32} {k j : Nat} (hk : k < 4) (hj : j < 4) : jv_rld gw (he I P M) (42 + 18 * k) (nI j) = some (some (43 + 18 * k + 4 * j)) := by
  rw [jv_rld_of (h := he I P M) (en_ma hk) hj (by decide) (by decide), if_pos hj]
theorem rl_6 {I : Nat → Nat → Int32} {P : Nat → Nat → Option Nat} {M : Nat → Nat → Int32} {j : Nat} (hj : j < 30) : jv_rld gw (he I P M) 6 (nI j) = some (P 10 j) := jv_rld_of (h := he I P M) (a := 6) rfl hj (by decide) (by decide)
theorem wl_6 {I : Nat → Nat → Int32} {P : Nat → Nat → Option Nat} {M : Nat → Nat → Int32} {j : Nat} (hj : j < 30) {v : Option Nat} (hv : jv_isC (he I P M) 4 v = true) : jv_rst gw (he I P M) 6 (nI j) v = some (he I (u2 P 10 j v) M) := by
  rw [jv_rst_of (h := he I P M) (a := 6) (u := 5) (n := 30) (f := P 10) rfl hj (by decide) (by decide) rfl hv]
  refine congrArg some (he_eq (en_up ?_ (fun a h => en_p10 h)))
  show _ = Sum.inl (5, 30, Sum.inr (u2 P 10 j v 10))
  rw [u2_eq]
theorem rl_39 {I : Nat → Nat → Int32} {P : Nat → Nat → Option Nat} {M : Nat → Nat → Int32} {j : Nat} (hj : j < 30) : jv_rld gw (he I P M) 39 (nI j) = some (P 11 j) := jv_rld_of (h := he I P M) (a := 39) rfl hj (by decide) (by decide)
theorem wl_39 {I : Nat → Nat → Int32} {P : Nat → Nat → Option Nat} {M : Nat → Nat → Int32} {j : Nat} (hj : j < 30) {v : Option Nat} (hv : jv_isC (he I P M) 3 v = true) : jv_rst gw (he I P M) 39 (nI j) v = some (he I (u2 P 11 j v) M) := by
  rw [jv_rst_of (h := he I P M) (a := 39) (u := 3) (n := 30) (f := P 11) rfl hj (by decide) (by decide) rfl hv]
  refine congrArg some (he_eq (en_up ?_ (fun a h => en_p11 h)))
  show _ = Sum.inl (3, 30, Sum.inr (u2 P 11 j v 11))
  rw [u2_eq]
theorem rl_40 {I : Nat → Nat → Int32} {P : Nat → Nat → Option Nat} {M : Nat → Nat → Int32} {j : Nat} (hj : j < 30) : jv_rld gw (he I P M) 40 (nI j) = some (P 12 j) := jv_rld_of (h := he I P M) (a := 40) rfl hj (by decide) (by decide)
theorem wl_40 {I : Nat → Nat → Int32} {P : Nat → Nat → Option Nat} {M : Nat → Nat → Int32} {j : Nat} (hj : j < 30) {v : Option Nat} (hv : jv_isC (he I P M) 4 v = true) : jv_rst gw (he I P M) 40 (nI j) v = some (he I (u2 P 12 j v) M) := by
  rw [jv_rst_of (h := he I P M) (a := 40) (u := 5) (n := 30) (f := P 12) rfl hj (by decide) (by decide) rfl hv]
  refine congrArg some (he_eq (en_up ?_ (fun a h => en_p12 h)))
  show _ = Sum.inl (5, 30, Sum.inr (u2 P 12 j v 12))
  rw [u2_eq]
theorem rd_38 {I : Nat → Nat → Int32} {P : Nat → Nat → Option Nat} {M : Nat → Nat → Int32} {X : Nat × (Nat → Int32)} {j : Nat} (hj : j < 62) : jv_rdi X (he I P M) 38 (nI j) = some (I 54 j) := jv_ald_of (h := he I P M) (a := 38) rfl hj (by decide)
theorem wr_38 {I : Nat → Nat → Int32} {P : Nat → Nat → Option Nat} {M : Nat → Nat → Int32} {j : Nat} (hj : j < 62) {v : Int32} : jv_ast (he I P M) 0 38 (nI j) v = some (he (u2 I 54 j v) P M) := by
  rw [jv_ast_of (h := he I P M) (a := 38) (n := 62) (f := I 54) rfl hj (by decide)]
  refine congrArg some (he_eq (en_up ?_ (fun a h => en_w54 h)))
  show _ = Sum.inl (0, 62, Sum.inl (u2 I 54 j v 54))
  rw [u2_eq]
theorem ic_157 {I : Nat → Nat → Int32} {P : Nat → Nat → Option Nat} {M : Nat → Nat → Int32} : jv_isC (he I P M) 8 (some 157) = true := rfl
theorem gt_157_0 {I : Nat → Nat → Int32} {P : Nat → Nat → Option Nat} {M : Nat → Nat → Int32} : jv_get (he I P M) 157 8 0 = some (.ref 158) := rfl
theorem rd_158 {I : Nat → Nat → Int32} {P : Nat → Nat → Option Nat} {M : Nat → Nat → Int32} {j : Nat} (hj : j < 4) : jv_ald (he I P M) 1 158 (nI j) = some (M 0 j) := jv_ald_of (h := he I P M) (a := 158) rfl hj (by decide)
theorem wr_158 {I : Nat → Nat → Int32} {P : Nat → Nat → Option Nat} {M : Nat → Nat → Int32} {j : Nat} (hj : j < 4) {v : Int32} : jv_ast (he I P M) 1 158 (nI j) v = some (he I P (u2 M 0 j v)) := by
  rw [jv_ast_of (h := he I P M) (a := 158) (n := 4) (f := M 0) rfl hj (by decide)]
  refine congrArg some (he_eq (en_up ?_ (fun a h => en_m0 h)))
  show _ = Sum.inl (1, 4, Sum.inl (u2 M 0 j v 0))
  rw [u2_eq]
theorem gt_157_1 {I : Nat → Nat → Int32} {P : Nat → Nat → Option Nat} {M : Nat → Nat → Int32} : jv_get (he I P M) 157 8 1 = some (.ref 159) := rfl
theorem rd_159 {I : Nat → Nat → Int32} {P : Nat → Nat → Option Nat} {M : Nat → Nat → Int32} {j : Nat} (hj : j < 4) : jv_ald (he I P M) 1 159 (nI j) = some (M 1 j) := jv_ald_of (h := he I P M) (a := 159) rfl hj (by decide)
theorem wr_159 {I : Nat → Nat → Int32} {P : Nat → Nat → Option Nat} {M : Nat → Nat → Int32} {j : Nat} (hj : j < 4) {v : Int32} : jv_ast (he I P M) 1 159 (nI j) v = some (he I P (u2 M 1 j v)) := by
  rw [jv_ast_of (h := he I P M) (a := 159) (n := 4) (f := M 1) rfl hj (by decide)]
  refine congrArg some (he_eq (en_up ?_ (fun a h => en_m1 h)))
  show _ = Sum.inl (1, 4, Sum.inl (u2 M 1 j v 1))
  rw [u2_eq]
theorem gt_157_2 {I : Nat → Nat → Int32} {P : Nat → Nat → Option Nat} {M : Nat → Nat → Int32} : jv_get (he I P M) 157 8 2 = some (.ref 160) := rfl
theorem rd_160 {I : Nat → Nat → Int32} {P : Nat → Nat → Option Nat} {M : Nat → Nat → Int32} {j : Nat} (hj : j < 16) : jv_ald (he I P M) 1 160 (nI j) = some (M 2 j) := jv_ald_of (h := he I P M) (a := 160) rfl hj (by decide)
theorem wr_160 {I : Nat → Nat → Int32} {P : Nat → Nat → Option Nat} {M : Nat → Nat → Int32} {j : Nat} (hj : j < 16) {v : Int32} : jv_ast (he I P M) 1 160 (nI j) v = some (he I P (u2 M 2 j v)) := by
  rw [jv_ast_of (h := he I P M) (a := 160) (n := 16) (f := M 2) rfl hj (by decide)]
  refine congrArg some (he_eq (en_up ?_ (fun a h => en_m2 h)))
  show _ = Sum.inl (1, 16, Sum.inl (u2 M 2 j v 2))
  rw [u2_eq]
theorem gt_157_3 {I : Nat → Nat → Int32} {P : Nat → Nat → Option Nat} {M : Nat → Nat → Int32} : jv_get (he I P M) 157 8 3 = some (.ref 161) := rfl
theorem rd_161 {I : Nat → Nat → Int32} {P : Nat → Nat → Option Nat} {M : Nat → Nat → Int32} {j : Nat} (hj : j < 16) : jv_ald (he I P M) 1 161 (nI j) = some (M 3 j) := jv_ald_of (h := he I P M) (a := 161) rfl hj (by decide)
theorem wr_161 {I : Nat → Nat → Int32} {P : Nat → Nat → Option Nat} {M : Nat → Nat → Int32} {j : Nat} (hj : j < 16) {v : Int32} : jv_ast (he I P M) 1 161 (nI j) v = some (he I P (u2 M 3 j v)) := by
  rw [jv_ast_of (h := he I P M) (a := 161) (n := 16) (f := M 3) rfl hj (by decide)]
  refine congrArg some (he_eq (en_up ?_ (fun a h => en_m3 h)))
  show _ = Sum.inl (1, 16, Sum.inl (u2 M 3 j v 3))
  rw [u2_eq]
theorem gt_157_4 {I : Nat → Nat → Int32} {P : Nat → Nat → Option Nat} {M : Nat → Nat → Int32} : jv_get (he I P M) 157 8 4 = some (.ref 162) := rfl
theorem rd_162 {I : Nat → Nat → Int32} {P : Nat → Nat → Option Nat} {M : Nat → Nat → Int32} {X : Nat × (Nat → Int32)} {j : Nat} (hj : j < 16) : jv_rdi X (he I P M) 162 (nI j) = some (M 4 j) := jv_ald_of (h := he I P M) (a := 162) rfl hj (by decide)
theorem wr_162 {I : Nat → Nat → Int32} {P : Nat → Nat → Option Nat} {M : Nat → Nat → Int32} {j : Nat} (hj : j < 16) {v : Int32} : jv_ast (he I P M) 0 162 (nI j) v = some (he I P (u2 M 4 j v)) := by
  rw [jv_ast_of (h := he I P M) (a := 162) (n := 16) (f := M 4) rfl hj (by decide)]
  refine congrArg some (he_eq (en_up ?_ (fun a h => en_m4 h)))
  show _ = Sum.inl (0, 16, Sum.inl (u2 M 4 j v 4))
  rw [u2_eq]
theorem gt_157_5 {I : Nat → Nat → Int32} {P : Nat → Nat → Option Nat} {M : Nat → Nat → Int32} : jv_get (he I P M) 157 8 5 = some (.ref 163) := rfl
theorem rd_163 {I : Nat → Nat → Int32} {P : Nat → Nat → Option Nat} {M : Nat → Nat → Int32} {X : Nat × (Nat → Int32)} {j : Nat} (hj : j < 128) : jv_rdi X (he I P M) 163 (nI j) = some (M 5 j) := jv_ald_of (h := he I P M) (a := 163) rfl hj (by decide)
theorem wr_163 {I : Nat → Nat → Int32} {P : Nat → Nat → Option Nat} {M : Nat → Nat → Int32} {j : Nat} (hj : j < 128) {v : Int32} : jv_ast (he I P M) 0 163 (nI j) v = some (he I P (u2 M 5 j v)) := by
  rw [jv_ast_of (h := he I P M) (a := 163) (n := 128) (f := M 5) rfl hj (by decide)]
  refine congrArg some (he_eq (en_up ?_ (fun a h => en_m5 h)))
  show _ = Sum.inl (0, 128, Sum.inl (u2 M 5 j v 5))
  rw [u2_eq]
theorem gt_157_6 {I : Nat → Nat → Int32} {P : Nat → Nat → Option Nat} {M : Nat → Nat → Int32} : jv_get (he I P M) 157 8 6 = some (.ref 164) := rfl
theorem rd_164 {I : Nat → Nat → Int32} {P : Nat → Nat → Option Nat} {M : Nat → Nat → Int32} {X : Nat × (Nat → Int32)} {j : Nat} (hj : j < 128) : jv_rdi X (he I P M) 164 (nI j) = some (M 6 j) := jv_ald_of (h := he I P M) (a := 164) rfl hj (by decide)
theorem wr_164 {I : Nat → Nat → Int32} {P : Nat → Nat → Option Nat} {M : Nat → Nat → Int32} {j : Nat} (hj : j < 128) {v : Int32} : jv_ast (he I P M) 0 164 (nI j) v = some (he I P (u2 M 6 j v)) := by
  rw [jv_ast_of (h := he I P M) (a := 164) (n := 128) (f := M 6) rfl hj (by decide)]
  refine congrArg some (he_eq (en_up ?_ (fun a h => en_m6 h)))
  show _ = Sum.inl (0, 128, Sum.inl (u2 M 6 j v 6))
  rw [u2_eq]
theorem gt_157_7 {I : Nat → Nat → Int32} {P : Nat → Nat → Option Nat} {M : Nat → Nat → Int32} : jv_get (he I P M) 157 8 7 = some (.ref 165) := rfl
theorem rd_165 {I : Nat → Nat → Int32} {P : Nat → Nat → Option Nat} {M : Nat → Nat → Int32} {X : Nat × (Nat → Int32)} {j : Nat} (hj : j < 128) : jv_rdi X (he I P M) 165 (nI j) = some (M 7 j) := jv_ald_of (h := he I P M) (a := 165) rfl hj (by decide)
theorem wr_165 {I : Nat → Nat → Int32} {P : Nat → Nat → Option Nat} {M : Nat → Nat → Int32} {j : Nat} (hj : j < 128) {v : Int32} : jv_ast (he I P M) 0 165 (nI j) v = some (he I P (u2 M 7 j v)) := by
  rw [jv_ast_of (h := he I P M) (a := 165) (n := 128) (f := M 7) rfl hj (by decide)]
  refine congrArg some (he_eq (en_up ?_ (fun a h => en_m7 h)))
  show _ = Sum.inl (0, 128, Sum.inl (u2 M 7 j v 7))
  rw [u2_eq]
theorem gt_157_8 {I : Nat → Nat → Int32} {P : Nat → Nat → Option Nat} {M : Nat → Nat → Int32} : jv_get (he I P M) 157 8 8 = some (.ref 166) := rfl
theorem rd_166 {I : Nat → Nat → Int32} {P : Nat → Nat → Option Nat} {M : Nat → Nat → Int32} {X : Nat × (Nat → Int32)} {j : Nat} (hj : j < 32) : jv_rdi X (he I P M) 166 (nI j) = some (M 8 j) := jv_ald_of (h := he I P M) (a := 166) rfl hj (by decide)
theorem wr_166 {I : Nat → Nat → Int32} {P : Nat → Nat → Option Nat} {M : Nat → Nat → Int32} {j : Nat} (hj : j < 32) {v : Int32} : jv_ast (he I P M) 0 166 (nI j) v = some (he I P (u2 M 8 j v)) := by
  rw [jv_ast_of (h := he I P M) (a := 166) (n := 32) (f := M 8) rfl hj (by decide)]
  refine congrArg some (he_eq (en_up ?_ (fun a h => en_m8 h)))
  show _ = Sum.inl (0, 32, Sum.inl (u2 M 8 j v 8))
  rw [u2_eq]
theorem gt_157_9 {I : Nat → Nat → Int32} {P : Nat → Nat → Option Nat} {M : Nat → Nat → Int32} : jv_get (he I P M) 157 8 9 = some (.ref 167) := rfl
theorem rd_167 {I : Nat → Nat → Int32} {P : Nat → Nat → Option Nat} {M : Nat → Nat → Int32} {X : Nat × (Nat → Int32)} {j : Nat} (hj : j < 32) : jv_rdi X (he I P M) 167 (nI j) = some (M 9 j) := jv_ald_of (h := he I P M) (a := 167) rfl hj (by decide)
theorem wr_167 {I : Nat → Nat → Int32} {P : Nat → Nat → Option Nat} {M : Nat → Nat → Int32} {j : Nat} (hj : j < 32) {v : Int32} : jv_ast (he I P M) 0 167 (nI j) v = some (he I P (u2 M 9 j v)) := by
  rw [jv_ast_of (h := he I P M) (a := 167) (n := 32) (f := M 9) rfl hj (by decide)]
  refine congrArg some (he_eq (en_up ?_ (fun a h => en_m9 h)))
  show _ = Sum.inl (0, 32, Sum.inl (u2 M 9 j v 9))
  rw [u2_eq]
theorem gt_157_10 {I : Nat → Nat → Int32} {P : Nat → Nat → Option Nat} {M : Nat → Nat → Int32} : jv_get (he I P M) 157 8 10 = some (.ref 168) := rfl
theorem rd_168 {I : Nat → Nat → Int32} {P : Nat → Nat → Option Nat} {M : Nat → Nat → Int32} {X : Nat × (Nat → Int32)} {j : Nat} (hj : j < 32) : jv_rdi X (he I P M) 168 (nI j) = some (M 10 j) := jv_ald_of (h := he I P M) (a := 168) rfl hj (by decide)
theorem wr_168 {I : Nat → Nat → Int32} {P : Nat → Nat → Option Nat} {M : Nat → Nat → Int32} {j : Nat} (hj : j < 32) {v : Int32} : jv_ast (he I P M) 0 168 (nI j) v = some (he I P (u2 M 10 j v)) := by
  rw [jv_ast_of (h := he I P M) (a := 168) (n := 32) (f := M 10) rfl hj (by decide)]
  refine congrArg some (he_eq (en_up ?_ (fun a h => en_m10 h)))
  show _ = Sum.inl (0, 32, Sum.inl (u2 M 10 j v 10))
  rw [u2_eq]
theorem gt_157_11 {I : Nat → Nat → Int32} {P : Nat → Nat → Option Nat} {M : Nat → Nat → Int32} : jv_get (he I P M) 157 8 11 = some (.ref 169) := rfl
theorem rd_169 {I : Nat → Nat → Int32} {P : Nat → Nat → Option Nat} {M : Nat → Nat → Int32} {X : Nat × (Nat → Int32)} {j : Nat} (hj : j < 32) : jv_rdi X (he I P M) 169 (nI j) = some (M 11 j) := jv_ald_of (h := he I P M) (a := 169) rfl hj (by decide)
theorem wr_169 {I : Nat → Nat → Int32} {P : Nat → Nat → Option Nat} {M : Nat → Nat → Int32} {j : Nat} (hj : j < 32) {v : Int32} : jv_ast (he I P M) 0 169 (nI j) v = some (he I P (u2 M 11 j v)) := by
  rw [jv_ast_of (h := he I P M) (a := 169) (n := 32) (f := M 11) rfl hj (by decide)]
  refine congrArg some (he_eq (en_up ?_ (fun a h => en_m11 h)))
  show _ = Sum.inl (0, 32, Sum.inl (u2 M 11 j v 11))
  rw [u2_eq]
theorem gt_157_12 {I : Nat → Nat → Int32} {P : Nat → Nat → Option Nat} {M : Nat → Nat → Int32} : jv_get (he I P M) 157 8 12 = some (.ref 170) := rfl
theorem rd_170 {I : Nat → Nat → Int32} {P : Nat → Nat → Option Nat} {M : Nat → Nat → Int32} {X : Nat × (Nat → Int32)} {j : Nat} (hj : j < 32) : jv_rdi X (he I P M) 170 (nI j) = some (M 12 j) := jv_ald_of (h := he I P M) (a := 170) rfl hj (by decide)
theorem wr_170 {I : Nat → Nat → Int32} {P : Nat → Nat → Option Nat} {M : Nat → Nat → Int32} {j : Nat} (hj : j < 32) {v : Int32} : jv_ast (he I P M) 0 170 (nI j) v = some (he I P (u2 M 12 j v)) := by
  rw [jv_ast_of (h := he I P M) (a := 170) (n := 32) (f := M 12) rfl hj (by decide)]
  refine congrArg some (he_eq (en_up ?_ (fun a h => en_m12 h)))
  show _ = Sum.inl (0, 32, Sum.inl (u2 M 12 j v 12))
  rw [u2_eq]
theorem gt_157_13 {I : Nat → Nat → Int32} {P : Nat → Nat → Option Nat} {M : Nat → Nat → Int32} : jv_get (he I P M) 157 8 13 = some (.ref 171) := rfl
theorem rd_171 {I : Nat → Nat → Int32} {P : Nat → Nat → Option Nat} {M : Nat → Nat → Int32} {X : Nat × (Nat → Int32)} {j : Nat} (hj : j < 32) : jv_rdi X (he I P M) 171 (nI j) = some (M 13 j) := jv_ald_of (h := he I P M) (a := 171) rfl hj (by decide)
theorem wr_171 {I : Nat → Nat → Int32} {P : Nat → Nat → Option Nat} {M : Nat → Nat → Int32} {j : Nat} (hj : j < 32) {v : Int32} : jv_ast (he I P M) 0 171 (nI j) v = some (he I P (u2 M 13 j v)) := by
  rw [jv_ast_of (h := he I P M) (a := 171) (n := 32) (f := M 13) rfl hj (by decide)]
  refine congrArg some (he_eq (en_up ?_ (fun a h => en_m13 h)))
  show _ = Sum.inl (0, 32, Sum.inl (u2 M 13 j v 13))
  rw [u2_eq]
theorem gt_157_14 {I : Nat → Nat → Int32} {P : Nat → Nat → Option Nat} {M : Nat → Nat → Int32} : jv_get (he I P M) 157 8 14 = some (.ref 172) := rfl
theorem rd_172 {I : Nat → Nat → Int32} {P : Nat → Nat → Option Nat} {M : Nat → Nat → Int32} {X : Nat × (Nat → Int32)} {j : Nat} (hj : j < 32) : jv_rdi X (he I P M) 172 (nI j) = some (M 14 j) := jv_ald_of (h := he I P M) (a := 172) rfl hj (by decide)
theorem wr_172 {I : Nat → Nat → Int32} {P : Nat → Nat → Option Nat} {M : Nat → Nat → Int32} {j : Nat} (hj : j < 32) {v : Int32} : jv_ast (he I P M) 0 172 (nI j) v = some (he I P (u2 M 14 j v)) := by
  rw [jv_ast_of (h := he I P M) (a := 172) (n := 32) (f := M 14) rfl hj (by decide)]
  refine congrArg some (he_eq (en_up ?_ (fun a h => en_m14 h)))
  show _ = Sum.inl (0, 32, Sum.inl (u2 M 14 j v 14))
  rw [u2_eq]
theorem gt_157_15 {I : Nat → Nat → Int32} {P : Nat → Nat → Option Nat} {M : Nat → Nat → Int32} : jv_get (he I P M) 157 8 15 = some (.ref 173) := rfl
theorem rd_173 {I : Nat → Nat → Int32} {P : Nat → Nat → Option Nat} {M : Nat → Nat → Int32} {X : Nat × (Nat → Int32)} {j : Nat} (hj : j < 32) : jv_rdi X (he I P M) 173 (nI j) = some (M 15 j) := jv_ald_of (h := he I P M) (a := 173) rfl hj (by decide)
theorem wr_173 {I : Nat → Nat → Int32} {P : Nat → Nat → Option Nat} {M : Nat → Nat → Int32} {j : Nat} (hj : j < 32) {v : Int32} : jv_ast (he I P M) 0 173 (nI j) v = some (he I P (u2 M 15 j v)) := by
  rw [jv_ast_of (h := he I P M) (a := 173) (n := 32) (f := M 15) rfl hj (by decide)]
  refine congrArg some (he_eq (en_up ?_ (fun a h => en_m15 h)))
  show _ = Sum.inl (0, 32, Sum.inl (u2 M 15 j v 15))
  rw [u2_eq]
theorem gt_157_16 {I : Nat → Nat → Int32} {P : Nat → Nat → Option Nat} {M : Nat → Nat → Int32} : jv_get (he I P M) 157 8 16 = some (.ref 174) := rfl
theorem rd_174 {I : Nat → Nat → Int32} {P : Nat → Nat → Option Nat} {M : Nat → Nat → Int32} {j : Nat} (hj : j < 32) : jv_ald (he I P M) 1 174 (nI j) = some (M 16 j) := jv_ald_of (h := he I P M) (a := 174) rfl hj (by decide)
theorem wr_174 {I : Nat → Nat → Int32} {P : Nat → Nat → Option Nat} {M : Nat → Nat → Int32} {j : Nat} (hj : j < 32) {v : Int32} : jv_ast (he I P M) 1 174 (nI j) v = some (he I P (u2 M 16 j v)) := by
  rw [jv_ast_of (h := he I P M) (a := 174) (n := 32) (f := M 16) rfl hj (by decide)]
  refine congrArg some (he_eq (en_up ?_ (fun a h => en_m16 h)))
  show _ = Sum.inl (1, 32, Sum.inl (u2 M 16 j v 16))
  rw [u2_eq]
theorem gt_157_17 {I : Nat → Nat → Int32} {P : Nat → Nat → Option Nat} {M : Nat → Nat → Int32} : jv_get (he I P M) 157 8 17 = some (.ref 175) := rfl
theorem rd_175 {I : Nat → Nat → Int32} {P : Nat → Nat → Option Nat} {M : Nat → Nat → Int32} {X : Nat × (Nat → Int32)} {j : Nat} (hj : j < 30) : jv_rdi X (he I P M) 175 (nI j) = some (M 17 j) := jv_ald_of (h := he I P M) (a := 175) rfl hj (by decide)
theorem wr_175 {I : Nat → Nat → Int32} {P : Nat → Nat → Option Nat} {M : Nat → Nat → Int32} {j : Nat} (hj : j < 30) {v : Int32} : jv_ast (he I P M) 0 175 (nI j) v = some (he I P (u2 M 17 j v)) := by
  rw [jv_ast_of (h := he I P M) (a := 175) (n := 30) (f := M 17) rfl hj (by decide)]
  refine congrArg some (he_eq (en_up ?_ (fun a h => en_m17 h)))
  show _ = Sum.inl (0, 30, Sum.inl (u2 M 17 j v 17))
  rw [u2_eq]
theorem gt_157_18 {I : Nat → Nat → Int32} {P : Nat → Nat → Option Nat} {M : Nat → Nat → Int32} : jv_get (he I P M) 157 8 18 = some (.ref 176) := rfl
theorem rd_176 {I : Nat → Nat → Int32} {P : Nat → Nat → Option Nat} {M : Nat → Nat → Int32} {X : Nat × (Nat → Int32)} {j : Nat} (hj : j < 30) : jv_rdi X (he I P M) 176 (nI j) = some (M 18 j) := jv_ald_of (h := he I P M) (a := 176) rfl hj (by decide)
theorem wr_176 {I : Nat → Nat → Int32} {P : Nat → Nat → Option Nat} {M : Nat → Nat → Int32} {j : Nat} (hj : j < 30) {v : Int32} : jv_ast (he I P M) 0 176 (nI j) v = some (he I P (u2 M 18 j v)) := by
  rw [jv_ast_of (h := he I P M) (a := 176) (n := 30) (f := M 18) rfl hj (by decide)]
  refine congrArg some (he_eq (en_up ?_ (fun a h => en_m18 h)))
  show _ = Sum.inl (0, 30, Sum.inl (u2 M 18 j v 18))
  rw [u2_eq]
theorem gt_157_19 {I : Nat → Nat → Int32} {P : Nat → Nat → Option Nat} {M : Nat → Nat → Int32} : jv_get (he I P M) 157 8 19 = some (.ref 177) := rfl
theorem rd_177 {I : Nat → Nat → Int32} {P : Nat → Nat → Option Nat} {M : Nat → Nat → Int32} {X : Nat × (Nat → Int32)} {j : Nat} (hj : j < 30) : jv_rdi X (he I P M) 177 (nI j) = some (M 19 j) := jv_ald_of (h := he I P M) (a := 177) rfl hj (by decide)
theorem wr_177 {I : Nat → Nat → Int32} {P : Nat → Nat → Option Nat} {M : Nat → Nat → Int32} {j : Nat} (hj : j < 30) {v : Int32} : jv_ast (he I P M) 0 177 (nI j) v = some (he I P (u2 M 19 j v)) := by
  rw [jv_ast_of (h := he I P M) (a := 177) (n := 30) (f := M 19) rfl hj (by decide)]
  refine congrArg some (he_eq (en_up ?_ (fun a h => en_m19 h)))
  show _ = Sum.inl (0, 30, Sum.inl (u2 M 19 j v 19))
  rw [u2_eq]
theorem gt_157_20 {I : Nat → Nat → Int32} {P : Nat → Nat → Option Nat} {M : Nat → Nat → Int32} : jv_get (he I P M) 157 8 20 = some (.ref 178) := rfl
theorem rd_178 {I : Nat → Nat → Int32} {P : Nat → Nat → Option Nat} {M : Nat → Nat → Int32} {X : Nat × (Nat → Int32)} {j : Nat} (hj : j < 30) : jv_rdi X (he I P M) 178 (nI j) = some (M 20 j) := jv_ald_of (h := he I P M) (a := 178) rfl hj (by decide)
theorem wr_178 {I : Nat → Nat → Int32} {P : Nat → Nat → Option Nat} {M : Nat → Nat → Int32} {j : Nat} (hj : j < 30) {v : Int32} : jv_ast (he I P M) 0 178 (nI j) v = some (he I P (u2 M 20 j v)) := by
  rw [jv_ast_of (h := he I P M) (a := 178) (n := 30) (f := M 20) rfl hj (by decide)]
  refine congrArg some (he_eq (en_up ?_ (fun a h => en_m20 h)))
  show _ = Sum.inl (0, 30, Sum.inl (u2 M 20 j v 20))
  rw [u2_eq]
theorem gt_157_21 {I : Nat → Nat → Int32} {P : Nat → Nat → Option Nat} {M : Nat → Nat → Int32} : jv_get (he I P M) 157 8 21 = some (.ref 179) := rfl
theorem rd_179 {I : Nat → Nat → Int32} {P : Nat → Nat → Option Nat} {M : Nat → Nat → Int32} {X : Nat × (Nat → Int32)} {j : Nat} (hj : j < 30) : jv_rdi X (he I P M) 179 (nI j) = some (M 21 j) := jv_ald_of (h := he I P M) (a := 179) rfl hj (by decide)
theorem wr_179 {I : Nat → Nat → Int32} {P : Nat → Nat → Option Nat} {M : Nat → Nat → Int32} {j : Nat} (hj : j < 30) {v : Int32} : jv_ast (he I P M) 0 179 (nI j) v = some (he I P (u2 M 21 j v)) := by
  rw [jv_ast_of (h := he I P M) (a := 179) (n := 30) (f := M 21) rfl hj (by decide)]
  refine congrArg some (he_eq (en_up ?_ (fun a h => en_m21 h)))
  show _ = Sum.inl (0, 30, Sum.inl (u2 M 21 j v 21))
  rw [u2_eq]
theorem gt_157_22 {I : Nat → Nat → Int32} {P : Nat → Nat → Option Nat} {M : Nat → Nat → Int32} : jv_get (he I P M) 157 8 22 = some (.ref 180) := rfl
theorem rd_180 {I : Nat → Nat → Int32} {P : Nat → Nat → Option Nat} {M : Nat → Nat → Int32} {X : Nat × (Nat → Int32)} {j : Nat} (hj : j < 30) : jv_rdi X (he I P M) 180 (nI j) = some (M 22 j) := jv_ald_of (h := he I P M) (a := 180) rfl hj (by decide)
theorem wr_180 {I : Nat → Nat → Int32} {P : Nat → Nat → Option Nat} {M : Nat → Nat → Int32} {j : Nat} (hj : j < 30) {v : Int32} : jv_ast (he I P M) 0 180 (nI j) v = some (he I P (u2 M 22 j v)) := by
  rw [jv_ast_of (h := he I P M) (a := 180) (n := 30) (f := M 22) rfl hj (by decide)]
  refine congrArg some (he_eq (en_up ?_ (fun a h => en_m22 h)))
  show _ = Sum.inl (0, 30, Sum.inl (u2 M 22 j v 22))
  rw [u2_eq]
theorem gt_157_23 {I : Nat → Nat → Int32} {P : Nat → Nat → Option Nat} {M : Nat → Nat → Int32} : jv_get (he I P M) 157 8 23 = some (.ref 181) := rfl
theorem rd_181 {I : Nat → Nat → Int32} {P : Nat → Nat → Option Nat} {M : Nat → Nat → Int32} {X : Nat × (Nat → Int32)} {j : Nat} (hj : j < 30) : jv_rdi X (he I P M) 181 (nI j) = some (M 23 j) := jv_ald_of (h := he I P M) (a := 181) rfl hj (by decide)
theorem wr_181 {I : Nat → Nat → Int32} {P : Nat → Nat → Option Nat} {M : Nat → Nat → Int32} {j : Nat} (hj : j < 30) {v : Int32} : jv_ast (he I P M) 0 181 (nI j) v = some (he I P (u2 M 23 j v)) := by
  rw [jv_ast_of (h := he I P M) (a := 181) (n := 30) (f := M 23) rfl hj (by decide)]
  refine congrArg some (he_eq (en_up ?_ (fun a h => en_m23 h)))
  show _ = Sum.inl (0, 30, Sum.inl (u2 M 23 j v 23))
  rw [u2_eq]
theorem gt_157_24 {I : Nat → Nat → Int32} {P : Nat → Nat → Option Nat} {M : Nat → Nat → Int32} : jv_get (he I P M) 157 8 24 = some (.ref 182) := rfl
theorem rd_182 {I : Nat → Nat → Int32} {P : Nat → Nat → Option Nat} {M : Nat → Nat → Int32} {X : Nat × (Nat → Int32)} {j : Nat} (hj : j < 30) : jv_rdi X (he I P M) 182 (nI j) = some (M 24 j) := jv_ald_of (h := he I P M) (a := 182) rfl hj (by decide)
theorem wr_182 {I : Nat → Nat → Int32} {P : Nat → Nat → Option Nat} {M : Nat → Nat → Int32} {j : Nat} (hj : j < 30) {v : Int32} : jv_ast (he I P M) 0 182 (nI j) v = some (he I P (u2 M 24 j v)) := by
  rw [jv_ast_of (h := he I P M) (a := 182) (n := 30) (f := M 24) rfl hj (by decide)]
  refine congrArg some (he_eq (en_up ?_ (fun a h => en_m24 h)))
  show _ = Sum.inl (0, 30, Sum.inl (u2 M 24 j v 24))
  rw [u2_eq]
theorem gt_157_25 {I : Nat → Nat → Int32} {P : Nat → Nat → Option Nat} {M : Nat → Nat → Int32} : jv_get (he I P M) 157 8 25 = some (.ref 183) := rfl
theorem rd_183 {I : Nat → Nat → Int32} {P : Nat → Nat → Option Nat} {M : Nat → Nat → Int32} {X : Nat × (Nat → Int32)} {j : Nat} (hj : j < 30) : jv_rdi X (he I P M) 183 (nI j) = some (M 25 j) := jv_ald_of (h := he I P M) (a := 183) rfl hj (by decide)
theorem wr_183 {I : Nat → Nat → Int32} {P : Nat → Nat → Option Nat} {M : Nat → Nat → Int32} {j : Nat} (hj : j < 30) {v : Int32} : jv_ast (he I P M) 0 183 (nI j) v = some (he I P (u2 M 25 j v)) := by
  rw [jv_ast_of (h := he I P M) (a := 183) (n := 30) (f := M 25) rfl hj (by decide)]
  refine congrArg some (he_eq (en_up ?_ (fun a h => en_m25 h)))
  show _ = Sum.inl (0, 30, Sum.inl (u2 M 25 j v 25))
  rw [u2_eq]
theorem gt_157_26 {I : Nat → Nat → Int32} {P : Nat → Nat → Option Nat} {M : Nat → Nat → Int32} : jv_get (he I P M) 157 8 26 = some (.ref 184) := rfl
theorem rd_184 {I : Nat → Nat → Int32} {P : Nat → Nat → Option Nat} {M : Nat → Nat → Int32} {X : Nat × (Nat → Int32)} {j : Nat} (hj : j < 30) : jv_rdi X (he I P M) 184 (nI j) = some (M 26 j) := jv_ald_of (h := he I P M) (a := 184) rfl hj (by decide)
theorem wr_184 {I : Nat → Nat → Int32} {P : Nat → Nat → Option Nat} {M : Nat → Nat → Int32} {j : Nat} (hj : j < 30) {v : Int32} : jv_ast (he I P M) 0 184 (nI j) v = some (he I P (u2 M 26 j v)) := by
  rw [jv_ast_of (h := he I P M) (a := 184) (n := 30) (f := M 26) rfl hj (by decide)]
  refine congrArg some (he_eq (en_up ?_ (fun a h => en_m26 h)))
  show _ = Sum.inl (0, 30, Sum.inl (u2 M 26 j v 26))
  rw [u2_eq]
theorem gt_157_27 {I : Nat → Nat → Int32} {P : Nat → Nat → Option Nat} {M : Nat → Nat → Int32} : jv_get (he I P M) 157 8 27 = some (.ref 185) := rfl
theorem rd_185 {I : Nat → Nat → Int32} {P : Nat → Nat → Option Nat} {M : Nat → Nat → Int32} {X : Nat × (Nat → Int32)} {j : Nat} (hj : j < 30) : jv_rdi X (he I P M) 185 (nI j) = some (M 27 j) := jv_ald_of (h := he I P M) (a := 185) rfl hj (by decide)
theorem wr_185 {I : Nat → Nat → Int32} {P : Nat → Nat → Option Nat} {M : Nat → Nat → Int32} {j : Nat} (hj : j < 30) {v : Int32} : jv_ast (he I P M) 0 185 (nI j) v = some (he I P (u2 M 27 j v)) := by
  rw [jv_ast_of (h := he I P M) (a := 185) (n := 30) (f := M 27) rfl hj (by decide)]
  refine congrArg some (he_eq (en_up ?_ (fun a h => en_m27 h)))
  show _ = Sum.inl (0, 30, Sum.inl (u2 M 27 j v 27))
  rw [u2_eq]
theorem gt_157_28 {I : Nat → Nat → Int32} {P : Nat → Nat → Option Nat} {M : Nat → Nat → Int32} : jv_get (he I P M) 157 8 28 = some (.int (M 28 0)) := rfl
theorem pt_157_28 {I : Nat → Nat → Int32} {P : Nat → Nat → Option Nat} {M : Nat → Nat → Int32} {v : Int32} : jv_put (he I P M) 157 8 28 (.int v) = some (he I P (u2 M 28 0 v)) := by
  rw [jv_put_of (h := he I P M) (a := 157) (c := 8) rfl (Nat.le_of_ble_eq_true rfl)]
  refine congrArg some (he_eq (en_up ?_ (fun a h => en_m28 h)))
  show _ = cMod (u2 M 28 0 v)
  simp [cMod, u2_ne, u2_same]
theorem gt_157_29 {I : Nat → Nat → Int32} {P : Nat → Nat → Option Nat} {M : Nat → Nat → Int32} : jv_get (he I P M) 157 8 29 = some (.int (M 29 0)) := rfl
theorem pt_157_29 {I : Nat → Nat → Int32} {P : Nat → Nat → Option Nat} {M : Nat → Nat → Int32} {v : Int32} : jv_put (he I P M) 157 8 29 (.int v) = some (he I P (u2 M 29 0 v)) := by
  rw [jv_put_of (h := he I P M) (a := 157) (c := 8) rfl (Nat.le_of_ble_eq_true rfl)]
  refine congrArg some (he_eq (en_up ?_ (fun a h => en_m29 h)))
  show _ = cMod (u2 M 29 0 v)
  simp [cMod, u2_ne, u2_same]
theorem gt_157_30 {I : Nat → Nat → Int32} {P : Nat → Nat → Option Nat} {M : Nat → Nat → Int32} : jv_get (he I P M) 157 8 30 = some (.ref 186) := rfl
theorem rd_186 {I : Nat → Nat → Int32} {P : Nat → Nat → Option Nat} {M : Nat → Nat → Int32} {X : Nat × (Nat → Int32)} {j : Nat} (hj : j < 64) : jv_rdi X (he I P M) 186 (nI j) = some (M 30 j) := jv_ald_of (h := he I P M) (a := 186) rfl hj (by decide)
theorem wr_186 {I : Nat → Nat → Int32} {P : Nat → Nat → Option Nat} {M : Nat → Nat → Int32} {j : Nat} (hj : j < 64) {v : Int32} : jv_ast (he I P M) 0 186 (nI j) v = some (he I P (u2 M 30 j v)) := by
  rw [jv_ast_of (h := he I P M) (a := 186) (n := 64) (f := M 30) rfl hj (by decide)]
  refine congrArg some (he_eq (en_up ?_ (fun a h => en_m30 h)))
  show _ = Sum.inl (0, 64, Sum.inl (u2 M 30 j v 30))
  rw [u2_eq]
theorem gt_157_31 {I : Nat → Nat → Int32} {P : Nat → Nat → Option Nat} {M : Nat → Nat → Int32} : jv_get (he I P M) 157 8 31 = some (.int (M 31 0)) := rfl
theorem pt_157_31 {I : Nat → Nat → Int32} {P : Nat → Nat → Option Nat} {M : Nat → Nat → Int32} {v : Int32} : jv_put (he I P M) 157 8 31 (.int v) = some (he I P (u2 M 31 0 v)) := by
  rw [jv_put_of (h := he I P M) (a := 157) (c := 8) rfl (Nat.le_of_ble_eq_true rfl)]
  refine congrArg some (he_eq (en_up ?_ (fun a h => en_m31 h)))
  show _ = cMod (u2 M 31 0 v)
  simp [cMod, u2_ne, u2_same]
theorem gt_157_32 {I : Nat → Nat → Int32} {P : Nat → Nat → Option Nat} {M : Nat → Nat → Int32} : jv_get (he I P M) 157 8 32 = some (.ref 187) := rfl
theorem rd_187 {I : Nat → Nat → Int32} {P : Nat → Nat → Option Nat} {M : Nat → Nat → Int32} {X : Nat × (Nat → Int32)} {j : Nat} (hj : j < 12) : jv_rdi X (he I P M) 187 (nI j) = some (M 32 j) := jv_ald_of (h := he I P M) (a := 187) rfl hj (by decide)
theorem wr_187 {I : Nat → Nat → Int32} {P : Nat → Nat → Option Nat} {M : Nat → Nat → Int32} {j : Nat} (hj : j < 12) {v : Int32} : jv_ast (he I P M) 0 187 (nI j) v = some (he I P (u2 M 32 j v)) := by
  rw [jv_ast_of (h := he I P M) (a := 187) (n := 12) (f := M 32) rfl hj (by decide)]
  refine congrArg some (he_eq (en_up ?_ (fun a h => en_m32 h)))
  show _ = Sum.inl (0, 12, Sum.inl (u2 M 32 j v 32))
  rw [u2_eq]
theorem gt_157_33 {I : Nat → Nat → Int32} {P : Nat → Nat → Option Nat} {M : Nat → Nat → Int32} : jv_get (he I P M) 157 8 33 = some (.ref 188) := rfl
theorem rd_188 {I : Nat → Nat → Int32} {P : Nat → Nat → Option Nat} {M : Nat → Nat → Int32} {X : Nat × (Nat → Int32)} {j : Nat} (hj : j < 12) : jv_rdi X (he I P M) 188 (nI j) = some (M 33 j) := jv_ald_of (h := he I P M) (a := 188) rfl hj (by decide)
theorem wr_188 {I : Nat → Nat → Int32} {P : Nat → Nat → Option Nat} {M : Nat → Nat → Int32} {j : Nat} (hj : j < 12) {v : Int32} : jv_ast (he I P M) 0 188 (nI j) v = some (he I P (u2 M 33 j v)) := by
  rw [jv_ast_of (h := he I P M) (a := 188) (n := 12) (f := M 33) rfl hj (by decide)]
  refine congrArg some (he_eq (en_up ?_ (fun a h => en_m33 h)))
  show _ = Sum.inl (0, 12, Sum.inl (u2 M 33 j v 33))
  rw [u2_eq]
theorem gt_157_34 {I : Nat → Nat → Int32} {P : Nat → Nat → Option Nat} {M : Nat → Nat → Int32} : jv_get (he I P M) 157 8 34 = some (.ref 189) := rfl
theorem rd_189 {I : Nat → Nat → Int32} {P : Nat → Nat → Option Nat} {M : Nat → Nat → Int32} {X : Nat × (Nat → Int32)} {j : Nat} (hj : j < 12) : jv_rdi X (he I P M) 189 (nI j) = some (M 34 j) := jv_ald_of (h := he I P M) (a := 189) rfl hj (by decide)
theorem wr_189 {I : Nat → Nat → Int32} {P : Nat → Nat → Option Nat} {M : Nat → Nat → Int32} {j : Nat} (hj : j < 12) {v : Int32} : jv_ast (he I P M) 0 189 (nI j) v = some (he I P (u2 M 34 j v)) := by
  rw [jv_ast_of (h := he I P M) (a := 189) (n := 12) (f := M 34) rfl hj (by decide)]
  refine congrArg some (he_eq (en_up ?_ (fun a h => en_m34 h)))
  show _ = Sum.inl (0, 12, Sum.inl (u2 M 34 j v 34))
  rw [u2_eq]
theorem gt_157_35 {I : Nat → Nat → Int32} {P : Nat → Nat → Option Nat} {M : Nat → Nat → Int32} : jv_get (he I P M) 157 8 35 = some (.ref 190) := rfl
theorem rd_190 {I : Nat → Nat → Int32} {P : Nat → Nat → Option Nat} {M : Nat → Nat → Int32} {X : Nat × (Nat → Int32)} {j : Nat} (hj : j < 12) : jv_rdi X (he I P M) 190 (nI j) = some (M 35 j) := jv_ald_of (h := he I P M) (a := 190) rfl hj (by decide)
theorem wr_190 {I : Nat → Nat → Int32} {P : Nat → Nat → Option Nat} {M : Nat → Nat → Int32} {j : Nat} (hj : j < 12) {v : Int32} : jv_ast (he I P M) 0 190 (nI j) v = some (he I P (u2 M 35 j v)) := by
  rw [jv_ast_of (h := he I P M) (a := 190) (n := 12) (f := M 35) rfl hj (by decide)]
  refine congrArg some (he_eq (en_up ?_ (fun a h => en_m35 h)))
  show _ = Sum.inl (0, 12, Sum.inl (u2 M 35 j v 35))
  rw [u2_eq]
theorem gt_157_36 {I : Nat → Nat → Int32} {P : Nat → Nat → Option Nat} {M : Nat → Nat → Int32} : jv_get (he I P M) 157 8 36 = some (.int (M 36 0)) := rfl
theorem pt_157_36 {I : Nat → Nat → Int32} {P : Nat → Nat → Option Nat} {M : Nat → Nat → Int32} {v : Int32} : jv_put (he I P M) 157 8 36 (.int v) = some (he I P (u2 M 36 0 v)) := by
  rw [jv_put_of (h := he I P M) (a := 157) (c := 8) rfl (Nat.le_of_ble_eq_true rfl)]
  refine congrArg some (he_eq (en_up ?_ (fun a h => en_m36 h)))
  show _ = cMod (u2 M 36 0 v)
  simp [cMod, u2_ne, u2_same]
theorem gt_157_37 {I : Nat → Nat → Int32} {P : Nat → Nat → Option Nat} {M : Nat → Nat → Int32} : jv_get (he I P M) 157 8 37 = some (.int (M 37 0)) := rfl
theorem pt_157_37 {I : Nat → Nat → Int32} {P : Nat → Nat → Option Nat} {M : Nat → Nat → Int32} {v : Int32} : jv_put (he I P M) 157 8 37 (.int v) = some (he I P (u2 M 37 0 v)) := by
  rw [jv_put_of (h := he I P M) (a := 157) (c := 8) rfl (Nat.le_of_ble_eq_true rfl)]
  refine congrArg some (he_eq (en_up ?_ (fun a h => en_m37 h)))
  show _ = cMod (u2 M 37 0 v)
  simp [cMod, u2_ne, u2_same]
theorem gt_157_38 {I : Nat → Nat → Int32} {P : Nat → Nat → Option Nat} {M : Nat → Nat → Int32} : jv_get (he I P M) 157 8 38 = some (.int (M 38 0)) := rfl
theorem pt_157_38 {I : Nat → Nat → Int32} {P : Nat → Nat → Option Nat} {M : Nat → Nat → Int32} {v : Int32} : jv_put (he I P M) 157 8 38 (.int v) = some (he I P (u2 M 38 0 v)) := by
  rw [jv_put_of (h := he I P M) (a := 157) (c := 8) rfl (Nat.le_of_ble_eq_true rfl)]
  refine congrArg some (he_eq (en_up ?_ (fun a h => en_m38 h)))
  show _ = cMod (u2 M 38 0 v)
  simp [cMod, u2_ne, u2_same]
theorem gt_157_39 {I : Nat → Nat → Int32} {P : Nat → Nat → Option Nat} {M : Nat → Nat → Int32} : jv_get (he I P M) 157 8 39 = some (.int (M 39 0)) := rfl
theorem pt_157_39 {I : Nat → Nat → Int32} {P : Nat → Nat → Option Nat} {M : Nat → Nat → Int32} {v : Int32} : jv_put (he I P M) 157 8 39 (.int v) = some (he I P (u2 M 39 0 v)) := by
  rw [jv_put_of (h := he I P M) (a := 157) (c := 8) rfl (Nat.le_of_ble_eq_true rfl)]
  refine congrArg some (he_eq (en_up ?_ (fun a h => en_m39 h)))
  show _ = cMod (u2 M 39 0 v)
  simp [cMod, u2_ne, u2_same]
theorem gt_157_40 {I : Nat → Nat → Int32} {P : Nat → Nat → Option Nat} {M : Nat → Nat → Int32} : jv_get (he I P M) 157 8 40 = some (.int (M 40 0)) := rfl
theorem pt_157_40 {I : Nat → Nat → Int32} {P : Nat → Nat → Option Nat} {M : Nat → Nat → Int32} {v : Int32} : jv_put (he I P M) 157 8 40 (.int v) = some (he I P (u2 M 40 0 v)) := by
  rw [jv_put_of (h := he I P M) (a := 157) (c := 8) rfl (Nat.le_of_ble_eq_true rfl)]
  refine congrArg some (he_eq (en_up ?_ (fun a h => en_m40 h)))
  show _ = cMod (u2 M 40 0 v)
  simp [cMod, u2_ne, u2_same]
theorem gt_157_41 {I : Nat → Nat → Int32} {P : Nat → Nat → Option Nat} {M : Nat → Nat → Int32} : jv_get (he I P M) 157 8 41 = some (.int (M 41 0)) := rfl
theorem pt_157_41 {I : Nat → Nat → Int32} {P : Nat → Nat → Option Nat} {M : Nat → Nat → Int32} {v : Int32} : jv_put (he I P M) 157 8 41 (.int v) = some (he I P (u2 M 41 0 v)) := by
  rw [jv_put_of (h := he I P M) (a := 157) (c := 8) rfl (Nat.le_of_ble_eq_true rfl)]
  refine congrArg some (he_eq (en_up ?_ (fun a h => en_m41 h)))
  show _ = cMod (u2 M 41 0 v)
  simp [cMod, u2_ne, u2_same]
theorem gt_157_42 {I : Nat → Nat → Int32} {P : Nat → Nat → Option Nat} {M : Nat → Nat → Int32} : jv_get (he I P M) 157 8 42 = some (.int (M 42 0)) := rfl
theorem pt_157_42 {I : Nat → Nat → Int32} {P : Nat → Nat → Option Nat} {M : Nat → Nat → Int32} {v : Int32} : jv_put (he I P M) 157 8 42 (.int v) = some (he I P (u2 M 42 0 v)) := by
  rw [jv_put_of (h := he I P M) (a := 157) (c := 8) rfl (Nat.le_of_ble_eq_true rfl)]
  refine congrArg some (he_eq (en_up ?_ (fun a h => en_m42 h)))
  show _ = cMod (u2 M 42 0 v)
  simp [cMod, u2_ne, u2_same]
theorem gt_157_43 {I : Nat → Nat → Int32} {P : Nat → Nat → Option Nat} {M : Nat → Nat → Int32} : jv_get (he I P M) 157 8 43 = some (.ref 191) := rfl
theorem rd_191 {I : Nat → Nat → Int32} {P : Nat → Nat → Option Nat} {M : Nat → Nat → Int32} {X : Nat × (Nat → Int32)} {j : Nat} (hj : j < 32) : jv_rdi X (he I P M) 191 (nI j) = some (M 43 j) := jv_ald_of (h := he I P M) (a := 191) rfl hj (by decide)
theorem wr_191 {I : Nat → Nat → Int32} {P : Nat → Nat → Option Nat} {M : Nat → Nat → Int32} {j : Nat} (hj : j < 32) {v : Int32} : jv_ast (he I P M) 0 191 (nI j) v = some (he I P (u2 M 43 j v)) := by
  rw [jv_ast_of (h := he I P M) (a := 191) (n := 32) (f := M 43) rfl hj (by decide)]
  refine congrArg some (he_eq (en_up ?_ (fun a h => en_m43 h)))
  show _ = Sum.inl (0, 32, Sum.inl (u2 M 43 j v 43))
  rw [u2_eq]
theorem gt_157_44 {I : Nat → Nat → Int32} {P : Nat → Nat → Option Nat} {M : Nat → Nat → Int32} : jv_get (he I P M) 157 8 44 = some (.int (M 44 0)) := rfl
theorem pt_157_44 {I : Nat → Nat → Int32} {P : Nat → Nat → Option Nat} {M : Nat → Nat → Int32} {v : Int32} : jv_put (he I P M) 157 8 44 (.int v) = some (he I P (u2 M 44 0 v)) := by
  rw [jv_put_of (h := he I P M) (a := 157) (c := 8) rfl (Nat.le_of_ble_eq_true rfl)]
  refine congrArg some (he_eq (en_up ?_ (fun a h => en_m44 h)))
  show _ = cMod (u2 M 44 0 v)
  simp [cMod, u2_ne, u2_same]
theorem gt_157_45 {I : Nat → Nat → Int32} {P : Nat → Nat → Option Nat} {M : Nat → Nat → Int32} : jv_get (he I P M) 157 8 45 = some (.int (M 45 0)) := rfl
theorem pt_157_45 {I : Nat → Nat → Int32} {P : Nat → Nat → Option Nat} {M : Nat → Nat → Int32} {v : Int32} : jv_put (he I P M) 157 8 45 (.int v) = some (he I P (u2 M 45 0 v)) := by
  rw [jv_put_of (h := he I P M) (a := 157) (c := 8) rfl (Nat.le_of_ble_eq_true rfl)]
  refine congrArg some (he_eq (en_up ?_ (fun a h => en_m45 h)))
  show _ = cMod (u2 M 45 0 v)
  simp [cMod, u2_ne, u2_same]
