/-! ===== THE HEAP when both objects stand: I holds the class's numbers, P its references (places) that change, M the reference's numbers (by its fields' order). Place 1 the host, 7.. its requests, 41.. kinds and methods, 113.. grains, 145.. outside calls; 157 the reference, 158.. its arrays ===== -/
def u2 {α : Type} (I : Nat → Nat → α) (f k : Nat) (v : α) : Nat → Nat → α := va_up I f (va_up (I f) k v)
theorem u2_ne {α : Type} {I : Nat → Nat → α} {f k f2 : Nat} {v : α} (h : f2 ≠ f) : u2 I f k v f2 = I f2 := by unfold u2; simp only [va_up, if_neg h]
theorem u2_eq {α : Type} {I : Nat → Nat → α} {f k : Nat} {v : α} : u2 I f k v f = va_up (I f) k v := by unfold u2; simp only [va_up, if_true]
theorem u2_at {α : Type} {I : Nat → Nat → α} {f k j : Nat} {v : α} : u2 I f k v f j = if j = k then v else I f j := by rw [u2_eq]; rfl
theorem u2_same {α : Type} {I : Nat → Nat → α} {f k : Nat} {v : α} : u2 I f k v f k = v := by rw [u2_at, if_pos rfl]
theorem u2_oth {α : Type} {I : Nat → Nat → α} {f k j : Nat} {v : α} (h : j ≠ k) : u2 I f k v f j = I f j := by rw [u2_at, if_neg h]
def cHost (I : Nat → Nat → Int32) : jv_C := .inr (0, [.ref 2, .ref 3, .ref 4, .ref 5, .ref 37, .ref 39, .ref 40, .int (I 1 0), .int (I 2 0), .int (I 3 0), .int (I 4 0), .int (I 5 0), .int (I 6 0), .int (I 7 0)])
def cReqs (I : Nat → Nat → Int32) : jv_C := .inr (5, [.ref 6, .int (I 50 0), .int (I 51 0)])
def cLine (I : Nat → Nat → Int32) : jv_C := .inr (6, [.ref 38, .int (I 52 0), .int (I 53 0)])
def cReq (I : Nat → Nat → Int32) (P : Nat → Nat → Option Nat) (i : Nat) : jv_C := .inr (4, [.int (I 40 i), va_rf (P 0 i), .int (I 41 i), va_rf (P 1 i), .int (I 42 i), .int (I 43 i), .int (I 44 i), .int (I 45 i), .int (I 46 i), .int (I 47 i), va_rf (P 2 i), va_rf (P 3 i), va_rf (P 4 i), .int (I 48 i)])
def cKd (I : Nat → Nat → Int32) (k : Nat) : jv_C := .inr (1, [.ref (42 + 18 * k), .int (I 10 k), .int (I 11 k)])
def cMt (I : Nat → Nat → Int32) (k m : Nat) : jv_C := .inr (2, [.ref (44 + 18 * k + 4 * m), .ref (45 + 18 * k + 4 * m), .ref (46 + 18 * k + 4 * m), .int (I 12 (4 * k + m)), .int (I 13 (4 * k + m)), .int (I 14 (4 * k + m))])
def cGr (I : Nat → Nat → Int32) (g : Nat) : jv_C := .inr (3, [.int (nI g), .ref (41 + 18 * (g / 8)), .int (I 30 g), .int (I 31 g), .int (I 32 g), .int (I 33 g), .int (I 34 g), .int (I 35 g), .int (I 36 g), .int (I 37 g), .int (I 38 g)])
def cOut (I : Nat → Nat → Int32) (c : Nat) : jv_C := .inr (7, [.int (I 60 c), .int (I 61 c), .int (I 62 c), .int (I 63 c)])
def cMod (M : Nat → Nat → Int32) : jv_C := .inr (8, [.ref 158, .ref 159, .ref 160, .ref 161, .ref 162, .ref 163, .ref 164, .ref 165, .ref 166, .ref 167, .ref 168, .ref 169, .ref 170, .ref 171, .ref 172, .ref 173, .ref 174, .ref 175, .ref 176, .ref 177, .ref 178, .ref 179, .ref 180, .ref 181, .ref 182, .ref 183, .ref 184, .ref 185, .int (M 28 0), .int (M 29 0), .ref 186, .int (M 31 0), .ref 187, .ref 188, .ref 189, .ref 190, .int (M 36 0), .int (M 37 0), .int (M 38 0), .int (M 39 0), .int (M 40 0), .int (M 41 0), .int (M 42 0), .ref 191, .int (M 44 0), .int (M 45 0)])
def en1 (I : Nat → Nat → Int32) (P : Nat → Nat → Option Nat) (a : Nat) : jv_C := match a with
  | 1 => cHost I
  | 2 => .inl (2, 4, .inr (fun k => if k < 4 then some (41 + 18 * k) else none))
  | 3 => .inl (3, 32, .inr (fun k => if k < 32 then some (113 + k) else none))
  | 4 => .inl (4, 12, .inr (fun k => if k < 12 then some (145 + k) else none))
  | 5 => cReqs I
  | 6 => .inl (5, 30, .inr (P 10))
  | _ => jv_no
def en2 (I : Nat → Nat → Int32) (P : Nat → Nat → Option Nat) (a : Nat) : jv_C := match a with
  | 37 => cLine I
  | 38 => .inl (0, 62, .inl (I 54))
  | 39 => .inl (3, 30, .inr (P 11))
  | 40 => .inl (5, 30, .inr (P 12))
  | _ => jv_no
/-- place j of the eighteen of kind k: the kind, its row of methods, and for each method itself and three rows -/
def enK (I : Nat → Nat → Int32) (k j : Nat) : jv_C :=
  if j = 0 then cKd I k else if j = 1 then .inl (6, 4, .inr (fun m => if m < 4 then some (43 + 18 * k + 4 * m) else none))
  else if (j - 2) % 4 = 0 then cMt I k ((j - 2) / 4) else if (j - 2) % 4 = 1 then .inl (0, 8, .inl (fun i => if i < 8 then I 15 (8 * (4 * k + (j - 2) / 4) + i) else 0))
  else if (j - 2) % 4 = 2 then .inl (0, 8, .inl (fun i => if i < 8 then I 16 (8 * (4 * k + (j - 2) / 4) + i) else 0)) else .inl (0, 8, .inl (fun i => if i < 8 then I 17 (8 * (4 * k + (j - 2) / 4) + i) else 0))
def en3 (M : Nat → Nat → Int32) (a : Nat) : jv_C := match a with
  | 157 => cMod M
  | 158 => .inl (1, 4, .inl (M 0))
  | 159 => .inl (1, 4, .inl (M 1))
  | 160 => .inl (1, 16, .inl (M 2))
  | 161 => .inl (1, 16, .inl (M 3))
  | 162 => .inl (0, 16, .inl (M 4))
  | 163 => .inl (0, 128, .inl (M 5))
  | 164 => .inl (0, 128, .inl (M 6))
  | 165 => .inl (0, 128, .inl (M 7))
  | 166 => .inl (0, 32, .inl (M 8))
  | 167 => .inl (0, 32, .inl (M 9))
  | 168 => .inl (0, 32, .inl (M 10))
  | 169 => .inl (0, 32, .inl (M 11))
  | 170 => .inl (0, 32, .inl (M 12))
  | 171 => .inl (0, 32, .inl (M 13))
  | 172 => .inl (0, 32, .inl (M 14))
  | 173 => .inl (0, 32, .inl (M 15))
  | 174 => .inl (1, 32, .inl (M 16))
  | 175 => .inl (0, 30, .inl (M 17))
  | 176 => .inl (0, 30, .inl (M 18))
  | 177 => .inl (0, 30, .inl (M 19))
  | 178 => .inl (0, 30, .inl (M 20))
  | 179 => .inl (0, 30, .inl (M 21))
  | 180 => .inl (0, 30, .inl (M 22))
  | 181 => .inl (0, 30, .inl (M 23))
  | 182 => .inl (0, 30, .inl (M 24))
  | 183 => .inl (0, 30, .inl (M 25))
  | 184 => .inl (0, 30, .inl (M 26))
  | 185 => .inl (0, 30, .inl (M 27))
  | 186 => .inl (0, 64, .inl (M 30))
  | 187 => .inl (0, 12, .inl (M 32))
  | 188 => .inl (0, 12, .inl (M 33))
  | 189 => .inl (0, 12, .inl (M 34))
  | 190 => .inl (0, 12, .inl (M 35))
  | 191 => .inl (0, 32, .inl (M 43))
  | _ => jv_no
def en (I : Nat → Nat → Int32) (P : Nat → Nat → Option Nat) (M : Nat → Nat → Int32) (a : Nat) : jv_C :=
  if a < 7 then en1 I P a else if a < 37 then cReq I P (a - 7) else if a < 41 then en2 I P a else if a < 113 then enK I ((a - 41) / 18) ((a - 41) % 18)
  else if a < 145 then cGr I (a - 113) else if a < 157 then cOut I (a - 145) else en3 M a
def he (I : Nat → Nat → Int32) (P : Nat → Nat → Option Nat) (M : Nat → Nat → Int32) : jv_H := (191, 2796, en I P M)
/-! what stands at a place -/
theorem en_req {I : Nat → Nat → Int32} {P : Nat → Nat → Option Nat} {M : Nat → Nat → Int32} {i : Nat} (h : i < 30) : en I P M (7 + i) = cReq I P i := by
  unfold en
  rw [if_neg (by omega), if_pos (by omega), Nat.add_sub_cancel_left]
theorem en_gr {I : Nat → Nat → Int32} {P : Nat → Nat → Option Nat} {M : Nat → Nat → Int32} {g : Nat} (h : g < 32) : en I P M (113 + g) = cGr I g := by
  unfold en
  rw [if_neg (by omega), if_neg (by omega), if_neg (by omega), if_neg (by omega), if_pos (by omega), Nat.add_sub_cancel_left]
theorem en_out {I : Nat → Nat → Int32} {P : Nat → Nat → Option Nat} {M : Nat → Nat → Int32} {c : Nat} (h : c < 12) : en I P M (145 + c) = cOut I c := by
  unfold en
  rw [if_neg (by omega), if_neg (by omega), if_neg (by omega), if_neg (by omega), if_neg (by omega), if_pos (by omega), Nat.add_sub_cancel_left]
theorem en_K {I : Nat → Nat → Int32} {P : Nat → Nat → Option Nat} {M : Nat → Nat → Int32} {k j : Nat} (hk : k < 4) (hj : j < 18) : en I P M (41 + 18 * k + j) = enK I k j := by
  unfold en
  rw [if_neg (by omega), if_neg (by omega), if_neg (by omega), if_pos (by omega), show (41 + 18 * k + j - 41) / 18 = k by omega, show (41 + 18 * k + j - 41) % 18 = j by omega]
theorem en_kd {I : Nat → Nat → Int32} {P : Nat → Nat → Option Nat} {M : Nat → Nat → Int32} {k : Nat} (hk : k < 4) : en I P M (41 + 18 * k) = cKd I k := en_K (j := 0) hk (by omega)
theorem en_ma {I : Nat → Nat → Int32} {P : Nat → Nat → Option Nat} {M : Nat → Nat → Int32} {k : Nat} (hk : k < 4) : en I P M (42 + 18 * k) = .inl (6, 4, .inr (fun m => if m < 4 then some (43 + 18 * k + 4 * m) else none)) := by
  rw [show 42 + 18 * k = 41 + 18 * k + 1 by omega, en_K hk (by omega)]; rfl
theorem en_mt {I : Nat → Nat → Int32} {P : Nat → Nat → Option Nat} {M : Nat → Nat → Int32} {k m : Nat} (hk : k < 4) (hm : m < 4) : en I P M (43 + 18 * k + 4 * m) = cMt I k m := by
  rw [show 43 + 18 * k + 4 * m = 41 + 18 * k + (2 + 4 * m) by omega, en_K hk (by omega)]
  unfold enK
  rw [if_neg (by omega), if_neg (by omega), if_pos (by omega), show (2 + 4 * m - 2) / 4 = m by omega]
theorem en_ops {I : Nat → Nat → Int32} {P : Nat → Nat → Option Nat} {M : Nat → Nat → Int32} {k m : Nat} (hk : k < 4) (hm : m < 4) : en I P M (44 + 18 * k + 4 * m) = .inl (0, 8, .inl (fun i => if i < 8 then I 15 (8 * (4 * k + m) + i) else 0)) := by
  rw [show 44 + 18 * k + 4 * m = 41 + 18 * k + (3 + 4 * m) by omega, en_K hk (by omega)]
  unfold enK
  rw [if_neg (by omega), if_neg (by omega), if_neg (by omega), if_pos (by omega), show (3 + 4 * m - 2) / 4 = m by omega]
theorem en_as {I : Nat → Nat → Int32} {P : Nat → Nat → Option Nat} {M : Nat → Nat → Int32} {k m : Nat} (hk : k < 4) (hm : m < 4) : en I P M (45 + 18 * k + 4 * m) = .inl (0, 8, .inl (fun i => if i < 8 then I 16 (8 * (4 * k + m) + i) else 0)) := by
  rw [show 45 + 18 * k + 4 * m = 41 + 18 * k + (4 + 4 * m) by omega, en_K hk (by omega)]
  unfold enK
  rw [if_neg (by omega), if_neg (by omega), if_neg (by omega), if_neg (by omega), if_pos (by omega), show (4 + 4 * m - 2) / 4 = m by omega]
theorem en_bs {I : Nat → Nat → Int32} {P : Nat → Nat → Option Nat} {M : Nat → Nat → Int32} {k m : Nat} (hk : k < 4) (hm : m < 4) : en I P M (46 + 18 * k + 4 * m) = .inl (0, 8, .inl (fun i => if i < 8 then I 17 (8 * (4 * k + m) + i) else 0)) := by
  rw [show 46 + 18 * k + 4 * m = 41 + 18 * k + (5 + 4 * m) by omega, en_K hk (by omega)]
  unfold enK
  rw [if_neg (by omega), if_neg (by omega), if_neg (by omega), if_neg (by omega), if_neg (by omega), show (5 + 4 * m - 2) / 4 = m by omega]
/-! a number that changes, changes one place -/
theorem en_w1 {I : Nat → Nat → Int32} {P : Nat → Nat → Option Nat} {M : Nat → Nat → Int32} {k : Nat} {v : Int32} {a : Nat} (h : a ≠ 1) : en (u2 I 1 k v) P M a = en I P M a := by
  unfold en
  split
  · unfold en1; split
    · exact absurd rfl h
    all_goals simp [cReqs, u2_ne]
  split
  · unfold cReq; simp [u2_ne]
  split
  · unfold en2 cLine; simp [u2_ne]
  split
  · unfold enK cKd cMt; simp [u2_ne]
  split
  · unfold cGr; simp [u2_ne]
  split
  · unfold cOut; simp [u2_ne]
  rfl
theorem en_w2 {I : Nat → Nat → Int32} {P : Nat → Nat → Option Nat} {M : Nat → Nat → Int32} {k : Nat} {v : Int32} {a : Nat} (h : a ≠ 1) : en (u2 I 2 k v) P M a = en I P M a := by
  unfold en
  split
  · unfold en1; split
    · exact absurd rfl h
    all_goals simp [cReqs, u2_ne]
  split
  · unfold cReq; simp [u2_ne]
  split
  · unfold en2 cLine; simp [u2_ne]
  split
  · unfold enK cKd cMt; simp [u2_ne]
  split
  · unfold cGr; simp [u2_ne]
  split
  · unfold cOut; simp [u2_ne]
  rfl
theorem en_w3 {I : Nat → Nat → Int32} {P : Nat → Nat → Option Nat} {M : Nat → Nat → Int32} {k : Nat} {v : Int32} {a : Nat} (h : a ≠ 1) : en (u2 I 3 k v) P M a = en I P M a := by
  unfold en
  split
  · unfold en1; split
    · exact absurd rfl h
    all_goals simp [cReqs, u2_ne]
  split
  · unfold cReq; simp [u2_ne]
  split
  · unfold en2 cLine; simp [u2_ne]
  split
  · unfold enK cKd cMt; simp [u2_ne]
  split
  · unfold cGr; simp [u2_ne]
  split
  · unfold cOut; simp [u2_ne]
  rfl
theorem en_w4 {I : Nat → Nat → Int32} {P : Nat → Nat → Option Nat} {M : Nat → Nat → Int32} {k : Nat} {v : Int32} {a : Nat} (h : a ≠ 1) : en (u2 I 4 k v) P M a = en I P M a := by
  unfold en
  split
  · unfold en1; split
    · exact absurd rfl h
    all_goals simp [cReqs, u2_ne]
  split
  · unfold cReq; simp [u2_ne]
  split
  · unfold en2 cLine; simp [u2_ne]
  split
  · unfold enK cKd cMt; simp [u2_ne]
  split
  · unfold cGr; simp [u2_ne]
  split
  · unfold cOut; simp [u2_ne]
  rfl
theorem en_w5 {I : Nat → Nat → Int32} {P : Nat → Nat → Option Nat} {M : Nat → Nat → Int32} {k : Nat} {v : Int32} {a : Nat} (h : a ≠ 1) : en (u2 I 5 k v) P M a = en I P M a := by
  unfold en
  split
  · unfold en1; split
    · exact absurd rfl h
    all_goals simp [cReqs, u2_ne]
  split
  · unfold cReq; simp [u2_ne]
  split
  · unfold en2 cLine; simp [u2_ne]
  split
  · unfold enK cKd cMt; simp [u2_ne]
  split
  · unfold cGr; simp [u2_ne]
  split
  · unfold cOut; simp [u2_ne]
  rfl
theorem en_w6 {I : Nat → Nat → Int32} {P : Nat → Nat → Option Nat} {M : Nat → Nat → Int32} {k : Nat} {v : Int32} {a : Nat} (h : a ≠ 1) : en (u2 I 6 k v) P M a = en I P M a := by
  unfold en
  split
  · unfold en1; split
    · exact absurd rfl h
    all_goals simp [cReqs, u2_ne]
  split
  · unfold cReq; simp [u2_ne]
  split
  · unfold en2 cLine; simp [u2_ne]
  split
  · unfold enK cKd cMt; simp [u2_ne]
  split
  · unfold cGr; simp [u2_ne]
  split
  · unfold cOut; simp [u2_ne]
  rfl
theorem en_w7 {I : Nat → Nat → Int32} {P : Nat → Nat → Option Nat} {M : Nat → Nat → Int32} {k : Nat} {v : Int32} {a : Nat} (h : a ≠ 1) : en (u2 I 7 k v) P M a = en I P M a := by
  unfold en
  split
  · unfold en1; split
    · exact absurd rfl h
    all_goals simp [cReqs, u2_ne]
  split
  · unfold cReq; simp [u2_ne]
  split
  · unfold en2 cLine; simp [u2_ne]
  split
  · unfold enK cKd cMt; simp [u2_ne]
  split
  · unfold cGr; simp [u2_ne]
  split
  · unfold cOut; simp [u2_ne]
  rfl
theorem en_w10 {I : Nat → Nat → Int32} {P : Nat → Nat → Option Nat} {M : Nat → Nat → Int32} {k : Nat} {v : Int32} {a : Nat} (h : a ≠ (41 + 18 * k)) : en (u2 I 10 k v) P M a = en I P M a := by
  unfold en
  split
  · unfold en1 cHost cReqs; simp [u2_ne]
  split
  · unfold cReq; simp [u2_ne]
  split
  · unfold en2 cLine; simp [u2_ne]
  split
  · unfold enK cMt
    by_cases h0 : (a - 41) % 18 = 0
    · have hk : (a - 41) / 18 ≠ k := by omega
      simp [h0, cKd, u2_ne, u2_at, hk]
    · simp [h0, u2_ne]
  split
  · unfold cGr; simp [u2_ne]
  split
  · unfold cOut; simp [u2_ne]
  rfl
theorem en_w11 {I : Nat → Nat → Int32} {P : Nat → Nat → Option Nat} {M : Nat → Nat → Int32} {k : Nat} {v : Int32} {a : Nat} (h : a ≠ (41 + 18 * k)) : en (u2 I 11 k v) P M a = en I P M a := by
  unfold en
  split
  · unfold en1 cHost cReqs; simp [u2_ne]
  split
  · unfold cReq; simp [u2_ne]
  split
  · unfold en2 cLine; simp [u2_ne]
  split
  · unfold enK cMt
    by_cases h0 : (a - 41) % 18 = 0
    · have hk : (a - 41) / 18 ≠ k := by omega
      simp [h0, cKd, u2_ne, u2_at, hk]
    · simp [h0, u2_ne]
  split
  · unfold cGr; simp [u2_ne]
  split
  · unfold cOut; simp [u2_ne]
  rfl
theorem en_w30 {I : Nat → Nat → Int32} {P : Nat → Nat → Option Nat} {M : Nat → Nat → Int32} {k : Nat} {v : Int32} {a : Nat} (h : a ≠ (113 + k)) : en (u2 I 30 k v) P M a = en I P M a := by
  unfold en
  split
  · unfold en1 cHost cReqs; simp [u2_ne]
  split
  · unfold cReq; simp [u2_ne]
  split
  · unfold en2 cLine; simp [u2_ne]
  split
  · unfold enK cKd cMt; simp [u2_ne]
  split
  · have hk : a - 113 ≠ k := by omega
    unfold cGr; simp [u2_ne, u2_at, hk]
  split
  · unfold cOut; simp [u2_ne]
  rfl
theorem en_w31 {I : Nat → Nat → Int32} {P : Nat → Nat → Option Nat} {M : Nat → Nat → Int32} {k : Nat} {v : Int32} {a : Nat} (h : a ≠ (113 + k)) : en (u2 I 31 k v) P M a = en I P M a := by
  unfold en
  split
  · unfold en1 cHost cReqs; simp [u2_ne]
  split
  · unfold cReq; simp [u2_ne]
  split
  · unfold en2 cLine; simp [u2_ne]
  split
  · unfold enK cKd cMt; simp [u2_ne]
  split
  · have hk : a - 113 ≠ k := by omega
    unfold cGr; simp [u2_ne, u2_at, hk]
  split
  · unfold cOut; simp [u2_ne]
  rfl
theorem en_w32 {I : Nat → Nat → Int32} {P : Nat → Nat → Option Nat} {M : Nat → Nat → Int32} {k : Nat} {v : Int32} {a : Nat} (h : a ≠ (113 + k)) : en (u2 I 32 k v) P M a = en I P M a := by
  unfold en
  split
  · unfold en1 cHost cReqs; simp [u2_ne]
  split
  · unfold cReq; simp [u2_ne]
  split
  · unfold en2 cLine; simp [u2_ne]
  split
  · unfold enK cKd cMt; simp [u2_ne]
  split
  · have hk : a - 113 ≠ k := by omega
    unfold cGr; simp [u2_ne, u2_at, hk]
  split
  · unfold cOut; simp [u2_ne]
  rfl
theorem en_w33 {I : Nat → Nat → Int32} {P : Nat → Nat → Option Nat} {M : Nat → Nat → Int32} {k : Nat} {v : Int32} {a : Nat} (h : a ≠ (113 + k)) : en (u2 I 33 k v) P M a = en I P M a := by
  unfold en
  split
  · unfold en1 cHost cReqs; simp [u2_ne]
  split
  · unfold cReq; simp [u2_ne]
  split
  · unfold en2 cLine; simp [u2_ne]
  split
  · unfold enK cKd cMt; simp [u2_ne]
  split
  · have hk : a - 113 ≠ k := by omega
    unfold cGr; simp [u2_ne, u2_at, hk]
  split
  · unfold cOut; simp [u2_ne]
  rfl
theorem en_w34 {I : Nat → Nat → Int32} {P : Nat → Nat → Option Nat} {M : Nat → Nat → Int32} {k : Nat} {v : Int32} {a : Nat} (h : a ≠ (113 + k)) : en (u2 I 34 k v) P M a = en I P M a := by
  unfold en
  split
  · unfold en1 cHost cReqs; simp [u2_ne]
  split
  · unfold cReq; simp [u2_ne]
  split
  · unfold en2 cLine; simp [u2_ne]
  split
  · unfold enK cKd cMt; simp [u2_ne]
  split
  · have hk : a - 113 ≠ k := by omega
    unfold cGr; simp [u2_ne, u2_at, hk]
  split
  · unfold cOut; simp [u2_ne]
  rfl
theorem en_w35 {I : Nat → Nat → Int32} {P : Nat → Nat → Option Nat} {M : Nat → Nat → Int32} {k : Nat} {v : Int32} {a : Nat} (h : a ≠ (113 + k)) : en (u2 I 35 k v) P M a = en I P M a := by
  unfold en
  split
  · unfold en1 cHost cReqs; simp [u2_ne]
  split
  · unfold cReq; simp [u2_ne]
  split
  · unfold en2 cLine; simp [u2_ne]
  split
  · unfold enK cKd cMt; simp [u2_ne]
  split
  · have hk : a - 113 ≠ k := by omega
    unfold cGr; simp [u2_ne, u2_at, hk]
  split
  · unfold cOut; simp [u2_ne]
  rfl
theorem en_w36 {I : Nat → Nat → Int32} {P : Nat → Nat → Option Nat} {M : Nat → Nat → Int32} {k : Nat} {v : Int32} {a : Nat} (h : a ≠ (113 + k)) : en (u2 I 36 k v) P M a = en I P M a := by
  unfold en
  split
  · unfold en1 cHost cReqs; simp [u2_ne]
  split
  · unfold cReq; simp [u2_ne]
  split
  · unfold en2 cLine; simp [u2_ne]
  split
  · unfold enK cKd cMt; simp [u2_ne]
  split
  · have hk : a - 113 ≠ k := by omega
    unfold cGr; simp [u2_ne, u2_at, hk]
  split
  · unfold cOut; simp [u2_ne]
  rfl
theorem en_w37 {I : Nat → Nat → Int32} {P : Nat → Nat → Option Nat} {M : Nat → Nat → Int32} {k : Nat} {v : Int32} {a : Nat} (h : a ≠ (113 + k)) : en (u2 I 37 k v) P M a = en I P M a := by
  unfold en
  split
  · unfold en1 cHost cReqs; simp [u2_ne]
  split
  · unfold cReq; simp [u2_ne]
  split
  · unfold en2 cLine; simp [u2_ne]
  split
  · unfold enK cKd cMt; simp [u2_ne]
  split
  · have hk : a - 113 ≠ k := by omega
    unfold cGr; simp [u2_ne, u2_at, hk]
  split
  · unfold cOut; simp [u2_ne]
  rfl
theorem en_w38 {I : Nat → Nat → Int32} {P : Nat → Nat → Option Nat} {M : Nat → Nat → Int32} {k : Nat} {v : Int32} {a : Nat} (h : a ≠ (113 + k)) : en (u2 I 38 k v) P M a = en I P M a := by
  unfold en
  split
  · unfold en1 cHost cReqs; simp [u2_ne]
  split
  · unfold cReq; simp [u2_ne]
  split
  · unfold en2 cLine; simp [u2_ne]
  split
  · unfold enK cKd cMt; simp [u2_ne]
  split
  · have hk : a - 113 ≠ k := by omega
    unfold cGr; simp [u2_ne, u2_at, hk]
  split
  · unfold cOut; simp [u2_ne]
  rfl
theorem en_w40 {I : Nat → Nat → Int32} {P : Nat → Nat → Option Nat} {M : Nat → Nat → Int32} {k : Nat} {v : Int32} {a : Nat} (h : a ≠ (7 + k)) : en (u2 I 40 k v) P M a = en I P M a := by
  unfold en
  split
  · unfold en1 cHost cReqs; simp [u2_ne]
  split
  · have hk : a - 7 ≠ k := by omega
    unfold cReq; simp [u2_ne, u2_at, hk]
  split
  · unfold en2 cLine; simp [u2_ne]
  split
  · unfold enK cKd cMt; simp [u2_ne]
  split
  · unfold cGr; simp [u2_ne]
  split
  · unfold cOut; simp [u2_ne]
  rfl
theorem en_w41 {I : Nat → Nat → Int32} {P : Nat → Nat → Option Nat} {M : Nat → Nat → Int32} {k : Nat} {v : Int32} {a : Nat} (h : a ≠ (7 + k)) : en (u2 I 41 k v) P M a = en I P M a := by
  unfold en
  split
  · unfold en1 cHost cReqs; simp [u2_ne]
  split
  · have hk : a - 7 ≠ k := by omega
    unfold cReq; simp [u2_ne, u2_at, hk]
  split
  · unfold en2 cLine; simp [u2_ne]
  split
  · unfold enK cKd cMt; simp [u2_ne]
  split
  · unfold cGr; simp [u2_ne]
  split
  · unfold cOut; simp [u2_ne]
  rfl
theorem en_w42 {I : Nat → Nat → Int32} {P : Nat → Nat → Option Nat} {M : Nat → Nat → Int32} {k : Nat} {v : Int32} {a : Nat} (h : a ≠ (7 + k)) : en (u2 I 42 k v) P M a = en I P M a := by
  unfold en
  split
  · unfold en1 cHost cReqs; simp [u2_ne]
  split
  · have hk : a - 7 ≠ k := by omega
    unfold cReq; simp [u2_ne, u2_at, hk]
  split
  · unfold en2 cLine; simp [u2_ne]
  split
  · unfold enK cKd cMt; simp [u2_ne]
  split
  · unfold cGr; simp [u2_ne]
  split
  · unfold cOut; simp [u2_ne]
  rfl
theorem en_w43 {I : Nat → Nat → Int32} {P : Nat → Nat → Option Nat} {M : Nat → Nat → Int32} {k : Nat} {v : Int32} {a : Nat} (h : a ≠ (7 + k)) : en (u2 I 43 k v) P M a = en I P M a := by
  unfold en
  split
  · unfold en1 cHost cReqs; simp [u2_ne]
  split
  · have hk : a - 7 ≠ k := by omega
    unfold cReq; simp [u2_ne, u2_at, hk]
  split
  · unfold en2 cLine; simp [u2_ne]
  split
  · unfold enK cKd cMt; simp [u2_ne]
  split
  · unfold cGr; simp [u2_ne]
  split
  · unfold cOut; simp [u2_ne]
  rfl
theorem en_w44 {I : Nat → Nat → Int32} {P : Nat → Nat → Option Nat} {M : Nat → Nat → Int32} {k : Nat} {v : Int32} {a : Nat} (h : a ≠ (7 + k)) : en (u2 I 44 k v) P M a = en I P M a := by
  unfold en
  split
  · unfold en1 cHost cReqs; simp [u2_ne]
  split
  · have hk : a - 7 ≠ k := by omega
    unfold cReq; simp [u2_ne, u2_at, hk]
  split
  · unfold en2 cLine; simp [u2_ne]
  split
  · unfold enK cKd cMt; simp [u2_ne]
  split
  · unfold cGr; simp [u2_ne]
  split
  · unfold cOut; simp [u2_ne]
  rfl
theorem en_w45 {I : Nat → Nat → Int32} {P : Nat → Nat → Option Nat} {M : Nat → Nat → Int32} {k : Nat} {v : Int32} {a : Nat} (h : a ≠ (7 + k)) : en (u2 I 45 k v) P M a = en I P M a := by
  unfold en
  split
  · unfold en1 cHost cReqs; simp [u2_ne]
  split
  · have hk : a - 7 ≠ k := by omega
    unfold cReq; simp [u2_ne, u2_at, hk]
  split
  · unfold en2 cLine; simp [u2_ne]
  split
  · unfold enK cKd cMt; simp [u2_ne]
  split
  · unfold cGr; simp [u2_ne]
  split
  · unfold cOut; simp [u2_ne]
  rfl
theorem en_w46 {I : Nat → Nat → Int32} {P : Nat → Nat → Option Nat} {M : Nat → Nat → Int32} {k : Nat} {v : Int32} {a : Nat} (h : a ≠ (7 + k)) : en (u2 I 46 k v) P M a = en I P M a := by
  unfold en
  split
  · unfold en1 cHost cReqs; simp [u2_ne]
  split
  · have hk : a - 7 ≠ k := by omega
    unfold cReq; simp [u2_ne, u2_at, hk]
  split
  · unfold en2 cLine; simp [u2_ne]
  split
  · unfold enK cKd cMt; simp [u2_ne]
  split
  · unfold cGr; simp [u2_ne]
  split
  · unfold cOut; simp [u2_ne]
  rfl
theorem en_w47 {I : Nat → Nat → Int32} {P : Nat → Nat → Option Nat} {M : Nat → Nat → Int32} {k : Nat} {v : Int32} {a : Nat} (h : a ≠ (7 + k)) : en (u2 I 47 k v) P M a = en I P M a := by
  unfold en
  split
  · unfold en1 cHost cReqs; simp [u2_ne]
  split
  · have hk : a - 7 ≠ k := by omega
    unfold cReq; simp [u2_ne, u2_at, hk]
  split
  · unfold en2 cLine; simp [u2_ne]
  split
  · unfold enK cKd cMt; simp [u2_ne]
  split
  · unfold cGr; simp [u2_ne]
  split
  · unfold cOut; simp [u2_ne]
  rfl
theorem en_w48 {I : Nat → Nat → Int32} {P : Nat → Nat → Option Nat} {M : Nat → Nat → Int32} {k : Nat} {v : Int32} {a : Nat} (h : a ≠ (7 + k)) : en (u2 I 48 k v) P M a = en I P M a := by
  unfold en
  split
  · unfold en1 cHost cReqs; simp [u2_ne]
  split
  · have hk : a - 7 ≠ k := by omega
    unfold cReq; simp [u2_ne, u2_at, hk]
  split
  · unfold en2 cLine; simp [u2_ne]
  split
  · unfold enK cKd cMt; simp [u2_ne]
  split
  · unfold cGr; simp [u2_ne]
  split
  · unfold cOut; simp [u2_ne]
  rfl
theorem en_w50 {I : Nat → Nat → Int32} {P : Nat → Nat → Option Nat} {M : Nat → Nat → Int32} {k : Nat} {v : Int32} {a : Nat} (h : a ≠ 5) : en (u2 I 50 k v) P M a = en I P M a := by
  unfold en
  split
  · unfold en1; split
    · simp [cHost, u2_ne]
    · rfl
    · rfl
    · rfl
    · exact absurd rfl h
    all_goals rfl
  split
  · unfold cReq; simp [u2_ne]
  split
  · unfold en2 cLine; simp [u2_ne]
  split
  · unfold enK cKd cMt; simp [u2_ne]
  split
  · unfold cGr; simp [u2_ne]
  split
  · unfold cOut; simp [u2_ne]
  rfl
theorem en_w51 {I : Nat → Nat → Int32} {P : Nat → Nat → Option Nat} {M : Nat → Nat → Int32} {k : Nat} {v : Int32} {a : Nat} (h : a ≠ 5) : en (u2 I 51 k v) P M a = en I P M a := by
  unfold en
  split
  · unfold en1; split
    · simp [cHost, u2_ne]
    · rfl
    · rfl
    · rfl
    · exact absurd rfl h
    all_goals rfl
  split
  · unfold cReq; simp [u2_ne]
  split
  · unfold en2 cLine; simp [u2_ne]
  split
  · unfold enK cKd cMt; simp [u2_ne]
  split
  · unfold cGr; simp [u2_ne]
  split
  · unfold cOut; simp [u2_ne]
  rfl
theorem en_w52 {I : Nat → Nat → Int32} {P : Nat → Nat → Option Nat} {M : Nat → Nat → Int32} {k : Nat} {v : Int32} {a : Nat} (h : a ≠ 37) : en (u2 I 52 k v) P M a = en I P M a := by
  unfold en
  split
  · unfold en1 cHost cReqs; simp [u2_ne]
  split
  · unfold cReq; simp [u2_ne]
  split
  · unfold en2; split
    · exact absurd rfl h
    all_goals simp [u2_ne]
  split
  · unfold enK cKd cMt; simp [u2_ne]
  split
  · unfold cGr; simp [u2_ne]
  split
  · unfold cOut; simp [u2_ne]
  rfl
theorem en_w53 {I : Nat → Nat → Int32} {P : Nat → Nat → Option Nat} {M : Nat → Nat → Int32} {k : Nat} {v : Int32} {a : Nat} (h : a ≠ 37) : en (u2 I 53 k v) P M a = en I P M a := by
  unfold en
  split
  · unfold en1 cHost cReqs; simp [u2_ne]
  split
  · unfold cReq; simp [u2_ne]
  split
  · unfold en2; split
    · exact absurd rfl h
    all_goals simp [u2_ne]
  split
  · unfold enK cKd cMt; simp [u2_ne]
  split
  · unfold cGr; simp [u2_ne]
  split
  · unfold cOut; simp [u2_ne]
  rfl
theorem en_w54 {I : Nat → Nat → Int32} {P : Nat → Nat → Option Nat} {M : Nat → Nat → Int32} {k : Nat} {v : Int32} {a : Nat} (h : a ≠ 38) : en (u2 I 54 k v) P M a = en I P M a := by
  unfold en
  split
  · unfold en1 cHost cReqs; simp [u2_ne]
  split
  · unfold cReq; simp [u2_ne]
  split
  · unfold en2; split
    · simp [cLine, u2_ne]
    · exact absurd rfl h
    all_goals rfl
  split
  · unfold enK cKd cMt; simp [u2_ne]
  split
  · unfold cGr; simp [u2_ne]
  split
  · unfold cOut; simp [u2_ne]
  rfl
theorem en_w60 {I : Nat → Nat → Int32} {P : Nat → Nat → Option Nat} {M : Nat → Nat → Int32} {k : Nat} {v : Int32} {a : Nat} (h : a ≠ (145 + k)) : en (u2 I 60 k v) P M a = en I P M a := by
  unfold en
  split
  · unfold en1 cHost cReqs; simp [u2_ne]
  split
  · unfold cReq; simp [u2_ne]
  split
  · unfold en2 cLine; simp [u2_ne]
  split
  · unfold enK cKd cMt; simp [u2_ne]
  split
  · unfold cGr; simp [u2_ne]
  split
  · have hk : a - 145 ≠ k := by omega
    unfold cOut; simp [u2_ne, u2_at, hk]
  rfl
theorem en_w61 {I : Nat → Nat → Int32} {P : Nat → Nat → Option Nat} {M : Nat → Nat → Int32} {k : Nat} {v : Int32} {a : Nat} (h : a ≠ (145 + k)) : en (u2 I 61 k v) P M a = en I P M a := by
  unfold en
  split
  · unfold en1 cHost cReqs; simp [u2_ne]
  split
  · unfold cReq; simp [u2_ne]
  split
  · unfold en2 cLine; simp [u2_ne]
  split
  · unfold enK cKd cMt; simp [u2_ne]
  split
  · unfold cGr; simp [u2_ne]
  split
  · have hk : a - 145 ≠ k := by omega
    unfold cOut; simp [u2_ne, u2_at, hk]
  rfl
theorem en_w62 {I : Nat → Nat → Int32} {P : Nat → Nat → Option Nat} {M : Nat → Nat → Int32} {k : Nat} {v : Int32} {a : Nat} (h : a ≠ (145 + k)) : en (u2 I 62 k v) P M a = en I P M a := by
  unfold en
  split
  · unfold en1 cHost cReqs; simp [u2_ne]
  split
  · unfold cReq; simp [u2_ne]
  split
  · unfold en2 cLine; simp [u2_ne]
  split
  · unfold enK cKd cMt; simp [u2_ne]
  split
  · unfold cGr; simp [u2_ne]
  split
  · have hk : a - 145 ≠ k := by omega
    unfold cOut; simp [u2_ne, u2_at, hk]
  rfl
theorem en_w63 {I : Nat → Nat → Int32} {P : Nat → Nat → Option Nat} {M : Nat → Nat → Int32} {k : Nat} {v : Int32} {a : Nat} (h : a ≠ (145 + k)) : en (u2 I 63 k v) P M a = en I P M a := by
  unfold en
  split
  · unfold en1 cHost cReqs; simp [u2_ne]
  split
  · unfold cReq; simp [u2_ne]
  split
  · unfold en2 cLine; simp [u2_ne]
  split
  · unfold enK cKd cMt; simp [u2_ne]
  split
  · unfold cGr; simp [u2_ne]
  split
  · have hk : a - 145 ≠ k := by omega
    unfold cOut; simp [u2_ne, u2_at, hk]
  rfl
theorem en_w12 {I : Nat → Nat → Int32} {P : Nat → Nat → Option Nat} {M : Nat → Nat → Int32} {k m : Nat} {v : Int32} {a : Nat} (hm : m < 4) (h : a ≠ 43 + 18 * k + 4 * m) : en (u2 I 12 (4 * k + m) v) P M a = en I P M a := by
  unfold en
  split
  · unfold en1 cHost cReqs; simp [u2_ne]
  split
  · unfold cReq; simp [u2_ne]
  split
  · unfold en2 cLine; simp [u2_ne]
  split
  · unfold enK cKd
    by_cases h0 : (a - 41) % 18 = 0
    · simp [h0, u2_ne]
    by_cases h1 : (a - 41) % 18 = 1
    · simp [h1]
    by_cases h2 : ((a - 41) % 18 - 2) % 4 = 0
    · have hk : ¬ 4 * ((a - 41) / 18) + ((a - 41) % 18 - 2) / 4 = 4 * k + m := by omega
      simp [h0, h1, h2, cMt, u2_ne, u2_at, hk]
    · simp [h0, h1, h2, u2_ne]
  split
  · unfold cGr; simp [u2_ne]
  split
  · unfold cOut; simp [u2_ne]
  rfl
theorem en_w13 {I : Nat → Nat → Int32} {P : Nat → Nat → Option Nat} {M : Nat → Nat → Int32} {k m : Nat} {v : Int32} {a : Nat} (hm : m < 4) (h : a ≠ 43 + 18 * k + 4 * m) : en (u2 I 13 (4 * k + m) v) P M a = en I P M a := by
  unfold en
  split
  · unfold en1 cHost cReqs; simp [u2_ne]
  split
  · unfold cReq; simp [u2_ne]
  split
  · unfold en2 cLine; simp [u2_ne]
  split
  · unfold enK cKd
    by_cases h0 : (a - 41) % 18 = 0
    · simp [h0, u2_ne]
    by_cases h1 : (a - 41) % 18 = 1
    · simp [h1]
    by_cases h2 : ((a - 41) % 18 - 2) % 4 = 0
    · have hk : ¬ 4 * ((a - 41) / 18) + ((a - 41) % 18 - 2) / 4 = 4 * k + m := by omega
      simp [h0, h1, h2, cMt, u2_ne, u2_at, hk]
    · simp [h0, h1, h2, u2_ne]
  split
  · unfold cGr; simp [u2_ne]
  split
  · unfold cOut; simp [u2_ne]
  rfl
theorem en_w14 {I : Nat → Nat → Int32} {P : Nat → Nat → Option Nat} {M : Nat → Nat → Int32} {k m : Nat} {v : Int32} {a : Nat} (hm : m < 4) (h : a ≠ 43 + 18 * k + 4 * m) : en (u2 I 14 (4 * k + m) v) P M a = en I P M a := by
  unfold en
  split
  · unfold en1 cHost cReqs; simp [u2_ne]
  split
  · unfold cReq; simp [u2_ne]
  split
  · unfold en2 cLine; simp [u2_ne]
  split
  · unfold enK cKd
    by_cases h0 : (a - 41) % 18 = 0
    · simp [h0, u2_ne]
    by_cases h1 : (a - 41) % 18 = 1
    · simp [h1]
    by_cases h2 : ((a - 41) % 18 - 2) % 4 = 0
    · have hk : ¬ 4 * ((a - 41) / 18) + ((a - 41) % 18 - 2) / 4 = 4 * k + m := by omega
      simp [h0, h1, h2, cMt, u2_ne, u2_at, hk]
    · simp [h0, h1, h2, u2_ne]
  split
  · unfold cGr; simp [u2_ne]
  split
  · unfold cOut; simp [u2_ne]
  rfl
theorem en_w15 {I : Nat → Nat → Int32} {P : Nat → Nat → Option Nat} {M : Nat → Nat → Int32} {k m j : Nat} {v : Int32} {a : Nat} (hm : m < 4) (hj : j < 8) (h : a ≠ 44 + 18 * k + 4 * m) : en (u2 I 15 (8 * (4 * k + m) + j) v) P M a = en I P M a := by
  unfold en
  split
  · unfold en1 cHost cReqs; simp [u2_ne]
  split
  · unfold cReq; simp [u2_ne]
  split
  · unfold en2 cLine; simp [u2_ne]
  split
  · unfold enK cKd cMt
    by_cases h0 : (a - 41) % 18 = 0
    · simp [h0, u2_ne]
    by_cases h1 : (a - 41) % 18 = 1
    · simp [h1]
    have hr : ((a - 41) % 18 - 2) % 4 = 0 ∨ ((a - 41) % 18 - 2) % 4 = 1 ∨ ((a - 41) % 18 - 2) % 4 = 2 ∨ ((a - 41) % 18 - 2) % 4 = 3 := by omega
    have hk : ((a - 41) % 18 - 2) % 4 = 1 → ¬ 4 * ((a - 41) / 18) + ((a - 41) % 18 - 2) / 4 = 4 * k + m := by intro z; omega
    have hf : ((a - 41) % 18 - 2) % 4 = 1 → (fun i => if i < 8 then u2 I 15 (8 * (4 * k + m) + j) v 15 (8 * (4 * ((a - 41) / 18) + ((a - 41) % 18 - 2) / 4) + i) else 0) = (fun i => if i < 8 then I 15 (8 * (4 * ((a - 41) / 18) + ((a - 41) % 18 - 2) / 4) + i) else 0) := by
      intro z
      have hk := hk z
      funext i
      by_cases hi : i < 8
      · rw [if_pos hi, if_pos hi, u2_oth (by omega)]
      · rw [if_neg hi, if_neg hi]
    rcases hr with z | z | z | z <;> first
      | (have hf := hf z; simp [h0, h1, z, u2_ne, hf])
      | (simp [h0, h1, z, u2_ne])
  split
  · unfold cGr; simp [u2_ne]
  split
  · unfold cOut; simp [u2_ne]
  rfl
theorem en_w16 {I : Nat → Nat → Int32} {P : Nat → Nat → Option Nat} {M : Nat → Nat → Int32} {k m j : Nat} {v : Int32} {a : Nat} (hm : m < 4) (hj : j < 8) (h : a ≠ 45 + 18 * k + 4 * m) : en (u2 I 16 (8 * (4 * k + m) + j) v) P M a = en I P M a := by
  unfold en
  split
  · unfold en1 cHost cReqs; simp [u2_ne]
  split
  · unfold cReq; simp [u2_ne]
  split
  · unfold en2 cLine; simp [u2_ne]
  split
  · unfold enK cKd cMt
    by_cases h0 : (a - 41) % 18 = 0
    · simp [h0, u2_ne]
    by_cases h1 : (a - 41) % 18 = 1
    · simp [h1]
    have hr : ((a - 41) % 18 - 2) % 4 = 0 ∨ ((a - 41) % 18 - 2) % 4 = 1 ∨ ((a - 41) % 18 - 2) % 4 = 2 ∨ ((a - 41) % 18 - 2) % 4 = 3 := by omega
    have hk : ((a - 41) % 18 - 2) % 4 = 2 → ¬ 4 * ((a - 41) / 18) + ((a - 41) % 18 - 2) / 4 = 4 * k + m := by intro z; omega
    have hf : ((a - 41) % 18 - 2) % 4 = 2 → (fun i => if i < 8 then u2 I 16 (8 * (4 * k + m) + j) v 16 (8 * (4 * ((a - 41) / 18) + ((a - 41) % 18 - 2) / 4) + i) else 0) = (fun i => if i < 8 then I 16 (8 * (4 * ((a - 41) / 18) + ((a - 41) % 18 - 2) / 4) + i) else 0) := by
      intro z
      have hk := hk z
      funext i
      by_cases hi : i < 8
      · rw [if_pos hi, if_pos hi, u2_oth (by omega)]
      · rw [if_neg hi, if_neg hi]
    rcases hr with z | z | z | z <;> first
      | (have hf := hf z; simp [h0, h1, z, u2_ne, hf])
      | (simp [h0, h1, z, u2_ne])
  split
  · unfold cGr; simp [u2_ne]
  split
  · unfold cOut; simp [u2_ne]
  rfl
theorem en_w17 {I : Nat → Nat → Int32} {P : Nat → Nat → Option Nat} {M : Nat → Nat → Int32} {k m j : Nat} {v : Int32} {a : Nat} (hm : m < 4) (hj : j < 8) (h : a ≠ 46 + 18 * k + 4 * m) : en (u2 I 17 (8 * (4 * k + m) + j) v) P M a = en I P M a := by
  unfold en
  split
  · unfold en1 cHost cReqs; simp [u2_ne]
  split
  · unfold cReq; simp [u2_ne]
  split
  · unfold en2 cLine; simp [u2_ne]
  split
  · unfold enK cKd cMt
    by_cases h0 : (a - 41) % 18 = 0
    · simp [h0, u2_ne]
    by_cases h1 : (a - 41) % 18 = 1
    · simp [h1]
    have hr : ((a - 41) % 18 - 2) % 4 = 0 ∨ ((a - 41) % 18 - 2) % 4 = 1 ∨ ((a - 41) % 18 - 2) % 4 = 2 ∨ ((a - 41) % 18 - 2) % 4 = 3 := by omega
    have hk : ((a - 41) % 18 - 2) % 4 = 3 → ¬ 4 * ((a - 41) / 18) + ((a - 41) % 18 - 2) / 4 = 4 * k + m := by intro z; omega
    have hf : ((a - 41) % 18 - 2) % 4 = 3 → (fun i => if i < 8 then u2 I 17 (8 * (4 * k + m) + j) v 17 (8 * (4 * ((a - 41) / 18) + ((a - 41) % 18 - 2) / 4) + i) else 0) = (fun i => if i < 8 then I 17 (8 * (4 * ((a - 41) / 18) + ((a - 41) % 18 - 2) / 4) + i) else 0) := by
      intro z
      have hk := hk z
      funext i
      by_cases hi : i < 8
      · rw [if_pos hi, if_pos hi, u2_oth (by omega)]
      · rw [if_neg hi, if_neg hi]
    rcases hr with z | z | z | z <;> first
      | (have hf := hf z; simp [h0, h1, z, u2_ne, hf])
      | (simp [h0, h1, z, u2_ne])
  split
  · unfold cGr; simp [u2_ne]
  split
  · unfold cOut; simp [u2_ne]
  rfl
theorem en_m0 {I : Nat → Nat → Int32} {P : Nat → Nat → Option Nat} {M : Nat → Nat → Int32} {k : Nat} {v : Int32} {a : Nat} (h : a ≠ 158) : en I P (u2 M 0 k v) a = en I P M a := by
  unfold en
  split
  · rfl
  split
  · rfl
  split
  · rfl
  split
  · rfl
  split
  · rfl
  split
  · rfl
  unfold en3; split
  · simp [cMod, u2_ne]
  · exact absurd rfl h
  · simp [u2_ne]
  · simp [u2_ne]
  · simp [u2_ne]
  · simp [u2_ne]
  · simp [u2_ne]
  · simp [u2_ne]
  · simp [u2_ne]
  · simp [u2_ne]
  · simp [u2_ne]
  · simp [u2_ne]
  · simp [u2_ne]
  · simp [u2_ne]
  · simp [u2_ne]
  · simp [u2_ne]
  · simp [u2_ne]
  · simp [u2_ne]
  · simp [u2_ne]
  · simp [u2_ne]
  · simp [u2_ne]
  · simp [u2_ne]
  · simp [u2_ne]
  · simp [u2_ne]
  · simp [u2_ne]
  · simp [u2_ne]
  · simp [u2_ne]
  · simp [u2_ne]
  · simp [u2_ne]
  · simp [u2_ne]
  · simp [u2_ne]
  · simp [u2_ne]
  · simp [u2_ne]
  · simp [u2_ne]
  · simp [u2_ne]
  · rfl
theorem en_m1 {I : Nat → Nat → Int32} {P : Nat → Nat → Option Nat} {M : Nat → Nat → Int32} {k : Nat} {v : Int32} {a : Nat} (h : a ≠ 159) : en I P (u2 M 1 k v) a = en I P M a := by
  unfold en
  split
  · rfl
  split
  · rfl
  split
  · rfl
  split
  · rfl
  split
  · rfl
  split
  · rfl
  unfold en3; split
  · simp [cMod, u2_ne]
  · simp [u2_ne]
  · exact absurd rfl h
  · simp [u2_ne]
  · simp [u2_ne]
  · simp [u2_ne]
  · simp [u2_ne]
  · simp [u2_ne]
  · simp [u2_ne]
  · simp [u2_ne]
  · simp [u2_ne]
  · simp [u2_ne]
  · simp [u2_ne]
  · simp [u2_ne]
  · simp [u2_ne]
  · simp [u2_ne]
  · simp [u2_ne]
  · simp [u2_ne]
  · simp [u2_ne]
  · simp [u2_ne]
  · simp [u2_ne]
  · simp [u2_ne]
  · simp [u2_ne]
  · simp [u2_ne]
  · simp [u2_ne]
  · simp [u2_ne]
  · simp [u2_ne]
  · simp [u2_ne]
  · simp [u2_ne]
  · simp [u2_ne]
  · simp [u2_ne]
  · simp [u2_ne]
  · simp [u2_ne]
  · simp [u2_ne]
  · simp [u2_ne]
  · rfl
theorem en_m2 {I : Nat → Nat → Int32} {P : Nat → Nat → Option Nat} {M : Nat → Nat → Int32} {k : Nat} {v : Int32} {a : Nat} (h : a ≠ 160) : en I P (u2 M 2 k v) a = en I P M a := by
  unfold en
  split
  · rfl
  split
  · rfl
  split
  · rfl
  split
  · rfl
  split
  · rfl
  split
  · rfl
  unfold en3; split
  · simp [cMod, u2_ne]
  · simp [u2_ne]
  · simp [u2_ne]
  · exact absurd rfl h
  · simp [u2_ne]
  · simp [u2_ne]
  · simp [u2_ne]
  · simp [u2_ne]
  · simp [u2_ne]
  · simp [u2_ne]
  · simp [u2_ne]
  · simp [u2_ne]
  · simp [u2_ne]
  · simp [u2_ne]
  · simp [u2_ne]
  · simp [u2_ne]
  · simp [u2_ne]
  · simp [u2_ne]
  · simp [u2_ne]
  · simp [u2_ne]
  · simp [u2_ne]
  · simp [u2_ne]
  · simp [u2_ne]
  · simp [u2_ne]
  · simp [u2_ne]
  · simp [u2_ne]
  · simp [u2_ne]
  · simp [u2_ne]
  · simp [u2_ne]
  · simp [u2_ne]
  · simp [u2_ne]
  · simp [u2_ne]
  · simp [u2_ne]
  · simp [u2_ne]
  · simp [u2_ne]
  · rfl
theorem en_m3 {I : Nat → Nat → Int32} {P : Nat → Nat → Option Nat} {M : Nat → Nat → Int32} {k : Nat} {v : Int32} {a : Nat} (h : a ≠ 161) : en I P (u2 M 3 k v) a = en I P M a := by
  unfold en
  split
  · rfl
  split
  · rfl
  split
  · rfl
  split
  · rfl
  split
  · rfl
  split
  · rfl
  unfold en3; split
  · simp [cMod, u2_ne]
  · simp [u2_ne]
  · simp [u2_ne]
  · simp [u2_ne]
  · exact absurd rfl h
  · simp [u2_ne]
  · simp [u2_ne]
  · simp [u2_ne]
  · simp [u2_ne]
  · simp [u2_ne]
  · simp [u2_ne]
  · simp [u2_ne]
  · simp [u2_ne]
  · simp [u2_ne]
  · simp [u2_ne]
  · simp [u2_ne]
  · simp [u2_ne]
  · simp [u2_ne]
  · simp [u2_ne]
  · simp [u2_ne]
  · simp [u2_ne]
  · simp [u2_ne]
  · simp [u2_ne]
  · simp [u2_ne]
  · simp [u2_ne]
  · simp [u2_ne]
  · simp [u2_ne]
  · simp [u2_ne]
  · simp [u2_ne]
  · simp [u2_ne]
  · simp [u2_ne]
  · simp [u2_ne]
  · simp [u2_ne]
  · simp [u2_ne]
  · simp [u2_ne]
  · rfl
theorem en_m4 {I : Nat → Nat → Int32} {P : Nat → Nat → Option Nat} {M : Nat → Nat → Int32} {k : Nat} {v : Int32} {a : Nat} (h : a ≠ 162) : en I P (u2 M 4 k v) a = en I P M a := by
  unfold en
  split
  · rfl
  split
  · rfl
  split
  · rfl
  split
  · rfl
  split
  · rfl
  split
  · rfl
  unfold en3; split
  · simp [cMod, u2_ne]
  · simp [u2_ne]
  · simp [u2_ne]
  · simp [u2_ne]
  · simp [u2_ne]
  · exact absurd rfl h
  · simp [u2_ne]
  · simp [u2_ne]
  · simp [u2_ne]
  · simp [u2_ne]
  · simp [u2_ne]
  · simp [u2_ne]
  · simp [u2_ne]
  · simp [u2_ne]
  · simp [u2_ne]
  · simp [u2_ne]
  · simp [u2_ne]
  · simp [u2_ne]
  · simp [u2_ne]
  · simp [u2_ne]
  · simp [u2_ne]
  · simp [u2_ne]
  · simp [u2_ne]
  · simp [u2_ne]
  · simp [u2_ne]
  · simp [u2_ne]
  · simp [u2_ne]
  · simp [u2_ne]
  · simp [u2_ne]
  · simp [u2_ne]
  · simp [u2_ne]
  · simp [u2_ne]
  · simp [u2_ne]
  · simp [u2_ne]
  · simp [u2_ne]
  · rfl
theorem en_m5 {I : Nat → Nat → Int32} {P : Nat → Nat → Option Nat} {M : Nat → Nat → Int32} {k : Nat} {v : Int32} {a : Nat} (h : a ≠ 163) : en I P (u2 M 5 k v) a = en I P M a := by
  unfold en
  split
  · rfl
  split
  · rfl
  split
  · rfl
  split
  · rfl
  split
  · rfl
  split
  · rfl
  unfold en3; split
  · simp [cMod, u2_ne]
  · simp [u2_ne]
  · simp [u2_ne]
  · simp [u2_ne]
  · simp [u2_ne]
  · simp [u2_ne]
  · exact absurd rfl h
  · simp [u2_ne]
  · simp [u2_ne]
  · simp [u2_ne]
  · simp [u2_ne]
  · simp [u2_ne]
  · simp [u2_ne]
  · simp [u2_ne]
  · simp [u2_ne]
  · simp [u2_ne]
  · simp [u2_ne]
  · simp [u2_ne]
  · simp [u2_ne]
  · simp [u2_ne]
  · simp [u2_ne]
  · simp [u2_ne]
  · simp [u2_ne]
  · simp [u2_ne]
  · simp [u2_ne]
  · simp [u2_ne]
  · simp [u2_ne]
  · simp [u2_ne]
  · simp [u2_ne]
  · simp [u2_ne]
  · simp [u2_ne]
  · simp [u2_ne]
  · simp [u2_ne]
  · simp [u2_ne]
  · simp [u2_ne]
  · rfl
theorem en_m6 {I : Nat → Nat → Int32} {P : Nat → Nat → Option Nat} {M : Nat → Nat → Int32} {k : Nat} {v : Int32} {a : Nat} (h : a ≠ 164) : en I P (u2 M 6 k v) a = en I P M a := by
  unfold en
  split
  · rfl
  split
  · rfl
  split
  · rfl
  split
  · rfl
  split
  · rfl
  split
  · rfl
  unfold en3; split
  · simp [cMod, u2_ne]
  · simp [u2_ne]
  · simp [u2_ne]
  · simp [u2_ne]
  · simp [u2_ne]
  · simp [u2_ne]
  · simp [u2_ne]
  · exact absurd rfl h
  · simp [u2_ne]
  · simp [u2_ne]
  · simp [u2_ne]
  · simp [u2_ne]
  · simp [u2_ne]
  · simp [u2_ne]
  · simp [u2_ne]
  · simp [u2_ne]
  · simp [u2_ne]
  · simp [u2_ne]
  · simp [u2_ne]
  · simp [u2_ne]
  · simp [u2_ne]
  · simp [u2_ne]
  · simp [u2_ne]
  · simp [u2_ne]
  · simp [u2_ne]
  · simp [u2_ne]
  · simp [u2_ne]
  · simp [u2_ne]
  · simp [u2_ne]
  · simp [u2_ne]
  · simp [u2_ne]
  · simp [u2_ne]
  · simp [u2_ne]
  · simp [u2_ne]
  · simp [u2_ne]
  · rfl
theorem en_m7 {I : Nat → Nat → Int32} {P : Nat → Nat → Option Nat} {M : Nat → Nat → Int32} {k : Nat} {v : Int32} {a : Nat} (h : a ≠ 165) : en I P (u2 M 7 k v) a = en I P M a := by
  unfold en
  split
  · rfl
  split
  · rfl
  split
  · rfl
  split
  · rfl
  split
  · rfl
  split
  · rfl
  unfold en3; split
  · simp [cMod, u2_ne]
  · simp [u2_ne]
  · simp [u2_ne]
  · simp [u2_ne]
  · simp [u2_ne]
  · simp [u2_ne]
  · simp [u2_ne]
  · simp [u2_ne]
  · exact absurd rfl h
  · simp [u2_ne]
  · simp [u2_ne]
  · simp [u2_ne]
  · simp [u2_ne]
  · simp [u2_ne]
  · simp [u2_ne]
  · simp [u2_ne]
  · simp [u2_ne]
  · simp [u2_ne]
  · simp [u2_ne]
  · simp [u2_ne]
  · simp [u2_ne]
  · simp [u2_ne]
  · simp [u2_ne]
  · simp [u2_ne]
  · simp [u2_ne]
  · simp [u2_ne]
  · simp [u2_ne]
  · simp [u2_ne]
  · simp [u2_ne]
  · simp [u2_ne]
  · simp [u2_ne]
  · simp [u2_ne]
  · simp [u2_ne]
  · simp [u2_ne]
  · simp [u2_ne]
  · rfl
theorem en_m8 {I : Nat → Nat → Int32} {P : Nat → Nat → Option Nat} {M : Nat → Nat → Int32} {k : Nat} {v : Int32} {a : Nat} (h : a ≠ 166) : en I P (u2 M 8 k v) a = en I P M a := by
  unfold en
  split
  · rfl
  split
  · rfl
  split
  · rfl
  split
  · rfl
  split
  · rfl
  split
  · rfl
  unfold en3; split
  · simp [cMod, u2_ne]
  · simp [u2_ne]
  · simp [u2_ne]
  · simp [u2_ne]
  · simp [u2_ne]
  · simp [u2_ne]
  · simp [u2_ne]
  · simp [u2_ne]
  · simp [u2_ne]
  · exact absurd rfl h
  · simp [u2_ne]
  · simp [u2_ne]
  · simp [u2_ne]
  · simp [u2_ne]
  · simp [u2_ne]
  · simp [u2_ne]
  · simp [u2_ne]
  · simp [u2_ne]
  · simp [u2_ne]
  · simp [u2_ne]
  · simp [u2_ne]
  · simp [u2_ne]
  · simp [u2_ne]
  · simp [u2_ne]
  · simp [u2_ne]
  · simp [u2_ne]
  · simp [u2_ne]
  · simp [u2_ne]
  · simp [u2_ne]
  · simp [u2_ne]
  · simp [u2_ne]
  · simp [u2_ne]
  · simp [u2_ne]
  · simp [u2_ne]
  · simp [u2_ne]
  · rfl
theorem en_m9 {I : Nat → Nat → Int32} {P : Nat → Nat → Option Nat} {M : Nat → Nat → Int32} {k : Nat} {v : Int32} {a : Nat} (h : a ≠ 167) : en I P (u2 M 9 k v) a = en I P M a := by
  unfold en
  split
  · rfl
  split
  · rfl
  split
  · rfl
  split
  · rfl
  split
  · rfl
  split
  · rfl
  unfold en3; split
  · simp [cMod, u2_ne]
  · simp [u2_ne]
  · simp [u2_ne]
  · simp [u2_ne]
  · simp [u2_ne]
  · simp [u2_ne]
  · simp [u2_ne]
  · simp [u2_ne]
  · simp [u2_ne]
  · simp [u2_ne]
  · exact absurd rfl h
  · simp [u2_ne]
  · simp [u2_ne]
  · simp [u2_ne]
  · simp [u2_ne]
  · simp [u2_ne]
  · simp [u2_ne]
  · simp [u2_ne]
  · simp [u2_ne]
  · simp [u2_ne]
  · simp [u2_ne]
  · simp [u2_ne]
  · simp [u2_ne]
  · simp [u2_ne]
  · simp [u2_ne]
  · simp [u2_ne]
  · simp [u2_ne]
  · simp [u2_ne]
  · simp [u2_ne]
  · simp [u2_ne]
  · simp [u2_ne]
  · simp [u2_ne]
  · simp [u2_ne]
  · simp [u2_ne]
  · simp [u2_ne]
  · rfl
theorem en_m10 {I : Nat → Nat → Int32} {P : Nat → Nat → Option Nat} {M : Nat → Nat → Int32} {k : Nat} {v : Int32} {a : Nat} (h : a ≠ 168) : en I P (u2 M 10 k v) a = en I P M a := by
  unfold en
  split
  · rfl
  split
  · rfl
  split
  · rfl
  split
  · rfl
  split
  · rfl
  split
  · rfl
  unfold en3; split
  · simp [cMod, u2_ne]
  · simp [u2_ne]
  · simp [u2_ne]
  · simp [u2_ne]
  · simp [u2_ne]
  · simp [u2_ne]
  · simp [u2_ne]
  · simp [u2_ne]
  · simp [u2_ne]
  · simp [u2_ne]
  · simp [u2_ne]
  · exact absurd rfl h
  · simp [u2_ne]
  · simp [u2_ne]
  · simp [u2_ne]
  · simp [u2_ne]
  · simp [u2_ne]
  · simp [u2_ne]
  · simp [u2_ne]
  · simp [u2_ne]
  · simp [u2_ne]
  · simp [u2_ne]
  · simp [u2_ne]
  · simp [u2_ne]
  · simp [u2_ne]
  · simp [u2_ne]
  · simp [u2_ne]
  · simp [u2_ne]
  · simp [u2_ne]
  · simp [u2_ne]
  · simp [u2_ne]
  · simp [u2_ne]
  · simp [u2_ne]
  · simp [u2_ne]
  · simp [u2_ne]
  · rfl
theorem en_m11 {I : Nat → Nat → Int32} {P : Nat → Nat → Option Nat} {M : Nat → Nat → Int32} {k : Nat} {v : Int32} {a : Nat} (h : a ≠ 169) : en I P (u2 M 11 k v) a = en I P M a := by
  unfold en
  split
  · rfl
  split
  · rfl
  split
  · rfl
  split
  · rfl
  split
  · rfl
  split
  · rfl
  unfold en3; split
  · simp [cMod, u2_ne]
  · simp [u2_ne]
  · simp [u2_ne]
  · simp [u2_ne]
  · simp [u2_ne]
  · simp [u2_ne]
  · simp [u2_ne]
  · simp [u2_ne]
  · simp [u2_ne]
  · simp [u2_ne]
  · simp [u2_ne]
  · simp [u2_ne]
  · exact absurd rfl h
  · simp [u2_ne]
  · simp [u2_ne]
  · simp [u2_ne]
  · simp [u2_ne]
  · simp [u2_ne]
  · simp [u2_ne]
  · simp [u2_ne]
  · simp [u2_ne]
  · simp [u2_ne]
  · simp [u2_ne]
  · simp [u2_ne]
  · simp [u2_ne]
  · simp [u2_ne]
  · simp [u2_ne]
  · simp [u2_ne]
  · simp [u2_ne]
  · simp [u2_ne]
  · simp [u2_ne]
  · simp [u2_ne]
  · simp [u2_ne]
  · simp [u2_ne]
  · simp [u2_ne]
  · rfl
theorem en_m12 {I : Nat → Nat → Int32} {P : Nat → Nat → Option Nat} {M : Nat → Nat → Int32} {k : Nat} {v : Int32} {a : Nat} (h : a ≠ 170) : en I P (u2 M 12 k v) a = en I P M a := by
  unfold en
  split
  · rfl
  split
  · rfl
  split
  · rfl
  split
  · rfl
  split
  · rfl
  split
  · rfl
  unfold en3; split
  · simp [cMod, u2_ne]
  · simp [u2_ne]
  · simp [u2_ne]
  · simp [u2_ne]
  · simp [u2_ne]
  · simp [u2_ne]
  · simp [u2_ne]
  · simp [u2_ne]
  · simp [u2_ne]
  · simp [u2_ne]
  · simp [u2_ne]
  · simp [u2_ne]
  · simp [u2_ne]
  · exact absurd rfl h
  · simp [u2_ne]
  · simp [u2_ne]
  · simp [u2_ne]
  · simp [u2_ne]
  · simp [u2_ne]
  · simp [u2_ne]
  · simp [u2_ne]
  · simp [u2_ne]
  · simp [u2_ne]
  · simp [u2_ne]
  · simp [u2_ne]
  · simp [u2_ne]
  · simp [u2_ne]
  · simp [u2_ne]
  · simp [u2_ne]
  · simp [u2_ne]
  · simp [u2_ne]
  · simp [u2_ne]
  · simp [u2_ne]
  · simp [u2_ne]
  · simp [u2_ne]
  · rfl
theorem en_m13 {I : Nat → Nat → Int32} {P : Nat → Nat → Option Nat} {M : Nat → Nat → Int32} {k : Nat} {v : Int32} {a : Nat} (h : a ≠ 171) : en I P (u2 M 13 k v) a = en I P M a := by
  unfold en
  split
  · rfl
  split
  · rfl
  split
  · rfl
  split
  · rfl
  split
  · rfl
  split
  · rfl
  unfold en3; split
  · simp [cMod, u2_ne]
  · simp [u2_ne]
  · simp [u2_ne]
  · simp [u2_ne]
  · simp [u2_ne]
  · simp [u2_ne]
  · simp [u2_ne]
  · simp [u2_ne]
  · simp [u2_ne]
  · simp [u2_ne]
  · simp [u2_ne]
  · simp [u2_ne]
  · simp [u2_ne]
  · simp [u2_ne]
  · exact absurd rfl h
  · simp [u2_ne]
  · simp [u2_ne]
  · simp [u2_ne]
  · simp [u2_ne]
  · simp [u2_ne]
  · simp [u2_ne]
  · simp [u2_ne]
  · simp [u2_ne]
  · simp [u2_ne]
  · simp [u2_ne]
  · simp [u2_ne]
  · simp [u2_ne]
  · simp [u2_ne]
  · simp [u2_ne]
  · simp [u2_ne]
  · simp [u2_ne]
  · simp [u2_ne]
  · simp [u2_ne]
  · simp [u2_ne]
  · simp [u2_ne]
  · rfl
theorem en_m14 {I : Nat → Nat → Int32} {P : Nat → Nat → Option Nat} {M : Nat → Nat → Int32} {k : Nat} {v : Int32} {a : Nat} (h : a ≠ 172) : en I P (u2 M 14 k v) a = en I P M a := by
  unfold en
  split
  · rfl
  split
  · rfl
  split
  · rfl
  split
  · rfl
  split
  · rfl
  split
  · rfl
  unfold en3; split
  · simp [cMod, u2_ne]
  · simp [u2_ne]
  · simp [u2_ne]
  · simp [u2_ne]
  · simp [u2_ne]
  · simp [u2_ne]
  · simp [u2_ne]
  · simp [u2_ne]
  · simp [u2_ne]
  · simp [u2_ne]
  · simp [u2_ne]
  · simp [u2_ne]
  · simp [u2_ne]
  · simp [u2_ne]
  · simp [u2_ne]
  · exact absurd rfl h
  · simp [u2_ne]
  · simp [u2_ne]
  · simp [u2_ne]
  · simp [u2_ne]
  · simp [u2_ne]
  · simp [u2_ne]
  · simp [u2_ne]
  · simp [u2_ne]
  · simp [u2_ne]
  · simp [u2_ne]
  · simp [u2_ne]
  · simp [u2_ne]
  · simp [u2_ne]
  · simp [u2_ne]
  · simp [u2_ne]
  · simp [u2_ne]
  · simp [u2_ne]
  · simp [u2_ne]
  · simp [u2_ne]
  · rfl
theorem en_m15 {I : Nat → Nat → Int32} {P : Nat → Nat → Option Nat} {M : Nat → Nat → Int32} {k : Nat} {v : Int32} {a : Nat} (h : a ≠ 173) : en I P (u2 M 15 k v) a = en I P M a := by
  unfold en
  split
  · rfl
  split
  · rfl
  split
  · rfl
  split
  · rfl
  split
  · rfl
  split
  · rfl
  unfold en3; split
  · simp [cMod, u2_ne]
  · simp [u2_ne]
  · simp [u2_ne]
  · simp [u2_ne]
  · simp [u2_ne]
  · simp [u2_ne]
  · simp [u2_ne]
  · simp [u2_ne]
  · simp [u2_ne]
  · simp [u2_ne]
  · simp [u2_ne]
  · simp [u2_ne]
  · simp [u2_ne]
  · simp [u2_ne]
  · simp [u2_ne]
  · simp [u2_ne]
  · exact absurd rfl h
  · simp [u2_ne]
  · simp [u2_ne]
  · simp [u2_ne]
  · simp [u2_ne]
  · simp [u2_ne]
  · simp [u2_ne]
  · simp [u2_ne]
  · simp [u2_ne]
  · simp [u2_ne]
  · simp [u2_ne]
  · simp [u2_ne]
  · simp [u2_ne]
  · simp [u2_ne]
  · simp [u2_ne]
  · simp [u2_ne]
  · simp [u2_ne]
  · simp [u2_ne]
  · simp [u2_ne]
  · rfl
theorem en_m16 {I : Nat → Nat → Int32} {P : Nat → Nat → Option Nat} {M : Nat → Nat → Int32} {k : Nat} {v : Int32} {a : Nat} (h : a ≠ 174) : en I P (u2 M 16 k v) a = en I P M a := by
  unfold en
  split
  · rfl
  split
  · rfl
  split
  · rfl
  split
  · rfl
  split
  · rfl
  split
  · rfl
  unfold en3; split
  · simp [cMod, u2_ne]
  · simp [u2_ne]
  · simp [u2_ne]
  · simp [u2_ne]
  · simp [u2_ne]
  · simp [u2_ne]
  · simp [u2_ne]
  · simp [u2_ne]
  · simp [u2_ne]
  · simp [u2_ne]
  · simp [u2_ne]
  · simp [u2_ne]
  · simp [u2_ne]
  · simp [u2_ne]
  · simp [u2_ne]
  · simp [u2_ne]
  · simp [u2_ne]
  · exact absurd rfl h
  · simp [u2_ne]
  · simp [u2_ne]
  · simp [u2_ne]
  · simp [u2_ne]
  · simp [u2_ne]
  · simp [u2_ne]
  · simp [u2_ne]
  · simp [u2_ne]
  · simp [u2_ne]
  · simp [u2_ne]
  · simp [u2_ne]
  · simp [u2_ne]
  · simp [u2_ne]
  · simp [u2_ne]
  · simp [u2_ne]
  · simp [u2_ne]
  · simp [u2_ne]
  · rfl
theorem en_m17 {I : Nat → Nat → Int32} {P : Nat → Nat → Option Nat} {M : Nat → Nat → Int32} {k : Nat} {v : Int32} {a : Nat} (h : a ≠ 175) : en I P (u2 M 17 k v) a = en I P M a := by
  unfold en
  split
  · rfl
  split
  · rfl
  split
  · rfl
  split
  · rfl
  split
  · rfl
  split
  · rfl
  unfold en3; split
  · simp [cMod, u2_ne]
  · simp [u2_ne]
  · simp [u2_ne]
  · simp [u2_ne]
  · simp [u2_ne]
  · simp [u2_ne]
  · simp [u2_ne]
  · simp [u2_ne]
  · simp [u2_ne]
  · simp [u2_ne]
  · simp [u2_ne]
  · simp [u2_ne]
  · simp [u2_ne]
  · simp [u2_ne]
  · simp [u2_ne]
  · simp [u2_ne]
  · simp [u2_ne]
  · simp [u2_ne]
  · exact absurd rfl h
  · simp [u2_ne]
  · simp [u2_ne]
  · simp [u2_ne]
  · simp [u2_ne]
  · simp [u2_ne]
  · simp [u2_ne]
  · simp [u2_ne]
  · simp [u2_ne]
  · simp [u2_ne]
  · simp [u2_ne]
  · simp [u2_ne]
  · simp [u2_ne]
  · simp [u2_ne]
  · simp [u2_ne]
  · simp [u2_ne]
  · simp [u2_ne]
  · rfl
theorem en_m18 {I : Nat → Nat → Int32} {P : Nat → Nat → Option Nat} {M : Nat → Nat → Int32} {k : Nat} {v : Int32} {a : Nat} (h : a ≠ 176) : en I P (u2 M 18 k v) a = en I P M a := by
  unfold en
  split
  · rfl
  split
  · rfl
  split
  · rfl
  split
  · rfl
  split
  · rfl
  split
  · rfl
  unfold en3; split
  · simp [cMod, u2_ne]
  · simp [u2_ne]
  · simp [u2_ne]
  · simp [u2_ne]
  · simp [u2_ne]
  · simp [u2_ne]
  · simp [u2_ne]
  · simp [u2_ne]
  · simp [u2_ne]
  · simp [u2_ne]
  · simp [u2_ne]
  · simp [u2_ne]
  · simp [u2_ne]
  · simp [u2_ne]
  · simp [u2_ne]
  · simp [u2_ne]
  · simp [u2_ne]
  · simp [u2_ne]
  · simp [u2_ne]
  · exact absurd rfl h
  · simp [u2_ne]
  · simp [u2_ne]
  · simp [u2_ne]
  · simp [u2_ne]
  · simp [u2_ne]
  · simp [u2_ne]
  · simp [u2_ne]
  · simp [u2_ne]
  · simp [u2_ne]
  · simp [u2_ne]
  · simp [u2_ne]
  · simp [u2_ne]
  · simp [u2_ne]
  · simp [u2_ne]
  · simp [u2_ne]
  · rfl
theorem en_m19 {I : Nat → Nat → Int32} {P : Nat → Nat → Option Nat} {M : Nat → Nat → Int32} {k : Nat} {v : Int32} {a : Nat} (h : a ≠ 177) : en I P (u2 M 19 k v) a = en I P M a := by
  unfold en
  split
  · rfl
  split
  · rfl
  split
  · rfl
  split
  · rfl
  split
  · rfl
  split
  · rfl
  unfold en3; split
  · simp [cMod, u2_ne]
  · simp [u2_ne]
  · simp [u2_ne]
  · simp [u2_ne]
  · simp [u2_ne]
  · simp [u2_ne]
  · simp [u2_ne]
  · simp [u2_ne]
  · simp [u2_ne]
  · simp [u2_ne]
  · simp [u2_ne]
  · simp [u2_ne]
  · simp [u2_ne]
  · simp [u2_ne]
  · simp [u2_ne]
  · simp [u2_ne]
  · simp [u2_ne]
  · simp [u2_ne]
  · simp [u2_ne]
  · simp [u2_ne]
  · exact absurd rfl h
  · simp [u2_ne]
  · simp [u2_ne]
  · simp [u2_ne]
  · simp [u2_ne]
  · simp [u2_ne]
  · simp [u2_ne]
  · simp [u2_ne]
  · simp [u2_ne]
  · simp [u2_ne]
  · simp [u2_ne]
  · simp [u2_ne]
  · simp [u2_ne]
  · simp [u2_ne]
  · simp [u2_ne]
  · rfl
theorem en_m20 {I : Nat → Nat → Int32} {P : Nat → Nat → Option Nat} {M : Nat → Nat → Int32} {k : Nat} {v : Int32} {a : Nat} (h : a ≠ 178) : en I P (u2 M 20 k v) a = en I P M a := by
  unfold en
  split
  · rfl
  split
  · rfl
  split
  · rfl
  split
  · rfl
  split
  · rfl
  split
  · rfl
  unfold en3; split
  · simp [cMod, u2_ne]
  · simp [u2_ne]
  · simp [u2_ne]
  · simp [u2_ne]
  · simp [u2_ne]
  · simp [u2_ne]
  · simp [u2_ne]
  · simp [u2_ne]
  · simp [u2_ne]
  · simp [u2_ne]
  · simp [u2_ne]
  · simp [u2_ne]
  · simp [u2_ne]
  · simp [u2_ne]
  · simp [u2_ne]
  · simp [u2_ne]
  · simp [u2_ne]
  · simp [u2_ne]
  · simp [u2_ne]
  · simp [u2_ne]
  · simp [u2_ne]
  · exact absurd rfl h
  · simp [u2_ne]
  · simp [u2_ne]
  · simp [u2_ne]
  · simp [u2_ne]
  · simp [u2_ne]
  · simp [u2_ne]
  · simp [u2_ne]
  · simp [u2_ne]
  · simp [u2_ne]
  · simp [u2_ne]
  · simp [u2_ne]
  · simp [u2_ne]
  · simp [u2_ne]
  · rfl
theorem en_m21 {I : Nat → Nat → Int32} {P : Nat → Nat → Option Nat} {M : Nat → Nat → Int32} {k : Nat} {v : Int32} {a : Nat} (h : a ≠ 179) : en I P (u2 M 21 k v) a = en I P M a := by
  unfold en
  split
  · rfl
  split
  · rfl
  split
  · rfl
  split
  · rfl
  split
  · rfl
  split
  · rfl
  unfold en3; split
  · simp [cMod, u2_ne]
  · simp [u2_ne]
  · simp [u2_ne]
  · simp [u2_ne]
  · simp [u2_ne]
  · simp [u2_ne]
  · simp [u2_ne]
  · simp [u2_ne]
  · simp [u2_ne]
  · simp [u2_ne]
  · simp [u2_ne]
  · simp [u2_ne]
  · simp [u2_ne]
  · simp [u2_ne]
  · simp [u2_ne]
  · simp [u2_ne]
  · simp [u2_ne]
  · simp [u2_ne]
  · simp [u2_ne]
  · simp [u2_ne]
  · simp [u2_ne]
  · simp [u2_ne]
  · exact absurd rfl h
  · simp [u2_ne]
  · simp [u2_ne]
  · simp [u2_ne]
  · simp [u2_ne]
  · simp [u2_ne]
  · simp [u2_ne]
  · simp [u2_ne]
  · simp [u2_ne]
  · simp [u2_ne]
  · simp [u2_ne]
  · simp [u2_ne]
  · simp [u2_ne]
  · rfl
theorem en_m22 {I : Nat → Nat → Int32} {P : Nat → Nat → Option Nat} {M : Nat → Nat → Int32} {k : Nat} {v : Int32} {a : Nat} (h : a ≠ 180) : en I P (u2 M 22 k v) a = en I P M a := by
  unfold en
  split
  · rfl
  split
  · rfl
  split
  · rfl
  split
  · rfl
  split
  · rfl
  split
  · rfl
  unfold en3; split
  · simp [cMod, u2_ne]
  · simp [u2_ne]
  · simp [u2_ne]
  · simp [u2_ne]
  · simp [u2_ne]
  · simp [u2_ne]
  · simp [u2_ne]
  · simp [u2_ne]
  · simp [u2_ne]
  · simp [u2_ne]
  · simp [u2_ne]
  · simp [u2_ne]
  · simp [u2_ne]
  · simp [u2_ne]
  · simp [u2_ne]
  · simp [u2_ne]
  · simp [u2_ne]
  · simp [u2_ne]
  · simp [u2_ne]
  · simp [u2_ne]
  · simp [u2_ne]
  · simp [u2_ne]
  · simp [u2_ne]
  · exact absurd rfl h
  · simp [u2_ne]
  · simp [u2_ne]
  · simp [u2_ne]
  · simp [u2_ne]
  · simp [u2_ne]
  · simp [u2_ne]
  · simp [u2_ne]
  · simp [u2_ne]
  · simp [u2_ne]
  · simp [u2_ne]
  · simp [u2_ne]
  · rfl
theorem en_m23 {I : Nat → Nat → Int32} {P : Nat → Nat → Option Nat} {M : Nat → Nat → Int32} {k : Nat} {v : Int32} {a : Nat} (h : a ≠ 181) : en I P (u2 M 23 k v) a = en I P M a := by
  unfold en
  split
  · rfl
  split
  · rfl
  split
  · rfl
  split
  · rfl
  split
  · rfl
  split
  · rfl
  unfold en3; split
  · simp [cMod, u2_ne]
  · simp [u2_ne]
  · simp [u2_ne]
  · simp [u2_ne]
  · simp [u2_ne]
  · simp [u2_ne]
  · simp [u2_ne]
  · simp [u2_ne]
  · simp [u2_ne]
  · simp [u2_ne]
  · simp [u2_ne]
  · simp [u2_ne]
  · simp [u2_ne]
  · simp [u2_ne]
  · simp [u2_ne]
  · simp [u2_ne]
  · simp [u2_ne]
  · simp [u2_ne]
  · simp [u2_ne]
  · simp [u2_ne]
  · simp [u2_ne]
  · simp [u2_ne]
  · simp [u2_ne]
  · simp [u2_ne]
  · exact absurd rfl h
  · simp [u2_ne]
  · simp [u2_ne]
  · simp [u2_ne]
  · simp [u2_ne]
  · simp [u2_ne]
  · simp [u2_ne]
  · simp [u2_ne]
  · simp [u2_ne]
  · simp [u2_ne]
  · simp [u2_ne]
  · rfl
theorem en_m24 {I : Nat → Nat → Int32} {P : Nat → Nat → Option Nat} {M : Nat → Nat → Int32} {k : Nat} {v : Int32} {a : Nat} (h : a ≠ 182) : en I P (u2 M 24 k v) a = en I P M a := by
  unfold en
  split
  · rfl
  split
  · rfl
  split
  · rfl
  split
  · rfl
  split
  · rfl
  split
  · rfl
  unfold en3; split
  · simp [cMod, u2_ne]
  · simp [u2_ne]
  · simp [u2_ne]
  · simp [u2_ne]
  · simp [u2_ne]
  · simp [u2_ne]
  · simp [u2_ne]
  · simp [u2_ne]
  · simp [u2_ne]
  · simp [u2_ne]
  · simp [u2_ne]
  · simp [u2_ne]
  · simp [u2_ne]
  · simp [u2_ne]
  · simp [u2_ne]
  · simp [u2_ne]
  · simp [u2_ne]
  · simp [u2_ne]
  · simp [u2_ne]
  · simp [u2_ne]
  · simp [u2_ne]
  · simp [u2_ne]
  · simp [u2_ne]
  · simp [u2_ne]
  · simp [u2_ne]
  · exact absurd rfl h
  · simp [u2_ne]
  · simp [u2_ne]
  · simp [u2_ne]
  · simp [u2_ne]
  · simp [u2_ne]
  · simp [u2_ne]
  · simp [u2_ne]
  · simp [u2_ne]
  · simp [u2_ne]
  · rfl
theorem en_m25 {I : Nat → Nat → Int32} {P : Nat → Nat → Option Nat} {M : Nat → Nat → Int32} {k : Nat} {v : Int32} {a : Nat} (h : a ≠ 183) : en I P (u2 M 25 k v) a = en I P M a := by
  unfold en
  split
  · rfl
  split
  · rfl
  split
  · rfl
  split
  · rfl
  split
  · rfl
  split
  · rfl
  unfold en3; split
  · simp [cMod, u2_ne]
  · simp [u2_ne]
  · simp [u2_ne]
  · simp [u2_ne]
  · simp [u2_ne]
  · simp [u2_ne]
  · simp [u2_ne]
  · simp [u2_ne]
  · simp [u2_ne]
  · simp [u2_ne]
  · simp [u2_ne]
  · simp [u2_ne]
  · simp [u2_ne]
  · simp [u2_ne]
  · simp [u2_ne]
  · simp [u2_ne]
  · simp [u2_ne]
  · simp [u2_ne]
  · simp [u2_ne]
  · simp [u2_ne]
  · simp [u2_ne]
  · simp [u2_ne]
  · simp [u2_ne]
  · simp [u2_ne]
  · simp [u2_ne]
  · simp [u2_ne]
  · exact absurd rfl h
  · simp [u2_ne]
  · simp [u2_ne]
  · simp [u2_ne]
  · simp [u2_ne]
  · simp [u2_ne]
  · simp [u2_ne]
  · simp [u2_ne]
  · simp [u2_ne]
  · rfl
theorem en_m26 {I : Nat → Nat → Int32} {P : Nat → Nat → Option Nat} {M : Nat → Nat → Int32} {k : Nat} {v : Int32} {a : Nat} (h : a ≠ 184) : en I P (u2 M 26 k v) a = en I P M a := by
  unfold en
  split
  · rfl
  split
  · rfl
  split
  · rfl
  split
  · rfl
  split
  · rfl
  split
  · rfl
  unfold en3; split
  · simp [cMod, u2_ne]
  · simp [u2_ne]
  · simp [u2_ne]
  · simp [u2_ne]
  · simp [u2_ne]
  · simp [u2_ne]
  · simp [u2_ne]
  · simp [u2_ne]
  · simp [u2_ne]
  · simp [u2_ne]
  · simp [u2_ne]
  · simp [u2_ne]
  · simp [u2_ne]
  · simp [u2_ne]
  · simp [u2_ne]
  · simp [u2_ne]
  · simp [u2_ne]
  · simp [u2_ne]
  · simp [u2_ne]
  · simp [u2_ne]
  · simp [u2_ne]
  · simp [u2_ne]
  · simp [u2_ne]
  · simp [u2_ne]
  · simp [u2_ne]
  · simp [u2_ne]
  · simp [u2_ne]
  · exact absurd rfl h
  · simp [u2_ne]
  · simp [u2_ne]
  · simp [u2_ne]
  · simp [u2_ne]
  · simp [u2_ne]
  · simp [u2_ne]
  · simp [u2_ne]
  · rfl
theorem en_m27 {I : Nat → Nat → Int32} {P : Nat → Nat → Option Nat} {M : Nat → Nat → Int32} {k : Nat} {v : Int32} {a : Nat} (h : a ≠ 185) : en I P (u2 M 27 k v) a = en I P M a := by
  unfold en
  split
  · rfl
  split
  · rfl
  split
  · rfl
  split
  · rfl
  split
  · rfl
  split
  · rfl
  unfold en3; split
  · simp [cMod, u2_ne]
  · simp [u2_ne]
  · simp [u2_ne]
  · simp [u2_ne]
  · simp [u2_ne]
  · simp [u2_ne]
  · simp [u2_ne]
  · simp [u2_ne]
  · simp [u2_ne]
  · simp [u2_ne]
  · simp [u2_ne]
  · simp [u2_ne]
  · simp [u2_ne]
  · simp [u2_ne]
  · simp [u2_ne]
  · simp [u2_ne]
  · simp [u2_ne]
  · simp [u2_ne]
  · simp [u2_ne]
  · simp [u2_ne]
  · simp [u2_ne]
  · simp [u2_ne]
  · simp [u2_ne]
  · simp [u2_ne]
  · simp [u2_ne]
  · simp [u2_ne]
  · simp [u2_ne]
  · simp [u2_ne]
  · exact absurd rfl h
  · simp [u2_ne]
  · simp [u2_ne]
  · simp [u2_ne]
  · simp [u2_ne]
  · simp [u2_ne]
  · simp [u2_ne]
  · rfl
theorem en_m28 {I : Nat → Nat → Int32} {P : Nat → Nat → Option Nat} {M : Nat → Nat → Int32} {k : Nat} {v : Int32} {a : Nat} (h : a ≠ 157) : en I P (u2 M 28 k v) a = en I P M a := by
  unfold en
  split
  · rfl
  split
  · rfl
  split
  · rfl
  split
  · rfl
  split
  · rfl
  split
  · rfl
  unfold en3; split
  · exact absurd rfl h
  all_goals simp [u2_ne]
theorem en_m29 {I : Nat → Nat → Int32} {P : Nat → Nat → Option Nat} {M : Nat → Nat → Int32} {k : Nat} {v : Int32} {a : Nat} (h : a ≠ 157) : en I P (u2 M 29 k v) a = en I P M a := by
  unfold en
  split
  · rfl
  split
  · rfl
  split
  · rfl
  split
  · rfl
  split
  · rfl
  split
  · rfl
  unfold en3; split
  · exact absurd rfl h
  all_goals simp [u2_ne]
theorem en_m30 {I : Nat → Nat → Int32} {P : Nat → Nat → Option Nat} {M : Nat → Nat → Int32} {k : Nat} {v : Int32} {a : Nat} (h : a ≠ 186) : en I P (u2 M 30 k v) a = en I P M a := by
  unfold en
  split
  · rfl
  split
  · rfl
  split
  · rfl
  split
  · rfl
  split
  · rfl
  split
  · rfl
  unfold en3; split
  · simp [cMod, u2_ne]
  · simp [u2_ne]
  · simp [u2_ne]
  · simp [u2_ne]
  · simp [u2_ne]
  · simp [u2_ne]
  · simp [u2_ne]
  · simp [u2_ne]
  · simp [u2_ne]
  · simp [u2_ne]
  · simp [u2_ne]
  · simp [u2_ne]
  · simp [u2_ne]
  · simp [u2_ne]
  · simp [u2_ne]
  · simp [u2_ne]
  · simp [u2_ne]
  · simp [u2_ne]
  · simp [u2_ne]
  · simp [u2_ne]
  · simp [u2_ne]
  · simp [u2_ne]
  · simp [u2_ne]
  · simp [u2_ne]
  · simp [u2_ne]
  · simp [u2_ne]
  · simp [u2_ne]
  · simp [u2_ne]
  · simp [u2_ne]
  · exact absurd rfl h
  · simp [u2_ne]
  · simp [u2_ne]
  · simp [u2_ne]
  · simp [u2_ne]
  · simp [u2_ne]
  · rfl
theorem en_m31 {I : Nat → Nat → Int32} {P : Nat → Nat → Option Nat} {M : Nat → Nat → Int32} {k : Nat} {v : Int32} {a : Nat} (h : a ≠ 157) : en I P (u2 M 31 k v) a = en I P M a := by
  unfold en
  split
  · rfl
  split
  · rfl
  split
  · rfl
  split
  · rfl
  split
  · rfl
  split
  · rfl
  unfold en3; split
  · exact absurd rfl h
  all_goals simp [u2_ne]
theorem en_m32 {I : Nat → Nat → Int32} {P : Nat → Nat → Option Nat} {M : Nat → Nat → Int32} {k : Nat} {v : Int32} {a : Nat} (h : a ≠ 187) : en I P (u2 M 32 k v) a = en I P M a := by
  unfold en
  split
  · rfl
  split
  · rfl
  split
  · rfl
  split
  · rfl
  split
  · rfl
  split
  · rfl
  unfold en3; split
  · simp [cMod, u2_ne]
  · simp [u2_ne]
  · simp [u2_ne]
  · simp [u2_ne]
  · simp [u2_ne]
  · simp [u2_ne]
  · simp [u2_ne]
  · simp [u2_ne]
  · simp [u2_ne]
  · simp [u2_ne]
  · simp [u2_ne]
  · simp [u2_ne]
  · simp [u2_ne]
  · simp [u2_ne]
  · simp [u2_ne]
  · simp [u2_ne]
  · simp [u2_ne]
  · simp [u2_ne]
  · simp [u2_ne]
  · simp [u2_ne]
  · simp [u2_ne]
  · simp [u2_ne]
  · simp [u2_ne]
  · simp [u2_ne]
  · simp [u2_ne]
  · simp [u2_ne]
  · simp [u2_ne]
  · simp [u2_ne]
  · simp [u2_ne]
  · simp [u2_ne]
  · exact absurd rfl h
  · simp [u2_ne]
  · simp [u2_ne]
  · simp [u2_ne]
  · simp [u2_ne]
  · rfl
theorem en_m33 {I : Nat → Nat → Int32} {P : Nat → Nat → Option Nat} {M : Nat → Nat → Int32} {k : Nat} {v : Int32} {a : Nat} (h : a ≠ 188) : en I P (u2 M 33 k v) a = en I P M a := by
  unfold en
  split
  · rfl
  split
  · rfl
  split
  · rfl
  split
  · rfl
  split
  · rfl
  split
  · rfl
  unfold en3; split
  · simp [cMod, u2_ne]
  · simp [u2_ne]
  · simp [u2_ne]
  · simp [u2_ne]
  · simp [u2_ne]
  · simp [u2_ne]
  · simp [u2_ne]
  · simp [u2_ne]
  · simp [u2_ne]
  · simp [u2_ne]
  · simp [u2_ne]
  · simp [u2_ne]
  · simp [u2_ne]
  · simp [u2_ne]
  · simp [u2_ne]
  · simp [u2_ne]
  · simp [u2_ne]
  · simp [u2_ne]
  · simp [u2_ne]
  · simp [u2_ne]
  · simp [u2_ne]
  · simp [u2_ne]
  · simp [u2_ne]
  · simp [u2_ne]
  · simp [u2_ne]
  · simp [u2_ne]
  · simp [u2_ne]
  · simp [u2_ne]
  · simp [u2_ne]
  · simp [u2_ne]
  · simp [u2_ne]
  · exact absurd rfl h
  · simp [u2_ne]
  · simp [u2_ne]
  · simp [u2_ne]
  · rfl
theorem en_m34 {I : Nat → Nat → Int32} {P : Nat → Nat → Option Nat} {M : Nat → Nat → Int32} {k : Nat} {v : Int32} {a : Nat} (h : a ≠ 189) : en I P (u2 M 34 k v) a = en I P M a := by
  unfold en
  split
  · rfl
  split
  · rfl
  split
  · rfl
  split
  · rfl
  split
  · rfl
  split
  · rfl
  unfold en3; split
  · simp [cMod, u2_ne]
  · simp [u2_ne]
  · simp [u2_ne]
  · simp [u2_ne]
  · simp [u2_ne]
  · simp [u2_ne]
  · simp [u2_ne]
  · simp [u2_ne]
  · simp [u2_ne]
  · simp [u2_ne]
  · simp [u2_ne]
  · simp [u2_ne]
  · simp [u2_ne]
  · simp [u2_ne]
  · simp [u2_ne]
  · simp [u2_ne]
  · simp [u2_ne]
  · simp [u2_ne]
  · simp [u2_ne]
  · simp [u2_ne]
  · simp [u2_ne]
  · simp [u2_ne]
  · simp [u2_ne]
  · simp [u2_ne]
  · simp [u2_ne]
  · simp [u2_ne]
  · simp [u2_ne]
  · simp [u2_ne]
  · simp [u2_ne]
  · simp [u2_ne]
  · simp [u2_ne]
  · simp [u2_ne]
  · exact absurd rfl h
  · simp [u2_ne]
  · simp [u2_ne]
  · rfl
theorem en_m35 {I : Nat → Nat → Int32} {P : Nat → Nat → Option Nat} {M : Nat → Nat → Int32} {k : Nat} {v : Int32} {a : Nat} (h : a ≠ 190) : en I P (u2 M 35 k v) a = en I P M a := by
  unfold en
  split
  · rfl
  split
  · rfl
  split
  · rfl
  split
  · rfl
  split
  · rfl
  split
  · rfl
  unfold en3; split
  · simp [cMod, u2_ne]
  · simp [u2_ne]
  · simp [u2_ne]
  · simp [u2_ne]
  · simp [u2_ne]
  · simp [u2_ne]
  · simp [u2_ne]
  · simp [u2_ne]
  · simp [u2_ne]
  · simp [u2_ne]
  · simp [u2_ne]
  · simp [u2_ne]
  · simp [u2_ne]
  · simp [u2_ne]
  · simp [u2_ne]
  · simp [u2_ne]
  · simp [u2_ne]
  · simp [u2_ne]
  · simp [u2_ne]
  · simp [u2_ne]
  · simp [u2_ne]
  · simp [u2_ne]
  · simp [u2_ne]
  · simp [u2_ne]
  · simp [u2_ne]
  · simp [u2_ne]
  · simp [u2_ne]
  · simp [u2_ne]
  · simp [u2_ne]
  · simp [u2_ne]
  · simp [u2_ne]
  · simp [u2_ne]
  · simp [u2_ne]
  · exact absurd rfl h
  · simp [u2_ne]
  · rfl
theorem en_m36 {I : Nat → Nat → Int32} {P : Nat → Nat → Option Nat} {M : Nat → Nat → Int32} {k : Nat} {v : Int32} {a : Nat} (h : a ≠ 157) : en I P (u2 M 36 k v) a = en I P M a := by
  unfold en
  split
  · rfl
  split
  · rfl
  split
  · rfl
  split
  · rfl
  split
  · rfl
  split
  · rfl
  unfold en3; split
  · exact absurd rfl h
  all_goals simp [u2_ne]
theorem en_m37 {I : Nat → Nat → Int32} {P : Nat → Nat → Option Nat} {M : Nat → Nat → Int32} {k : Nat} {v : Int32} {a : Nat} (h : a ≠ 157) : en I P (u2 M 37 k v) a = en I P M a := by
  unfold en
  split
  · rfl
  split
  · rfl
  split
  · rfl
  split
  · rfl
  split
  · rfl
  split
  · rfl
  unfold en3; split
  · exact absurd rfl h
  all_goals simp [u2_ne]
theorem en_m38 {I : Nat → Nat → Int32} {P : Nat → Nat → Option Nat} {M : Nat → Nat → Int32} {k : Nat} {v : Int32} {a : Nat} (h : a ≠ 157) : en I P (u2 M 38 k v) a = en I P M a := by
  unfold en
  split
  · rfl
  split
  · rfl
  split
  · rfl
  split
  · rfl
  split
  · rfl
  split
  · rfl
  unfold en3; split
  · exact absurd rfl h
  all_goals simp [u2_ne]
theorem en_m39 {I : Nat → Nat → Int32} {P : Nat → Nat → Option Nat} {M : Nat → Nat → Int32} {k : Nat} {v : Int32} {a : Nat} (h : a ≠ 157) : en I P (u2 M 39 k v) a = en I P M a := by
  unfold en
  split
  · rfl
  split
  · rfl
  split
  · rfl
  split
  · rfl
  split
  · rfl
  split
  · rfl
  unfold en3; split
  · exact absurd rfl h
  all_goals simp [u2_ne]
theorem en_m40 {I : Nat → Nat → Int32} {P : Nat → Nat → Option Nat} {M : Nat → Nat → Int32} {k : Nat} {v : Int32} {a : Nat} (h : a ≠ 157) : en I P (u2 M 40 k v) a = en I P M a := by
  unfold en
  split
  · rfl
  split
  · rfl
  split
  · rfl
  split
  · rfl
  split
  · rfl
  split
  · rfl
  unfold en3; split
  · exact absurd rfl h
  all_goals simp [u2_ne]
theorem en_m41 {I : Nat → Nat → Int32} {P : Nat → Nat → Option Nat} {M : Nat → Nat → Int32} {k : Nat} {v : Int32} {a : Nat} (h : a ≠ 157) : en I P (u2 M 41 k v) a = en I P M a := by
  unfold en
  split
  · rfl
  split
  · rfl
  split
  · rfl
  split
  · rfl
  split
  · rfl
  split
  · rfl
  unfold en3; split
  · exact absurd rfl h
  all_goals simp [u2_ne]
theorem en_m42 {I : Nat → Nat → Int32} {P : Nat → Nat → Option Nat} {M : Nat → Nat → Int32} {k : Nat} {v : Int32} {a : Nat} (h : a ≠ 157) : en I P (u2 M 42 k v) a = en I P M a := by
  unfold en
  split
  · rfl
  split
  · rfl
  split
  · rfl
  split
  · rfl
  split
  · rfl
  split
  · rfl
  unfold en3; split
  · exact absurd rfl h
  all_goals simp [u2_ne]
theorem en_m43 {I : Nat → Nat → Int32} {P : Nat → Nat → Option Nat} {M : Nat → Nat → Int32} {k : Nat} {v : Int32} {a : Nat} (h : a ≠ 191) : en I P (u2 M 43 k v) a = en I P M a := by
  unfold en
  split
  · rfl
  split
  · rfl
  split
  · rfl
  split
  · rfl
  split
  · rfl
  split
  · rfl
  unfold en3; split
  · simp [cMod, u2_ne]
  · simp [u2_ne]
  · simp [u2_ne]
  · simp [u2_ne]
  · simp [u2_ne]
  · simp [u2_ne]
  · simp [u2_ne]
  · simp [u2_ne]
  · simp [u2_ne]
  · simp [u2_ne]
  · simp [u2_ne]
  · simp [u2_ne]
  · simp [u2_ne]
  · simp [u2_ne]
  · simp [u2_ne]
  · simp [u2_ne]
  · simp [u2_ne]
  · simp [u2_ne]
  · simp [u2_ne]
  · simp [u2_ne]
  · simp [u2_ne]
  · simp [u2_ne]
  · simp [u2_ne]
  · simp [u2_ne]
  · simp [u2_ne]
  · simp [u2_ne]
  · simp [u2_ne]
  · simp [u2_ne]
  · simp [u2_ne]
  · simp [u2_ne]
  · simp [u2_ne]
  · simp [u2_ne]
  · simp [u2_ne]
  · simp [u2_ne]
  · exact absurd rfl h
  · rfl
theorem en_m44 {I : Nat → Nat → Int32} {P : Nat → Nat → Option Nat} {M : Nat → Nat → Int32} {k : Nat} {v : Int32} {a : Nat} (h : a ≠ 157) : en I P (u2 M 44 k v) a = en I P M a := by
  unfold en
  split
  · rfl
  split
  · rfl
  split
  · rfl
  split
  · rfl
  split
  · rfl
  split
  · rfl
  unfold en3; split
  · exact absurd rfl h
  all_goals simp [u2_ne]
theorem en_m45 {I : Nat → Nat → Int32} {P : Nat → Nat → Option Nat} {M : Nat → Nat → Int32} {k : Nat} {v : Int32} {a : Nat} (h : a ≠ 157) : en I P (u2 M 45 k v) a = en I P M a := by
  unfold en
  split
  · rfl
  split
  · rfl
  split
  · rfl
  split
  · rfl
  split
  · rfl
  split
  · rfl
  unfold en3; split
  · exact absurd rfl h
  all_goals simp [u2_ne]
theorem en_p0 {I : Nat → Nat → Int32} {P : Nat → Nat → Option Nat} {M : Nat → Nat → Int32} {k : Nat} {v : Option Nat} {a : Nat} (h : a ≠ (7 + k)) : en I (u2 P 0 k v) M a = en I P M a := by
  unfold en
  split
  · unfold en1; simp [u2_ne]
  split
  · have hk : a - 7 ≠ k := by omega
    unfold cReq; simp [u2_ne, u2_at, hk]
  split
  · unfold en2; simp [u2_ne]
  rfl
theorem en_p1 {I : Nat → Nat → Int32} {P : Nat → Nat → Option Nat} {M : Nat → Nat → Int32} {k : Nat} {v : Option Nat} {a : Nat} (h : a ≠ (7 + k)) : en I (u2 P 1 k v) M a = en I P M a := by
  unfold en
  split
  · unfold en1; simp [u2_ne]
  split
  · have hk : a - 7 ≠ k := by omega
    unfold cReq; simp [u2_ne, u2_at, hk]
  split
  · unfold en2; simp [u2_ne]
  rfl
theorem en_p2 {I : Nat → Nat → Int32} {P : Nat → Nat → Option Nat} {M : Nat → Nat → Int32} {k : Nat} {v : Option Nat} {a : Nat} (h : a ≠ (7 + k)) : en I (u2 P 2 k v) M a = en I P M a := by
  unfold en
  split
  · unfold en1; simp [u2_ne]
  split
  · have hk : a - 7 ≠ k := by omega
    unfold cReq; simp [u2_ne, u2_at, hk]
  split
  · unfold en2; simp [u2_ne]
  rfl
theorem en_p3 {I : Nat → Nat → Int32} {P : Nat → Nat → Option Nat} {M : Nat → Nat → Int32} {k : Nat} {v : Option Nat} {a : Nat} (h : a ≠ (7 + k)) : en I (u2 P 3 k v) M a = en I P M a := by
  unfold en
  split
  · unfold en1; simp [u2_ne]
  split
  · have hk : a - 7 ≠ k := by omega
    unfold cReq; simp [u2_ne, u2_at, hk]
  split
  · unfold en2; simp [u2_ne]
  rfl
theorem en_p4 {I : Nat → Nat → Int32} {P : Nat → Nat → Option Nat} {M : Nat → Nat → Int32} {k : Nat} {v : Option Nat} {a : Nat} (h : a ≠ (7 + k)) : en I (u2 P 4 k v) M a = en I P M a := by
  unfold en
  split
  · unfold en1; simp [u2_ne]
  split
  · have hk : a - 7 ≠ k := by omega
    unfold cReq; simp [u2_ne, u2_at, hk]
  split
  · unfold en2; simp [u2_ne]
  rfl
theorem en_p10 {I : Nat → Nat → Int32} {P : Nat → Nat → Option Nat} {M : Nat → Nat → Int32} {k : Nat} {v : Option Nat} {a : Nat} (h : a ≠ 6) : en I (u2 P 10 k v) M a = en I P M a := by
  unfold en
  split
  · unfold en1; split
    · rfl
    · rfl
    · rfl
    · rfl
    · rfl
    · exact absurd rfl h
    · rfl
  split
  · unfold cReq; simp [u2_ne]
  split
  · unfold en2; simp [u2_ne]
  rfl
theorem en_p11 {I : Nat → Nat → Int32} {P : Nat → Nat → Option Nat} {M : Nat → Nat → Int32} {k : Nat} {v : Option Nat} {a : Nat} (h : a ≠ 39) : en I (u2 P 11 k v) M a = en I P M a := by
  unfold en
  split
  · unfold en1; simp [u2_ne]
  split
  · unfold cReq; simp [u2_ne]
  split
  · unfold en2; split
    · rfl
    · rfl
    · exact absurd rfl h
    · simp [u2_ne]
    · rfl
  rfl
theorem en_p12 {I : Nat → Nat → Int32} {P : Nat → Nat → Option Nat} {M : Nat → Nat → Int32} {k : Nat} {v : Option Nat} {a : Nat} (h : a ≠ 40) : en I (u2 P 12 k v) M a = en I P M a := by
  unfold en
  split
  · unfold en1; simp [u2_ne]
  split
  · unfold cReq; simp [u2_ne]
  split
  · unfold en2; split
    · rfl
    · rfl
    · simp [u2_ne]
    · exact absurd rfl h
    · rfl
  rfl
