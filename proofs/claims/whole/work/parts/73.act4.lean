/-! ===== a step: what becomes of it, and the reference does it ===== -/
theorem mDo_op {M : Nat → Nat → Int32} {R i g m a n o : Nat} (hs : atS M i g m a n) (ha : a < 100) (ho : o < 15) (hop : M 5 (8 * (4 * (g / 8) + m) + a) = nI o) : mDo M R i = mDo1 M R i g (8 * (4 * (g / 8) + m) + a) o := by
  obtain ⟨s1, s2, s3, s4, s5, s6, s7⟩ := hs
  have e : mQ M i = (8 * (4 * (g / 8) + m) + a) := by unfold mQ; rw [s1, s3, s5, nn_nI (by omega), nn_nI (by omega), nn_nI (by omega)]
  unfold mDo
  rw [e, hop, s1, nn_nI (by omega), nn_nI (by omega)]
/-- outcome: goes on, turn over, fails -/
def outc (M : Nat → Nat → Int32) (r : (Nat → Nat → Int32) × Int32) (R W i O Q a : Nat) (y : Int32) : Prop := (r.2 = 0 ∧ goes M r.1 i O Q a y) ∨ (r.2 = -1 ∧ ∃ R' W', J r.1 R' W' (R' + 32) O (Q + 1) (-1) (-1)) ∨ (0 < r.2 ∧ runs r.1 R W i O Q y)
theorem op_of {M : Nat → Nat → Int32} {R W i g m a n O Q : Nat} {y : Int32} (h : runs M R W i O Q y) (hs : atS M i g m a n) (hn : a < n) : ∃ o : Nat, o < 15 ∧ M 5 (8 * (4 * (g / 8) + m) + a) = nI o ∧ stOk o (M 6 (8 * (4 * (g / 8) + m) + a)) (M 7 (8 * (4 * (g / 8) + m) + a)) := by
  obtain ⟨s1, s2, s3, s4, s5, s6, s7⟩ := hs
  exact h.1.t (4 * (g / 8) + m) (by omega) n a s6 s7 hn
theorem mDo_J {M : Nat → Nat → Int32} {R W i g m a n O Q : Nat} {y : Int32} (h : runs M R W i O Q y) (hQ : Q + 1 < 2 ^ 30) (hs : atS M i g m a n) (hn : a < n) : outc M (mDo M R i) R W i O Q a y := by
  obtain ⟨o, ho, hop, v1, v2, v3, v4⟩ := op_of h hs hn
  have hs' := hs
  obtain ⟨s1, s2, s3, s4, s5, s6, s7⟩ := hs'
  rw [mDo_op hs (by omega) ho hop]
  have hst := h.step s5 (by omega)
  have h30 := h.1.h30
  rcases (show o = 0 ∨ o = 1 ∨ o = 2 ∨ o = 3 ∨ o = 4 ∨ o = 5 ∨ o = 6 ∨ o = 7 ∨ o = 8 ∨ o = 9 ∨ o = 10 ∨ o = 11 ∨ o = 12 ∨ o = 13 ∨ o = 14 by omega) with rfl | rfl | rfl | rfl | rfl | rfl | rfl | rfl | rfl | rfl | rfl | rfl | rfl | rfl | rfl
  · exact Or.inl ⟨rfl, d_9 h hQ hs hn⟩
  · exact Or.inl ⟨rfl, d_9 h hQ hs hn⟩
  · exact Or.inl ⟨rfl, d_9 h hQ hs hn⟩
  · obtain ⟨⟨w1, w2⟩, w3, w4⟩ := v1 (by omega)
    obtain ⟨b, b1, b2⟩ := inN (n := 32) (by decide) ⟨w1, w2⟩
    obtain ⟨c, c1, c2⟩ := inN (n := 4) (by decide) ⟨w3, w4⟩
    by_cases hR : R = 30
    · rcases mCatch_01 (mStep M i) i with hc | hc
      · have e : mDo1 M R i g (8 * (4 * (g / 8) + m) + a) 3 = (mStep M i, 102) := by show (if R = 30 then _ else _) = _; rw [if_pos hR, if_neg (by rw [hc]; decide)]
        rw [e]
        exact Or.inr (Or.inr ⟨by show (0 : Int32) < 102; decide, hst⟩)
      · have e : mDo1 M R i g (8 * (4 * (g / 8) + m) + a) 3 = (mCaught (mStep M i) i, 0) := by show (if R = 30 then _ else _) = _; rw [if_pos hR, if_pos hc]
        rw [e]
        exact Or.inl ⟨rfl, d_3c h hQ hs hn hc⟩
    · have e : mDo1 M R i g (8 * (4 * (g / 8) + m) + a) 3 = (mInvoke (mStep M i) R i g b c, -1) := by show (if R = 30 then _ else _) = _; rw [if_neg hR, b2, c2, nn_nI (by omega), nn_nI (by omega)]
      rw [e]
      exact Or.inr (Or.inl ⟨rfl, d_3 h hQ hs hn (by omega) b1 c1⟩)
  · obtain ⟨⟨w1, w2⟩, w3, w4⟩ := v1 (by omega)
    obtain ⟨b, b1, b2⟩ := inN (n := 32) (by decide) ⟨w1, w2⟩
    obtain ⟨c, c1, c2⟩ := inN (n := 4) (by decide) ⟨w3, w4⟩
    by_cases hR : R = 30
    · have e : mDo1 M R i g (8 * (4 * (g / 8) + m) + a) 4 = (mStep M i, 102) := by show (if R = 30 then _ else _) = _; rw [if_pos hR]
      rw [e]
      exact Or.inr (Or.inr ⟨by show (0 : Int32) < 102; decide, hst⟩)
    · have e : mDo1 M R i g (8 * (4 * (g / 8) + m) + a) 4 = (mMake (mStep M i) R b (nI c) (M 9 g) (-1) 0, 0) := by show (if R = 30 then _ else _) = _; rw [if_neg hR, b2, c2, nn_nI (by omega)]
      rw [e]
      exact Or.inl ⟨rfl, d_4 h hQ hs hn (by omega) b1 c1⟩
  · by_cases hw : M 42 0 = 0
    · have e : mDo1 M R i g (8 * (4 * (g / 8) + m) + a) 5 = (mSave (mStep M i) g, 0) := by show (if M 42 0 = 0 then _ else _) = _; rw [if_pos hw]
      rw [e]
      exact Or.inl ⟨rfl, d_5 h hQ hs hn⟩
    · have e : mDo1 M R i g (8 * (4 * (g / 8) + m) + a) 5 = (mWorked (mStep M i), 101) := by show (if M 42 0 = 0 then _ else _) = _; rw [if_neg hw]
      rw [e]
      exact Or.inr (Or.inr ⟨by show (0 : Int32) < 101; decide, hst.worked⟩)
  · exact Or.inr (Or.inl ⟨rfl, d_6 h hQ hs hn⟩)
  · obtain ⟨w1, w2⟩ := v2 rfl
    obtain ⟨b, b1, b2⟩ := inN (n := 99) (by decide) ⟨w1, w2⟩
    have hb : M 6 (8 * (4 * (g / 8) + m) + a) = nI (b + 1) := by rw [← nI_1, ← b2]; exact (Int32.sub_add_cancel _ _).symm
    exact Or.inr (Or.inr ⟨by show 0 < M 6 (8 * (4 * (g / 8) + m) + a); rw [hb]; exact nI_lt (a := 0) (by omega) (by omega), hst⟩)
  · exact Or.inl ⟨rfl, d_10 h hQ hs hn⟩
  · exact Or.inl ⟨rfl, d_15 h hQ hs hn (v3 (by omega)).1⟩
  · exact Or.inl ⟨rfl, d_16 h hQ hs hn⟩
  · exact Or.inl ⟨rfl, d_11 h hQ hs hn⟩
  · obtain ⟨w1, w2⟩ := v4 rfl
    obtain ⟨b, b1, b2⟩ := inN (n := 7) (by decide) ⟨w1, w2⟩
    have hb : M 6 (8 * (4 * (g / 8) + m) + a) = nI (b + 1) := by rw [← nI_1, ← b2]; exact (Int32.sub_add_cancel _ _).symm
    have e : mDo1 M R i g (8 * (4 * (g / 8) + m) + a) 12 = (if M 21 i < 0 then u2 (mStep M i) 22 i (M 22 i + 1 + nI (b + 1)) else mStep M i, 0) := by show (if M 21 i < 0 then u2 (mStep M i) 22 i (M 22 i + 1 + M 6 (8 * (4 * (g / 8) + m) + a)) else mStep M i, _) = _; rw [hb]
    rw [e]
    exact Or.inl ⟨rfl, d_12 h hQ hs hn (by omega)⟩
  · exact Or.inl ⟨rfl, d_21 h hQ hs hn⟩
  · exact Or.inl ⟨rfl, d_9 h hQ hs hn⟩
/-- what act does with it -/
noncomputable def actR (r : (Nat → Nat → Int32) × Int32) (R i : Nat) : Int32 × (Nat → Nat → Int32) := if r.2 = 0 then (1, r.1) else if r.2 = -1 then (0, r.1) else (0, mOver r.1 R i 0 r.2)
theorem actR_0 {N : Nat → Nat → Int32} {R i : Nat} : actR (N, 0) R i = (1, N) := rfl
theorem actR_m {N : Nat → Nat → Int32} {R i : Nat} : actR (N, -1) R i = (0, N) := by unfold actR; rw [if_neg (show ¬ (-1 : Int32) = 0 by decide), if_pos rfl]
theorem actR_c {N : Nat → Nat → Int32} {R i : Nat} {c : Int32} (h : 0 < c) : actR (N, c) R i = (0, mOver N R i 0 c) := by
  unfold actR
  rw [if_neg (fun z => by simp only at z; rw [z] at h; exact absurd h (by decide)), if_neg (fun z => by simp only at z; rw [z] at h; exact absurd h (by decide))]
theorem u100 {X : Nat × (Nat → Int32)} {d : Nat} {I : Nat → Nat → Int32} {P : Nat → Nat → Option Nat} {M : Nat → Nat → Int32} {R W i g m a n O Q : Nat} {y : Int32} (h : runs M R W i O Q y) (hQ : Q + 1 < 2 ^ 30) (hs : atS M i g m a n) (hn : a < n) (hd : 5 ≤ d) : jv_F gw X d 100 [.ref 157, .int (nI i)] (he I P M) = some (some (.int (actR (mDo M R i) R i).1), he I P (actR (mDo M R i) R i).2) := by
  obtain ⟨o, ho, hop, v1, v2, v3, v4⟩ := op_of h hs hn
  have hs' := hs
  obtain ⟨s1, s2, s3, s4, s5, s6, s7⟩ := hs'
  rw [mDo_op hs (by omega) ho hop]
  have hst := h.step s5 (by omega)
  have h30 := h.1.h30
  have hi : i < 30 := by have := h.2.1; omega
  have h23 : M 23 i = 1 := h.2.2.2
  have hst23 : mStep M i 23 i = 1 := by rw [mStep_at (by decide)]; exact h23
  obtain ⟨R0, hR0⟩ : ∃ q, R = q + 1 := ⟨R - 1, by have := h.2.1; omega⟩
  have hok : okM (mStep M i) (R0 + 1) W (R0 + 32) := by have := hst.1.ok; rw [hR0] at this; exact this
  have hiR : i < R0 + 1 := by have := h.2.1; omega
  rcases (show o = 0 ∨ o = 1 ∨ o = 2 ∨ o = 3 ∨ o = 4 ∨ o = 5 ∨ o = 6 ∨ o = 7 ∨ o = 8 ∨ o = 9 ∨ o = 10 ∨ o = 11 ∨ o = 12 ∨ o = 13 ∨ o = 14 by omega) with rfl | rfl | rfl | rfl | rfl | rfl | rfl | rfl | rfl | rfl | rfl | rfl | rfl | rfl | rfl
  · exact t100_0 hi hs hn hop (by omega)
  · exact t100_1 hi hs hn hop (by omega)
  · exact t100_2 hi hs hn hop (by omega)
  · obtain ⟨⟨w1, w2⟩, w3, w4⟩ := v1 (by omega)
    obtain ⟨b, b1, b2⟩ := inN (n := 32) (by decide) ⟨w1, w2⟩
    obtain ⟨c, c1, c2⟩ := inN (n := 4) (by decide) ⟨w3, w4⟩
    obtain ⟨d, rfl⟩ : ∃ q, d = q + 1 := ⟨d - 1, by omega⟩
    by_cases hR : R = 30
    · have hok30 : okM (mStep M i) 30 W 61 := by have := hst.1.ok; rw [hR] at this; exact this
      rcases mCatch_01 (mStep M i) i with hc | hc
      · have e : mDo1 M R i g (8 * (4 * (g / 8) + m) + a) 3 = (mStep M i, 102) := by show (if R = 30 then _ else _) = _; rw [if_pos hR, if_neg (by rw [hc]; decide)]
        rw [e, actR_c (by decide), hR]
        refine t100_3 hi hs hn hop ?_ (Or.inl rfl)
        rw [b2, c2]
        exact (t101c hok30 hi hst23 hc (by omega)).1
      · have e : mDo1 M R i g (8 * (4 * (g / 8) + m) + a) 3 = (mCaught (mStep M i) i, 0) := by show (if R = 30 then _ else _) = _; rw [if_pos hR, if_pos hc]
        rw [e, actR_0]
        refine t100_3 hi hs hn hop ?_ (Or.inr rfl)
        rw [b2, c2]
        exact t101b hok30 hi hc (by omega)
    · have e : mDo1 M R i g (8 * (4 * (g / 8) + m) + a) 3 = (mInvoke (mStep M i) R i g b c, -1) := by show (if R = 30 then _ else _) = _; rw [if_neg hR, b2, c2, nn_nI (by omega), nn_nI (by omega)]
      rw [e, actR_m]
      refine t100_3 hi hs hn hop ?_ (Or.inl rfl)
      rw [b2, c2]
      exact (t101a hst.1.ok (by omega) h.2.1 hst23 s2 (by rw [mStep_at (by decide)]; exact s1) b1 c1 (hst.1.n.1 i h.2.1).1 (by omega)).1
  · obtain ⟨⟨w1, w2⟩, w3, w4⟩ := v1 (by omega)
    obtain ⟨b, b1, b2⟩ := inN (n := 32) (by decide) ⟨w1, w2⟩
    obtain ⟨c, c1, c2⟩ := inN (n := 4) (by decide) ⟨w3, w4⟩
    by_cases hR : R = 30
    · have hok30 : okM (mStep M i) 30 W 61 := by have := hst.1.ok; rw [hR] at this; exact this
      have e : mDo1 M R i g (8 * (4 * (g / 8) + m) + a) 4 = (mStep M i, 102) := by show (if R = 30 then _ else _) = _; rw [if_pos hR]
      rw [e, actR_c (by decide), hR]
      exact (t100_4b hi hs hn hop hok30 h23 (by omega)).1
    · have e : mDo1 M R i g (8 * (4 * (g / 8) + m) + a) 4 = (mMake (mStep M i) R b (nI c) (M 9 g) (-1) 0, 0) := by show (if R = 30 then _ else _) = _; rw [if_neg hR, b2, c2, nn_nI (by omega)]
      rw [e, actR_0]
      exact t100_4a hi hs hn hop hst.1.ok (by omega) (by omega) b2 b1 c2 c1 (by omega)
  · by_cases hw : M 42 0 = 0
    · have e : mDo1 M R i g (8 * (4 * (g / 8) + m) + a) 5 = (mSave (mStep M i) g, 0) := by show (if M 42 0 = 0 then _ else _) = _; rw [if_pos hw]
      rw [e, actR_0]
      exact t100_5a hi hs hn hop hw (by omega)
    · have e : mDo1 M R i g (8 * (4 * (g / 8) + m) + a) 5 = (mWorked (mStep M i), 101) := by show (if M 42 0 = 0 then _ else _) = _; rw [if_neg hw]
      rw [e, actR_c (by decide), hR0]
      exact (t100_5b hi hs hn hop hok hiR h23 hw (by omega)).1
  · rw [show mDo1 M R i g (8 * (4 * (g / 8) + m) + a) 6 = (mQueue (mStep M i) (M 17 i), -1) from rfl, actR_m]
    exact t100_6 hi hs hn hop h.1.hW h.1.ok.W (by omega)
  · obtain ⟨w1, w2⟩ := v2 rfl
    obtain ⟨b, b1, b2⟩ := inN (n := 99) (by decide) ⟨w1, w2⟩
    have hb : M 6 (8 * (4 * (g / 8) + m) + a) = nI (b + 1) := by rw [← nI_1, ← b2]; exact (Int32.sub_add_cancel _ _).symm
    rw [show mDo1 M R i g (8 * (4 * (g / 8) + m) + a) 7 = (mStep M i, M 6 (8 * (4 * (g / 8) + m) + a)) from rfl, actR_c (by rw [hb]; exact nI_lt (a := 0) (by omega) (by omega)), hR0]
    exact (t100_7 hi hs hn hop hok hiR h23 (by omega)).1
  · exact t100_8 hi hs hn hop (by omega)
  · exact t100_9 hi hs hn hop (by omega)
  · exact t100_10 hi hs hn hop (by omega)
  · exact t100_11 hi hs hn hop (by omega)
  · exact t100_12 hi hs hn hop (by omega)
  · exact t100_13 hi hs hn hop (by omega)
  · exact t100_14 hi hs hn hop (by omega)
/-- a turn of the request with number n: fuel is the number of steps it may still do -/
noncomputable def mTurn (n : Int32) : Nat → (Nat → Nat → Int32) → (Nat → Nat → Int32)
  | 0, M => M
  | f + 1, M =>
    let R := nn (M 28 0)
    let i := nn (mFind M n R 0)
    if M 4 (4 * (nn (M 18 i) / 8) + nn (M 19 i)) ≤ M 22 i then mOver M R i (M 9 (nn (M 18 i))) 0
    else if (mDo M R i).2 = 0 then mTurn n f (mDo M R i).1 else if (mDo M R i).2 = -1 then (mDo M R i).1 else mOver (mDo M R i).1 R i 0 (mDo M R i).2
theorem runs.at {M : Nat → Nat → Int32} {R W i O Q : Nat} {y : Int32} (h : runs M R W i O Q y) : ∃ g m a n, atS M i g m a n ∧ a < 100 ∧ nn (M 18 i) = g ∧ nn (M 19 i) = m ∧ nn (M 28 0) = R ∧ nn (mFind M y R 0) = i := by
  obtain ⟨g, m, a, b1, b2, b3, b4, b5, b6⟩ := h.1.row h.2.1
  obtain ⟨n, n1, n2⟩ := h.1.ok.2.2.2.2.1 (4 * (g / 8) + m) (by omega)
  have h30 := h.1.h30
  have hi := h.2.1
  exact ⟨g, m, a, n, ⟨b1, b2, b3, b4, b5, n1, n2⟩, b6, by rw [b1, nn_nI (by omega)], by rw [b3, nn_nI (by omega)], by rw [h.1.hR, nn_nI (by omega)], by rw [mFind_at h.1.n hi h.2.2.1, nn_nI (by omega)]⟩
theorem mTurn_s {M : Nat → Nat → Int32} {R W i g m a n O Q f : Nat} {y : Int32} (h : runs M R W i O Q y) (hs : atS M i g m a n) (ha : a < 100) : mTurn y (f + 1) M = if n ≤ a then mOver M R i (M 9 g) 0 else if (mDo M R i).2 = 0 then mTurn y f (mDo M R i).1 else if (mDo M R i).2 = -1 then (mDo M R i).1 else mOver (mDo M R i).1 R i 0 (mDo M R i).2 := by
  obtain ⟨g', m', a', n', e1, e2, e3, e4, e5, e6⟩ := h.at
  obtain ⟨s1, s2, s3, s4, s5, s6, s7⟩ := hs
  have eg : nn (M 18 i) = g := by rw [s1, nn_nI (by omega)]
  have em : nn (M 19 i) = m := by rw [s3, nn_nI (by omega)]
  rw [mTurn]
  simp only [e5, e6, eg, em, s6, s5]
  by_cases hz : n ≤ a
  · rw [if_pos (nI_le hz (by omega)), if_pos hz]
  · rw [if_neg (nI_ge (by omega) (by omega)), if_neg hz]
theorem J.turn {O : Nat} {y : Int32} : ∀ (f : Nat) (M : Nat → Nat → Int32) (R W i Q a : Nat), runs M R W i O Q y → Q + f < 2 ^ 30 → M 22 i = nI a → a < 100 → 9 ≤ a + f → 0 < f → ∃ R' W', J (mTurn y f M) R' W' (R' + 32) O (Q + f) (-1) (-1)
  | 0, _, _, _, _, _, _, _, _, _, _, _, h0 => absurd h0 (by omega)
  | f + 1, M, R, W, i, Q, a, h, hQ, ha, ha2, h9, _ => by
    obtain ⟨g, m, a', n, hs, ha', -⟩ := h.at
    have : a' = a := (nI_eq (by omega) (by omega)).mp (hs.2.2.2.2.1.symm.trans ha)
    subst this
    have h30 := h.1.h30
    rw [mTurn_s h hs ha2]
    by_cases hz : n ≤ a'
    · rw [if_pos hz]
      obtain ⟨R', W', q⟩ := h.over (v := M 9 g) (code := 0)
      exact ⟨R', W', q.mono (Nat.le_refl _) (by have := q.h30; omega) (by omega) hQ⟩
    · rw [if_neg hz]
      rcases mDo_J h (by omega) hs (by omega) with ⟨r1, R', W', r2, r3, r4, r5, b, b1, b2, b3⟩ | ⟨r1, R', W', r2⟩ | ⟨r1, r2⟩
      · rw [if_pos r1]
        have n8 := hs.2.2.2.2.2.2
        obtain ⟨R2, W2, q⟩ := J.turn f _ R' W' i (Q + 1) b r2 (by omega) b1 (by omega) (by omega) (by omega)
        exact ⟨R2, W2, by rw [show Q + (f + 1) = Q + 1 + f by omega]; exact q⟩
      · rw [if_neg (by rw [r1]; decide), if_pos r1]
        exact ⟨R', W', r2.mono (Nat.le_refl _) (by have := r2.h30; omega) (by omega) hQ⟩
      · rw [if_neg (fun z => by rw [z] at r1; exact absurd r1 (by decide)), if_neg (fun z => by rw [z] at r1; exact absurd r1 (by decide))]
        obtain ⟨R', W', q⟩ := r2.over (v := 0) (code := (mDo M R i).2)
        exact ⟨R', W', q.mono (Nat.le_refl _) (by have := q.h30; omega) (by omega) hQ⟩
