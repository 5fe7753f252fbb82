/-! ===== J: new requests ===== -/
theorem JL.new {nu st ln sta : Fn} {md : Int32} {R W : Nat} {y : Int32} (h : JL nu st ln sta R W y) (hy : ¬ md = y) : JL (va_up nu R md) (va_up st R 0) ln sta (R + 1) W y := by
  obtain ⟨a1, a2, a3⟩ := h
  refine ⟨fun k hk => ⟨(a1 k hk).1, ?_⟩, a2, fun k hk z => ?_⟩
  · rcases (a1 k hk).2 with b | ⟨j, j1, j2, j3⟩
    · exact Or.inl b
    · have : ¬ j = R := by omega
      exact Or.inr ⟨j, by omega, by simp only [va_up, if_neg this]; exact j2, by simp only [va_up, if_neg this]; exact j3⟩
  · by_cases hkR : k = R
    · subst hkR
      simp only [va_up, if_true] at z
      exact absurd z hy
    · simp only [va_up, if_neg hkR] at z ⊢
      exact a3 k (by omega) z
theorem okM.W_eq {M : Nat → Nat → Int32} {R W K V : Nat} (h : okM M R W K) (e : M 31 0 = nI V) (hV : V < 2 ^ 31) : W = V := (nI_eq (by have := h.W; omega) hV).mp (h.2.2.1.symm.trans e)
section JJ
variable {M : Nat → Nat → Int32} {R W K O Q : Nat} {y x : Int32}
theorem mNew_f {g : Nat} {m v by_ ch : Int32} : mNew M R g m v by_ ch 17 = va_up (M 17) R (M 29 0) ∧ mNew M R g m v by_ ch 18 = va_up (M 18) R (nI g) ∧ mNew M R g m v by_ ch 23 = va_up (M 23) R 0 ∧ mNew M R g m v by_ ch 24 = va_up (M 24) R (-1) ∧ mNew M R g m v by_ ch 25 = va_up (M 25) R 0 ∧ mNew M R g m v by_ ch 26 = va_up (M 26) R by_ ∧ mNew M R g m v by_ ch 11 = va_up (M 11) g 0 ∧ mNew M R g m v by_ ch 29 0 = M 29 0 + 1 := by
  unfold mNew
  refine ⟨?_, ?_, ?_, ?_, ?_, ?_, ?_, ?_⟩ <;> simp [u2_ne, u2_eq, va_up]
theorem mNew_at {g f : Nat} {m v by_ ch : Int32} (h : f < 17 ∨ 29 < f) (h2 : f ≠ 11) : mNew M R g m v by_ ch f = M f := by
  unfold mNew
  rw [u2_ne h2, u2_ne (by omega), u2_ne (by omega), u2_ne (by omega), u2_ne (by omega), u2_ne (by omega), u2_ne (by omega), u2_ne (by omega), u2_ne (by omega), u2_ne (by omega), u2_ne (by omega), u2_ne (by omega), u2_ne (by omega), u2_ne (by omega)]
theorem JG.idle {sta va ti id ev du le : Fn} {g : Nat} (h : JG sta va ti id ev du le) : JG sta va ti (va_up id g 0) ev du le := by
  intro k hk
  obtain ⟨h1, h2⟩ := h k hk
  refine ⟨?_, h2⟩
  rcases h1 with z | ⟨z1, z2, z3, z4, z5⟩
  · exact Or.inl z
  · exact Or.inr ⟨z1, z2, z3, by simp only [va_up]; split <;> first | rfl | exact z4, z5⟩
theorem J.lt1 (h : J M R W K O Q y x) : M 29 0 < M 29 0 + 1 := by
  obtain ⟨n, n1, n2, n3⟩ := h.n.2.2
  rw [n1, nI_1]
  exact nI_lt (by omega) (by omega)
theorem J.new (h : J M R W K O Q y (-1)) {g mm : Nat} {v by_ ch : Int32} (hR : R < 30) (hg : g < 32) (hm : mm < 4) (hy : ¬ M 29 0 = y) (hb : by_ = -1) (hK : K + 1 ≤ 62) (hQ : Q + 1 < 2 ^ 30) : J (mNew M R g (nI mm) v by_ ch) (R + 1) W (K + 1) O (Q + 1) y (-1) := by
  obtain ⟨f17, f18, f23, f24, f25, f26, f11, f29⟩ := mNew_f (M := M) (R := R) (g := g) (m := nI mm) (v := v) (by_ := by_) (ch := ch)
  have hl := h.lt1
  have hq : ∀ c, c < O → ¬ M 34 c = M 29 0 := fun c hc z => by
    have := h.q c hc
    rw [z] at this
    exact absurd this Int32.lt_irrefl
  refine ⟨h.ok.new hR hg hm (fun z => by rw [hb] at z; exact absurd z (by decide)) hK, ?_, ?_, ?_, ?_, ?_, ?_, ?_, ?_⟩
  · rw [f17, f29]; exact h.n.new hQ
  · rw [f18, f23, mNew_at (by omega) (by decide)]; exact h.s.new
  · rw [f17, f23, mNew_at (by omega) (by decide), mNew_at (by omega) (by decide)]; exact h.l.new hy
  · rw [f17, f23, f24, f25, f26, mNew_at (by omega) (by decide), mNew_at (by omega) (by decide)]
    exact h.a.new h.n (Or.inl hb) (fun c hc _ z => absurd z (hq c hc))
  · rw [mNew_at (by omega) (by decide)]; exact h.o
  · intro c hc
    rw [f29, mNew_at (by omega) (by decide)]; exact Int32.lt_trans (h.q c hc) hl
  · rw [f11, mNew_at (by omega) (by decide), mNew_at (by omega) (by decide), mNew_at (by omega) (by decide), mNew_at (by omega) (by decide), mNew_at (by omega) (by decide), mNew_at (by omega) (by decide)]; exact h.g.idle
  · rw [mNew_at (by omega) (by decide), mNew_at (by omega) (by decide), mNew_at (by omega) (by decide), mNew_at (by omega) (by decide)]; exact h.t
/-- the grain of a new request -/
noncomputable def mMade (N : Nat → Nat → Int32) (R g : Nat) : Nat → Nat → Int32 := if N 8 g = 0 then mQueue (u2 N 8 g 1) (-2 - nI g) else mLooked N g R
theorem mMake_made {g : Nat} {m v by_ ch : Int32} : mMake M R g m v by_ ch = mMade (mNew M R g m v by_ ch) (R + 1) g := by
  unfold mMake mMade
  rw [mNew_at (show (8 : Nat) < 17 ∨ 29 < 8 by omega) (by decide)]
theorem JG.coming {sta va ti id ev du le : Fn} {g : Nat} (h : JG sta va ti id ev du le) (hg : g < 32) (h0 : sta g = 0) : JG (va_up sta g 1) va ti id ev du le := by
  intro k hk
  obtain ⟨h1, h2⟩ := h k hk
  refine ⟨?_, h2⟩
  by_cases hkg : k = g
  · subst hkg
    simp only [va_up, if_true]
    rcases h1 with z | ⟨z1, z2⟩
    · rw [h0] at z; exact absurd z (by decide)
    · exact Or.inr ⟨Or.inr trivial, z2⟩
  · simp only [va_up, if_neg hkg]
    exact h1
theorem J.made (h : J M R W K O Q y x) {g : Nat} (hg : g < 32) (hy : ¬ y = -2 - nI g) : ∃ W', J (mMade M R g) R W' K O Q y x := by
  unfold mMade
  split
  · rename_i h8
    have e8 : mQueue (u2 M 8 g 1) (-2 - nI g) 8 = va_up (M 8) g 1 := by unfold mQueue; rw [u2_ne (by decide), u2_ne (by decide), u2_eq]
    have e30 : mQueue (u2 M 8 g 1) (-2 - nI g) 30 = va_up (M 30) W (-2 - nI g) := by unfold mQueue; rw [u2_ne (by decide), u2_eq, u2_ne (by decide), u2_ne (show (31 : Nat) ≠ 8 by decide), h.nW]
    have e : ∀ f, f ≠ 8 → f ≠ 30 → f ≠ 31 → mQueue (u2 M 8 g 1) (-2 - nI g) f = M f := fun f a b c => by unfold mQueue; rw [u2_ne c, u2_ne b, u2_ne a]
    refine ⟨W + 1, ?_, ?_, ?_, ?_, ?_, ?_, ?_, ?_, ?_⟩
    · refine h.ok.of (V := W + 1) (by rw [e 28 (by decide) (by decide) (by decide)]) ?_ (fun i _ => by rw [e 18 (by decide) (by decide) (by decide)]) (fun i _ => by rw [e 19 (by decide) (by decide) (by decide)]) (fun i _ => Or.inl (by rw [e 22 (by decide) (by decide) (by decide)])) (e 4 (by decide) (by decide) (by decide)) (fun i _ => Or.inl (by rw [e 26 (by decide) (by decide) (by decide)])) ?_
      · unfold mQueue
        rw [u2_same, u2_ne (by decide), h.hW, nI_1]
      · have hc := h.ok.2.2.2.2.2.2.1
        have := cnt_up (f := M 8) (x := 1) (v := 1) (k := g) 32 0 (Nat.zero_le _) (by omega)
        rw [if_neg (by rw [h8]; decide), if_pos rfl] at this
        rw [e8, e 23 (by decide) (by decide) (by decide)]
        omega
    · rw [e 17 (by decide) (by decide) (by decide), e 29 (by decide) (by decide) (by decide)]; exact h.n
    · rw [e 18 (by decide) (by decide) (by decide), e 23 (by decide) (by decide) (by decide), e8]; exact h.s.sta (Or.inr (Or.inl (by rw [h8]; decide)))
    · rw [e 17 (by decide) (by decide) (by decide), e 23 (by decide) (by decide) (by decide), e8, e30]; exact h.l.come h.n hg h8 hy
    · rw [e 17 (by decide) (by decide) (by decide), e 23 (by decide) (by decide) (by decide), e 24 (by decide) (by decide) (by decide), e 25 (by decide) (by decide) (by decide), e 26 (by decide) (by decide) (by decide), e 32 (by decide) (by decide) (by decide), e 34 (by decide) (by decide) (by decide)]; exact h.a
    · rw [e 36 (by decide) (by decide) (by decide)]; exact h.o
    · rw [e 34 (by decide) (by decide) (by decide), e 29 (by decide) (by decide) (by decide)]; exact h.q
    · rw [e8, e 9 (by decide) (by decide) (by decide), e 10 (by decide) (by decide) (by decide), e 11 (by decide) (by decide) (by decide), e 15 (by decide) (by decide) (by decide), e 14 (by decide) (by decide) (by decide), e 16 (by decide) (by decide) (by decide)]; exact h.g.coming hg h8
    · rw [e 4 (by decide) (by decide) (by decide), e 5 (by decide) (by decide) (by decide), e 6 (by decide) (by decide) (by decide), e 7 (by decide) (by decide) (by decide)]; exact h.t
  · exact h.looked hg
theorem J.make (h : J M R W K O Q y (-1)) {g mm : Nat} {v by_ ch : Int32} (hR : R < 30) (hg : g < 32) (hm : mm < 4) (hy : ¬ M 29 0 = y) (hy2 : ¬ y = -2 - nI g) (hb : by_ = -1) (hK : K + 1 ≤ 62) (hQ : Q + 1 < 2 ^ 30) : ∃ W', J (mMake M R g (nI mm) v by_ ch) (R + 1) W' (K + 1) O (Q + 1) y (-1) := by
  rw [mMake_made]
  exact (h.new hR hg hm hy hb hK hQ).made hg hy2
/-- request i calls: a new one, and i waits for it -/
theorem J.invoke (h : J M R W (R + 31) O Q y (-1)) {i g a b : Nat} (hR : R < 30) (hi : i < R) (hy : y = M 17 i) (h23 : M 23 i = 1) (ha : a < 32) (hb : b < 4) (hQ : Q + 1 < 2 ^ 30) : ∃ W', J (mInvoke M R i g a b) (R + 1) W' (R + 33) O (Q + 1) (-1) (-1) := by
  unfold mInvoke
  rw [mMake_made]
  have hn := (h.n.1 i hi).1
  generalize hN : u2 (u2 (u2 M 23 i 2) 24 i (M 29 0)) 25 i 0 = N
  have e : ∀ f, f ≠ 23 → f ≠ 24 → f ≠ 25 → N f = M f := fun f a b c => by rw [← hN, u2_ne c, u2_ne b, u2_ne a]
  have g23 : N 23 = va_up (M 23) i 2 := by rw [← hN, u2_ne (by decide), u2_ne (by decide), u2_eq]
  have g24 : N 24 = va_up (M 24) i (M 29 0) := by rw [← hN, u2_ne (by decide), u2_eq, u2_ne (by decide)]
  have g25 : N 25 = va_up (M 25) i 0 := by rw [← hN, u2_eq, u2_ne (by decide), u2_ne (by decide)]
  obtain ⟨f17, f18, f23, f24, f25, f26, f11, f29⟩ := mNew_f (M := N) (R := R) (g := a) (m := nI b) (v := M 9 g) (by_ := M 17 i) (ch := M 27 i ||| ((1 : Int32) <<< (nI g &&& 31)))
  rw [e 17 (by decide) (by decide) (by decide), e 29 (by decide) (by decide) (by decide)] at f17
  rw [e 29 (by decide) (by decide) (by decide)] at f29
  rw [e 18 (by decide) (by decide) (by decide)] at f18
  rw [e 26 (by decide) (by decide) (by decide)] at f26
  rw [e 11 (by decide) (by decide) (by decide)] at f11
  rw [g23] at f23
  rw [g24] at f24
  rw [g25] at f25
  have e2 : ∀ f, (f < 17 ∨ 29 < f) → f ≠ 11 → mNew N R a (nI b) (M 9 g) (M 17 i) (M 27 i ||| ((1 : Int32) <<< (nI g &&& 31))) f = M f := fun f p q => by rw [mNew_at p q, e f (by omega) (by omega) (by omega)]
  have hl := h.lt1
  have hq : ∀ c, c < O → ¬ M 34 c = M 29 0 := fun c hc z => by
    have := h.q c hc
    rw [z] at this
    exact absurd this Int32.lt_irrefl
  have hmd : ¬ M 29 0 = -1 := by
    obtain ⟨n, n1, n2, n3⟩ := h.n.2.2
    rw [n1]
    exact p_m1 (nI_pos' (by omega))
  have hJ : J (mNew N R a (nI b) (M 9 g) (M 17 i) (M 27 i ||| ((1 : Int32) <<< (nI g &&& 31)))) (R + 1) W (R + 33) O (Q + 1) (-1) (-1) := by
    have hok : okM N R W (R + 32) := by rw [← hN]; exact h.ok.await hi h23
    refine ⟨hok.new hR ha hb (fun z => absurd (Int32.le_trans hn z) (by decide)) (by omega), ?_, ?_, ?_, ?_, ?_, ?_, ?_, ?_⟩
    · rw [f17, f29]; exact h.n.new hQ
    · rw [f18, f23, e2 8 (by omega) (by decide)]
      refine JS.new (fun k hk => ?_)
      by_cases hki : k = i
      · subst hki
        simp only [va_up, if_true]
        rcases h.s k hk with z | z
        · rw [h23] at z; exact absurd z (by decide)
        · exact Or.inr ⟨Or.inr trivial, z.2⟩
      · simp only [va_up, if_neg hki]; exact h.s k hk
    · rw [f17, f23, e2 30 (by omega) (by decide), e2 8 (by omega) (by decide)]
      refine JL.new (h.l.sta (fun _ _ _ _ _ z => z) (fun k j hk hj z1 z2 => ?_) (fun k hk z => ?_) (fun k hk z => absurd z (p_m1 (h.n.1 k hk).1))) hmd
      · have : ¬ j = i := fun z => by
          rw [z, ← hy] at z1
          exact (h.l.1 k hk).1 z1
        simp only [va_up, if_neg this]; exact z2
      · exact ((h.l.none h.n).1 k hk).1 z
    · rw [f17, f23, f24, f25, f26, e2 32 (by omega) (by decide), e2 34 (by omega) (by decide)]
      exact h.a.call h.n hi h23 (fun c hc _ => hq c hc)
    · rw [e2 36 (by omega) (by decide)]; exact h.o
    · intro c hc
      rw [f29, e2 34 (by omega) (by decide)]; exact Int32.lt_trans (h.q c hc) hl
    · rw [f11, e2 8 (by omega) (by decide), e2 9 (by omega) (by decide), e2 10 (by omega) (by decide), e2 15 (by omega) (by decide), e2 14 (by omega) (by decide), e2 16 (by omega) (by decide)]; exact h.g.idle
    · rw [e2 4 (by omega) (by decide), e2 5 (by omega) (by decide), e2 6 (by omega) (by decide), e2 7 (by omega) (by decide)]; exact h.t
  exact hJ.made ha (by have := ng_m1 ha; exact fun z => this z.symm)
end JJ
