/-! ===== J: all that stays right, together ===== -/
def J (M : Nat → Nat → Int32) (R W K O Q : Nat) (y x : Int32) : Prop :=
  okM M R W K ∧ JN (M 17) (M 29 0) R Q ∧ JS (M 18) (M 23) (M 8) R ∧ JL (M 17) (M 23) (M 30) (M 8) R W y ∧ JA (M 17) (M 23) (M 24) (M 25) (M 26) (M 32) (M 34) R O x ∧ M 36 0 = nI O ∧ (∀ c, c < O → M 34 c < M 29 0) ∧ JG (M 8) (M 9) (M 10) (M 11) (M 15) (M 14) (M 16) ∧ JT (M 4) (M 5) (M 6) (M 7)
section J0
variable {M : Nat → Nat → Int32} {R W K O Q : Nat} {y x : Int32}
theorem J.ok (h : J M R W K O Q y x) : okM M R W K := h.1
theorem J.n (h : J M R W K O Q y x) : JN (M 17) (M 29 0) R Q := h.2.1
theorem J.s (h : J M R W K O Q y x) : JS (M 18) (M 23) (M 8) R := h.2.2.1
theorem J.l (h : J M R W K O Q y x) : JL (M 17) (M 23) (M 30) (M 8) R W y := h.2.2.2.1
theorem J.a (h : J M R W K O Q y x) : JA (M 17) (M 23) (M 24) (M 25) (M 26) (M 32) (M 34) R O x := h.2.2.2.2.1
theorem J.o (h : J M R W K O Q y x) : M 36 0 = nI O := h.2.2.2.2.2.1
theorem J.q (h : J M R W K O Q y x) : ∀ c, c < O → M 34 c < M 29 0 := h.2.2.2.2.2.2.1
theorem J.g (h : J M R W K O Q y x) : JG (M 8) (M 9) (M 10) (M 11) (M 15) (M 14) (M 16) := h.2.2.2.2.2.2.2.1
theorem J.t (h : J M R W K O Q y x) : JT (M 4) (M 5) (M 6) (M 7) := h.2.2.2.2.2.2.2.2
end J0
section JJ
variable {M : Nat → Nat → Int32} {R W K O Q : Nat} {y x : Int32}
theorem J.nW (h : J M R W K O Q y x) : nn (M 31 0) = W := by rw [h.ok.2.2.1, nn_nI (by have := h.ok.W; omega)]
theorem J.hR (h : J M R W K O Q y x) : M 28 0 = nI R := h.ok.1
theorem J.h30 (h : J M R W K O Q y x) : R ≤ 30 := h.ok.2.1
theorem J.hW (h : J M R W K O Q y x) : M 31 0 = nI W := h.ok.2.2.1
theorem J.row (h : J M R W K O Q y x) {i : Nat} (hi : i < R) : okR M i := h.ok.2.2.2.1 i hi
theorem J.wh (h : J M R W K O Q y x) {i : Nat} (hi : i < R) : ∃ g : Nat, g < 32 ∧ M 18 i = nI g ∧ nn (M 18 i) = g := by
  obtain ⟨g, m, a, b1, b2, -⟩ := h.row hi
  exact ⟨g, b2, b1, by rw [b1, nn_nI (by omega)]⟩
theorem J.noline (h : J M R W K O Q y x) {i k : Nat} (hi : i < R) (h1 : ¬ M 23 i = 1) (hk : k < W) : ¬ M 30 k = M 17 i := by
  intro z
  rcases (h.l.1 k hk).2 with ⟨g, g1, g2, g3⟩ | ⟨j, j1, j2, j3⟩
  · exact ng_ne g1 (h.n.1 i hi).1 (z.symm.trans g2)
  · have := h.n.inj hi j1 (z.symm.trans j2)
    subst this
    exact h1 j3
theorem mReady_f23 {i : Nat} : mReady M i 23 = va_up (M 23) i 1 := by unfold mReady mQueue; rw [u2_ne (by decide), u2_ne (by decide), u2_eq]
theorem mReady_f30 {i : Nat} : mReady M i 30 = va_up (M 30) (nn (M 31 0)) (M 17 i) := by unfold mReady mQueue; rw [u2_ne (by decide), u2_eq, u2_ne (by decide), u2_ne (show (31 : Nat) ≠ 23 by decide)]
theorem J.ready (h : J M R W K O Q y x) {i : Nat} (hi : i < R) (h0 : M 23 i = 0) (h8 : M 8 (nn (M 18 i)) = 2) : J (mReady M i) R (W + 1) K O Q y x := by
  have e : ∀ f, f ≠ 30 → f ≠ 31 → f ≠ 23 → mReady M i f = M f := fun f a b c => mReady_ne a b c
  have h1 : ¬ M 23 i = 1 := by rw [h0]; decide
  have h2 : ¬ M 23 i = 2 := by rw [h0]; decide
  refine ⟨h.ok.ready hi h1, ?_, ?_, ?_, ?_, ?_, ?_, ?_, ?_⟩
  · rw [e 17 (by decide) (by decide) (by decide), e 29 (by decide) (by decide) (by decide)]; exact h.n
  · rw [e 18 (by decide) (by decide) (by decide), e 8 (by decide) (by decide) (by decide), mReady_f23]; exact h.s.ready h8
  · rw [e 17 (by decide) (by decide) (by decide), e 8 (by decide) (by decide) (by decide), mReady_f23, mReady_f30, h.nW]; exact h.l.ready h.n hi h1
  · rw [e 17 (by decide) (by decide) (by decide), mReady_f23, e 24 (by decide) (by decide) (by decide), e 25 (by decide) (by decide) (by decide), e 26 (by decide) (by decide) (by decide), e 32 (by decide) (by decide) (by decide), e 34 (by decide) (by decide) (by decide)]; exact h.a.ready h2
  · rw [e 36 (by decide) (by decide) (by decide)]; exact h.o
  · rw [e 34 (by decide) (by decide) (by decide), e 29 (by decide) (by decide) (by decide)]; exact h.q
  · rw [e 8 (by decide) (by decide) (by decide), e 9 (by decide) (by decide) (by decide), e 10 (by decide) (by decide) (by decide), e 11 (by decide) (by decide) (by decide), e 15 (by decide) (by decide) (by decide), e 14 (by decide) (by decide) (by decide), e 16 (by decide) (by decide) (by decide)]; exact h.g
  · rw [e 4 (by decide) (by decide) (by decide), e 5 (by decide) (by decide) (by decide), e 6 (by decide) (by decide) (by decide), e 7 (by decide) (by decide) (by decide)]; exact h.t
theorem J.look {g : Nat} (hg : g < 32) : ∀ (r i : Nat) (M : Nat → Nat → Int32) (W : Nat), J M R W K O Q y x → M 8 g = 2 → i + r = R → ∃ W', J (mLook g R r i M) R W' K O Q y x
  | 0, _, M, W, h, _, _ => ⟨W, h⟩
  | r + 1, i, M, W, h, h8, hi => by
    by_cases hz : M 18 i = nI g ∧ M 23 i = 0 ∧ mLookC M g R i
    · rw [mLook_t hz]
      exact J.look hg r (i + 1) _ (W + 1) (h.ready (by omega) hz.2.1 (by rw [hz.1, nn_nI (by omega)]; exact h8)) (by rw [mReady_ne (by decide) (by decide) (by decide)]; exact h8) (by omega)
    · rw [mLook_f hz]
      exact J.look hg r (i + 1) M W h h8 (by omega)
theorem J.looked (h : J M R W K O Q y x) {g : Nat} (hg : g < 32) : ∃ W', J (mLooked M g R) R W' K O Q y x := by
  unfold mLooked
  split
  · rename_i h8
    exact J.look hg R 0 M W h h8 (by omega)
  · exact ⟨W, h⟩
theorem mMany_0 {g w : Int32} : ∀ (r i : Nat), mMany M g w r i = 0 → ∀ k, i ≤ k → k < i + r → ¬ mP M g w k
  | 0, i, _, k, h1, h2 => by omega
  | r + 1, i, h, k, h1, h2 => by
    by_cases hp : mP M g w i
    · rw [mMany_t hp] at h; omega
    · rw [mMany_f hp] at h
      by_cases hk : k = i
      · subst hk; exact hp
      · exact mMany_0 r (i + 1) h k (by omega) (by omega)
theorem mEmpty_no {g : Int32} (h : mEmpty M g R = 1) : ∀ k, k < R → ¬ M 18 k = g := by
  intro k hk z
  unfold mEmpty at h
  split at h
  · rename_i h0
    have h1 := mMany_0 (M := M) (g := g) (w := 0) R 0 (by omega) k (by omega) (by omega)
    have h2 := mMany_0 (M := M) (g := g) (w := 1) R 0 (by omega) k (by omega) (by omega)
    by_cases h3 : M 23 k = 0
    · exact h1 ⟨z, by simp [h3]⟩
    · exact h2 ⟨z, by simp [h3]⟩
  · exact absurd h (by decide)
theorem mLeave_f {g : Nat} : mLeave M g 9 = va_up (M 9) g 0 ∧ mLeave M g 10 = va_up (M 10) g 0 ∧ mLeave M g 11 = va_up (M 11) g 0 ∧ mLeave M g 16 = va_up (M 16) g 0 := by
  unfold mLeave
  refine ⟨?_, ?_, ?_, ?_⟩ <;> simp [u2_ne, u2_eq]
theorem mGo_f {g : Nat} : mGo M g 9 = va_up (M 9) g 0 ∧ mGo M g 10 = va_up (M 10) g 0 ∧ mGo M g 11 = va_up (M 11) g 0 ∧ mGo M g 16 = va_up (M 16) g 0 := by
  unfold mGo
  split
  · exact mLeave_f
  · split
    · have := mLeave_f (M := mSave M g) (g := g)
      simp only [mSave_at (show (9 : Nat) ≠ 12 ∧ (9 : Nat) ≠ 13 by decide), mSave_at (show (10 : Nat) ≠ 12 ∧ (10 : Nat) ≠ 13 by decide), mSave_at (show (11 : Nat) ≠ 12 ∧ (11 : Nat) ≠ 13 by decide), mSave_at (show (16 : Nat) ≠ 12 ∧ (16 : Nat) ≠ 13 by decide)] at this
      exact this
    · have := mLeave_f (M := mWorked M) (g := g)
      simp only [mWorked_at (show (9 : Nat) ≠ 42 by decide), mWorked_at (show (10 : Nat) ≠ 42 by decide), mWorked_at (show (11 : Nat) ≠ 42 by decide), mWorked_at (show (16 : Nat) ≠ 42 by decide)] at this
      exact this
theorem JG.leave {sta va ti id ev du le : Fn} {g : Nat} (h : JG sta va ti id ev du le) : JG (va_up sta g 0) (va_up va g 0) (va_up ti g 0) (va_up id g 0) ev du (va_up le g 0) := by
  intro k hk
  obtain ⟨h1, h2⟩ := h k hk
  refine ⟨?_, h2⟩
  by_cases hkg : k = g
  · simp only [va_up, if_pos hkg]
    exact Or.inr ⟨Or.inl trivial, trivial, trivial, trivial, trivial⟩
  · simp only [va_up, if_neg hkg]
    exact h1
theorem J.go (h : J M R W K O Q y x) {g : Nat} (hg : g < 32) (h8 : M 8 g = 2) (he : ∀ k, k < R → ¬ M 18 k = nI g) : J (mGo M g) R W K O Q y x := by
  have e : ∀ f, f ≠ 8 ∧ f ≠ 16 ∧ f ≠ 10 ∧ f ≠ 9 ∧ f ≠ 11 ∧ f ≠ 12 ∧ f ≠ 13 ∧ f ≠ 42 → mGo M g f = M f := fun f a => mGo_at a
  refine ⟨h.ok.go hg (by rw [h8]; decide), ?_, ?_, ?_, ?_, ?_, ?_, ?_, ?_⟩
  · rw [e 17 (by decide), e 29 (by decide)]; exact h.n
  · rw [e 18 (by decide), e 23 (by decide), mGo_8]
    refine h.s.sta (Or.inr (Or.inr (fun k hk z => ?_)))
    obtain ⟨g2, z1, z2, z3⟩ := h.wh hk
    exact absurd (by rw [z2]; rw [z3] at z; rw [z]) (he k hk)
  · rw [e 17 (by decide), e 23 (by decide), e 30 (by decide), mGo_8]
    refine h.l.sta (fun k g2 hk hg2 z1 z2 => ?_) (fun k j _ _ _ z => z) (fun k hk => (h.l.1 k hk).1) h.l.2.2
    have : ¬ g2 = g := fun z => by rw [z, h8] at z2; exact absurd z2 (by decide)
    simp only [va_up, if_neg this]; exact z2
  · rw [e 17 (by decide), e 23 (by decide), e 24 (by decide), e 25 (by decide), e 26 (by decide), e 32 (by decide), e 34 (by decide)]; exact h.a
  · rw [e 36 (by decide)]; exact h.o
  · rw [e 34 (by decide), e 29 (by decide)]; exact h.q
  · rw [mGo_8, (mGo_f (M := M) (g := g)).1, (mGo_f (M := M) (g := g)).2.1, (mGo_f (M := M) (g := g)).2.2.1, (mGo_f (M := M) (g := g)).2.2.2, e 15 (by decide), e 14 (by decide)]; exact h.g.leave
  · rw [e 4 (by decide), e 5 (by decide), e 6 (by decide), e 7 (by decide)]; exact h.t
theorem J.settle (h : J M R W K O Q y x) {g : Nat} (hg : g < 32) : ∃ W', J (mSettle M g R) R W' K O Q y x := by
  obtain ⟨W', h'⟩ := h.looked hg
  unfold mSettle
  split
  · rename_i hz
    exact ⟨W', h'.go hg hz.1 (mEmpty_no hz.2.2)⟩
  · exact ⟨W', h'⟩
end JJ
