/-! ===== what stays right in the reference's numbers: numbers, stands, line, who waits for whom ===== -/
abbrev Fn := Nat → Int32
theorem ng_inj {a b : Nat} (ha : a < 2 ^ 31) (hb : b < 2 ^ 31) (h : (-2 : Int32) - nI a = -2 - nI b) : a = b := by
  have h2 : nI a = nI b := by rw [← i32_ss (nI a), h, i32_ss]
  exact (nI_eq ha hb).mp h2
theorem ng_lt {g : Nat} (hg : g < 32) : (-2 : Int32) - nI g < 0 := by
  have h : ∀ q : Fin 32, (-2 : Int32) - nI q.1 < 0 := by decide
  exact h ⟨g, hg⟩
theorem ng_le {g : Nat} (hg : g < 32) : (-2 : Int32) - nI g ≤ -2 := by
  have h : ∀ q : Fin 32, (-2 : Int32) - nI q.1 ≤ -2 := by decide
  exact h ⟨g, hg⟩
theorem ng_m1 {g : Nat} (hg : g < 32) : ¬ (-2 : Int32) - nI g = -1 := by
  have h : ∀ q : Fin 32, ¬ (-2 : Int32) - nI q.1 = -1 := by decide
  exact h ⟨g, hg⟩
theorem ng_ne {g : Nat} {a : Int32} (hg : g < 32) (h0 : 0 ≤ a) : ¬ a = -2 - nI g := by
  intro h
  rw [h] at h0
  exact Int32.not_lt.mpr h0 (ng_lt hg)
theorem p_m1 {a : Int32} (h0 : 0 ≤ a) : ¬ a = -1 := by
  intro h
  rw [h] at h0
  exact absurd h0 (by decide)
def JN (nu : Fn) (md : Int32) (R Q : Nat) : Prop := (∀ k, k < R → 0 ≤ nu k ∧ nu k < md) ∧ (∀ j k, j < k → k < R → nu j < nu k) ∧ ∃ n : Nat, md = nI n ∧ n ≤ Q ∧ Q < 2 ^ 30
def JS (wh st sta : Fn) (R : Nat) : Prop := ∀ k, k < R → st k = 0 ∨ ((st k = 1 ∨ st k = 2) ∧ sta (nn (wh k)) = 2)
def JL (nu st ln sta : Fn) (R W : Nat) (y : Int32) : Prop := (∀ k, k < W → ¬ ln k = y ∧ ((∃ g : Nat, g < 32 ∧ ln k = -2 - nI g ∧ sta g = 1) ∨ (∃ j, j < R ∧ ln k = nu j ∧ st j = 1))) ∧ (∀ j k, j < k → k < W → ¬ ln j = ln k) ∧ (∀ k, k < R → nu k = y → st k = 1)
def JA (nu st aw tk ca os oq : Fn) (R O : Nat) (x : Int32) : Prop := (∀ c, c < R → ¬ nu c = x → (st c = 2 ∧ ∃ k, k < R ∧ aw c = nu k ∧ ca k = nu c) ∨ (¬ st c = 2 ∧ aw c = -1 ∧ tk c = 0)) ∧ (∀ k, k < R → ca k = -1 ∨ (∃ c : Nat, c < O ∧ ca k = -2 - nI c ∧ os c = 0 ∧ oq c = nu k) ∨ (∃ c, c < R ∧ ¬ nu c = x ∧ ca k = nu c ∧ st c = 2 ∧ aw c = nu k)) ∧ (∀ c, c < O → os c = 0 → ∀ k, k < R → nu k = oq c → ca k = -2 - nI c) ∧ O ≤ 12
def JG (sta va ti id ev du le : Fn) : Prop := ∀ g, g < 32 → (sta g = 2 ∨ ((sta g = 0 ∨ sta g = 1) ∧ va g = 0 ∧ ti g = 0 ∧ id g = 0 ∧ le g = 0)) ∧ ((ev g = 0 ∧ du g = 0) ∨ (0 < ev g ∧ 0 < du g))
def JT (len op a b : Fn) : Prop := ∀ q, q < 16 → ∀ n j : Nat, len q = nI n → n ≤ 8 → j < n → ∃ o : Nat, o < 15 ∧ op (8 * q + j) = nI o ∧ stOk o (a (8 * q + j)) (b (8 * q + j))
theorem JN.inj {nu : Fn} {md : Int32} {R Q j k : Nat} (h : JN nu md R Q) (hj : j < R) (hk : k < R) (e : nu j = nu k) : j = k := by
  rcases Nat.lt_trichotomy j k with z | z | z
  · have := h.2.1 j k z hk
    rw [e] at this
    exact absurd this (Int32.lt_irrefl)
  · exact z
  · have := h.2.1 k j z hj
    rw [e] at this
    exact absurd this (Int32.lt_irrefl)
theorem JN.ne {nu : Fn} {md : Int32} {R Q k : Nat} (h : JN nu md R Q) (hk : k < R) : ¬ nu k = md := by
  intro e
  have := (h.1 k hk).2
  rw [e] at this
  exact absurd this (Int32.lt_irrefl)
/-- one goes into the line -/
theorem JL.ready {nu st ln sta : Fn} {md : Int32} {R W Q i : Nat} {y : Int32} (h : JL nu st ln sta R W y) (hn : JN nu md R Q) (hi : i < R) (h0 : ¬ st i = 1) : JL nu (va_up st i 1) (va_up ln W (nu i)) sta R (W + 1) y := by
  obtain ⟨a1, a2, a3⟩ := h
  have hy : ¬ nu i = y := fun z => h0 (a3 i hi z)
  have hline : ∀ k, k < W → ¬ ln k = nu i := by
    intro k hk z
    rcases (a1 k hk).2 with ⟨g, g1, g2, g3⟩ | ⟨j, j1, j2, j3⟩
    · exact ng_ne g1 (hn.1 i hi).1 (z.symm.trans g2)
    · have := hn.inj hi j1 (z.symm.trans j2)
      subst this
      exact h0 j3
  refine ⟨fun k hk => ?_, fun j k hjk hk => ?_, fun k hk z => ?_⟩
  · by_cases hkW : k = W
    · subst hkW
      simp only [va_up, if_true]
      exact ⟨hy, Or.inr ⟨i, hi, rfl, by simp⟩⟩
    · simp only [va_up, if_neg hkW]
      obtain ⟨b1, b2⟩ := a1 k (by omega)
      refine ⟨b1, ?_⟩
      rcases b2 with b2 | ⟨j, j1, j2, j3⟩
      · exact Or.inl b2
      · exact Or.inr ⟨j, j1, j2, by split <;> first | rfl | exact j3⟩
  · by_cases hkW : k = W
    · subst hkW
      simp only [va_up, if_true, if_neg (show ¬ j = k by omega)]
      exact hline j hjk
    · simp only [va_up, if_neg hkW, if_neg (show ¬ j = W by omega)]
      exact a2 j k hjk (by omega)
  · simp only [va_up]
    split
    · rfl
    · exact a3 k hk z
/-- a grain begins to come -/
theorem JL.come {nu st ln sta : Fn} {md : Int32} {R W Q g : Nat} {y : Int32} (h : JL nu st ln sta R W y) (hn : JN nu md R Q) (hg : g < 32) (h0 : sta g = 0) (hy : ¬ y = -2 - nI g) : JL nu st (va_up ln W (-2 - nI g)) (va_up sta g 1) R (W + 1) y := by
  obtain ⟨a1, a2, a3⟩ := h
  refine ⟨fun k hk => ?_, fun j k hjk hk => ?_, a3⟩
  · by_cases hkW : k = W
    · subst hkW
      simp only [va_up, if_true]
      exact ⟨fun z => hy z.symm, Or.inl ⟨g, hg, rfl, by simp⟩⟩
    · simp only [va_up, if_neg hkW]
      obtain ⟨b1, b2⟩ := a1 k (by omega)
      refine ⟨b1, ?_⟩
      rcases b2 with ⟨g2, c1, c2, c3⟩ | b2
      · exact Or.inl ⟨g2, c1, c2, by split <;> first | rfl | exact c3⟩
      · exact Or.inr b2
  · by_cases hkW : k = W
    · subst hkW
      simp only [va_up, if_true, if_neg (show ¬ j = k by omega)]
      intro z
      rcases (a1 j hjk).2 with ⟨g2, c1, c2, c3⟩ | ⟨j2, c1, c2, c3⟩
      · have := ng_inj (by omega) (by omega) (c2.symm.trans z)
        subst this
        rw [h0] at c3
        exact absurd c3 (by decide)
      · exact ng_ne hg (hn.1 j2 c1).1 (c2.symm.trans z)
    · simp only [va_up, if_neg hkW, if_neg (show ¬ j = W by omega)]
      exact a2 j k hjk (by omega)
/-- the first of the line is taken -/
theorem JL.pop {nu st ln ln2 sta : Fn} {R W : Nat} {y : Int32} (h : JL nu st ln sta R (W + 1) y) (h2 : ∀ k, k < W → ln2 k = ln (k + 1)) (hn : ∀ k, k < R → nu k = ln 0 → st k = 1) : JL nu st ln2 sta R W (ln 0) := by
  obtain ⟨a1, a2, a3⟩ := h
  refine ⟨fun k hk => ?_, fun j k hjk hk => ?_, hn⟩
  · rw [h2 k hk]
    exact ⟨fun z => a2 0 (k + 1) (by omega) (by omega) z.symm, (a1 (k + 1) (by omega)).2⟩
  · rw [h2 k hk, h2 j (by omega)]
    exact a2 (j + 1) (k + 1) (by omega) (by omega)
/-- nothing is said of the one that runs -/
theorem JL.none {nu st ln sta : Fn} {md : Int32} {R W Q : Nat} {y : Int32} (h : JL nu st ln sta R W y) (hn : JN nu md R Q) : JL nu st ln sta R W (-1) := by
  obtain ⟨a1, a2, a3⟩ := h
  refine ⟨fun k hk => ⟨fun z => ?_, (a1 k hk).2⟩, a2, fun k hk z => absurd z (p_m1 (hn.1 k hk).1)⟩
  rcases (a1 k hk).2 with ⟨g, g1, g2, g3⟩ | ⟨j, j1, j2, j3⟩
  · exact ng_m1 g1 (g2.symm.trans z)
  · exact p_m1 (hn.1 j j1).1 (j2.symm.trans z)
/-- a status changes that no entry of the line speaks of; a request stands otherwise that is in no line -/
theorem JL.sta {nu st st2 ln sta sta2 : Fn} {R W : Nat} {y y2 : Int32} (h : JL nu st ln sta R W y) (hs : ∀ k g, k < W → g < 32 → ln k = -2 - nI g → sta g = 1 → sta2 g = 1) (ht : ∀ k j, k < W → j < R → ln k = nu j → st j = 1 → st2 j = 1) (hy : ∀ k, k < W → ¬ ln k = y2) (hz : ∀ k, k < R → nu k = y2 → st2 k = 1) : JL nu st2 ln sta2 R W y2 := by
  obtain ⟨a1, a2, a3⟩ := h
  refine ⟨fun k hk => ⟨hy k hk, ?_⟩, a2, hz⟩
  rcases (a1 k hk).2 with ⟨g, g1, g2, g3⟩ | ⟨j, j1, j2, j3⟩
  · exact Or.inl ⟨g, g1, g2, hs k g hk g1 g2 g3⟩
  · exact Or.inr ⟨j, j1, j2, ht k j hk j1 j2 j3⟩
theorem JS.ready {wh st sta : Fn} {R i : Nat} (h : JS wh st sta R) (hs : sta (nn (wh i)) = 2) : JS wh (va_up st i 1) sta R := by
  intro k hk
  by_cases hki : k = i
  · subst hki
    simp only [va_up, if_true]
    exact Or.inr ⟨Or.inl trivial, hs⟩
  · simp only [va_up, if_neg hki]
    exact h k hk
theorem JS.new {wh st sta : Fn} {R : Nat} {w : Int32} (h : JS wh st sta R) : JS (va_up wh R w) (va_up st R 0) sta (R + 1) := by
  intro k hk
  by_cases hki : k = R
  · subst hki
    simp only [va_up, if_true]
    exact Or.inl trivial
  · simp only [va_up, if_neg hki]
    exact h k (by omega)
/-- a status changes, and no begun request stands there, or it becomes HERE -/
theorem JS.sta {wh st sta : Fn} {R g : Nat} {v : Int32} (h : JS wh st sta R) (hv : v = 2 ∨ ¬ sta g = 2 ∨ ∀ k, k < R → nn (wh k) = g → st k = 0) : JS wh st (va_up sta g v) R := by
  intro k hk
  rcases h k hk with z | ⟨z1, z2⟩
  · exact Or.inl z
  · by_cases hg : nn (wh k) = g
    · rcases hv with hv | hv | hv
      · subst hv
        exact Or.inr ⟨z1, by simp only [va_up, if_pos hg]⟩
      · rw [hg] at z2; exact absurd z2 hv
      · exact Or.inl (hv k hk hg)
    · exact Or.inr ⟨z1, by simp only [va_up, if_neg hg]; exact z2⟩
theorem JN.new {nu : Fn} {md : Int32} {R Q : Nat} (h : JN nu md R Q) (hQ : Q + 1 < 2 ^ 30) : JN (va_up nu R md) (md + 1) (R + 1) (Q + 1) := by
  obtain ⟨a1, a2, n, n1, n2, n3⟩ := h
  have hm : md < md + 1 := by rw [n1, nI_1]; exact nI_lt (by omega) (by omega)
  have h0 : 0 ≤ md := by rw [n1]; exact nI_pos' (by omega)
  refine ⟨fun k hk => ?_, fun j k hjk hk => ?_, n + 1, by rw [n1, nI_1], by omega, hQ⟩
  · by_cases hkR : k = R
    · subst hkR
      simp only [va_up, if_true]
      exact ⟨h0, hm⟩
    · simp only [va_up, if_neg hkR]
      exact ⟨(a1 k (by omega)).1, Int32.lt_trans (a1 k (by omega)).2 hm⟩
  · by_cases hkR : k = R
    · subst hkR
      simp only [va_up, if_true, if_neg (show ¬ j = k by omega)]
      exact (a1 j hjk).2
    · simp only [va_up, if_neg hkR, if_neg (show ¬ j = R by omega)]
      exact a2 j k hjk (by omega)
