/-! ===== one row of requests is taken out ===== -/
def cut (F : Fn) (i R : Nat) : Fn := fun j => if i ≤ j ∧ j < R then F (j + 1) else F j
def sg (i j : Nat) : Nat := if i ≤ j then j + 1 else j
theorem cut_sg {F : Fn} {i R j : Nat} (hj : j < R) : cut F i R j = F (sg i j) := by
  unfold cut sg
  by_cases h : i ≤ j
  · rw [if_pos ⟨h, hj⟩, if_pos h]
  · rw [if_neg (fun z => h z.1), if_neg h]
theorem sg_lt {i R j : Nat} (hj : j < R) : sg i j < R + 1 := by unfold sg; split <;> omega
theorem sg_ne {i j : Nat} : ¬ sg i j = i := by unfold sg; split <;> omega
theorem sg_mono {i j k : Nat} (h : j < k) : sg i j < sg i k := by unfold sg; split <;> split <;> omega
theorem sg_on {i R k : Nat} (hk : k < R + 1) (hki : ¬ k = i) (hi : i < R + 1) : ∃ j, j < R ∧ sg i j = k := by
  by_cases h : i < k
  · exact ⟨k - 1, by omega, by unfold sg; rw [if_pos (by omega)]; omega⟩
  · exact ⟨k, by omega, by unfold sg; rw [if_neg (by omega)]⟩
theorem mRemove_cut {M : Nat → Nat → Int32} {i R f : Nat} (h : 17 ≤ f ∧ f ≤ 27) : mRemove M i (R + 1) f = cut (M f) i R := by
  funext j
  rw [mRemove_row h]
  rfl
theorem JN.cut {nu : Fn} {md : Int32} {R Q i : Nat} (h : JN nu md (R + 1) Q) : JN (cut nu i R) md R Q := by
  obtain ⟨a1, a2, a3⟩ := h
  refine ⟨fun k hk => ?_, fun j k hjk hk => ?_, a3⟩
  · rw [cut_sg hk]; exact a1 _ (sg_lt hk)
  · rw [cut_sg hk, cut_sg (by omega)]; exact a2 _ _ (sg_mono hjk) (sg_lt hk)
theorem JS.cut {wh st sta : Fn} {R i : Nat} (h : JS wh st sta (R + 1)) : JS (cut wh i R) (cut st i R) sta R := by
  intro k hk
  rw [cut_sg hk, cut_sg hk]
  exact h _ (sg_lt hk)
theorem JL.cut {nu st ln sta : Fn} {R W i : Nat} {y : Int32} (h : JL nu st ln sta (R + 1) W y) (hi : i < R + 1) (hl : ∀ k, k < W → ¬ ln k = nu i) : JL (cut nu i R) (cut st i R) ln sta R W y := by
  obtain ⟨a1, a2, a3⟩ := h
  refine ⟨fun k hk => ⟨(a1 k hk).1, ?_⟩, a2, fun k hk z => ?_⟩
  · rcases (a1 k hk).2 with b | ⟨j, j1, j2, j3⟩
    · exact Or.inl b
    · have hji : ¬ j = i := fun z => by subst z; exact hl k hk j2
      obtain ⟨q, q1, rfl⟩ := sg_on j1 hji hi
      exact Or.inr ⟨q, q1, by rw [cut_sg q1]; exact j2, by rw [cut_sg q1]; exact j3⟩
  · rw [cut_sg hk] at z ⊢
    exact a3 _ (sg_lt hk) z
/-- who becomes exempt when row i goes: its caller -/
def nx (by_ : Int32) : Int32 := if 0 ≤ by_ then by_ else -1
theorem JA.cut {nu st aw tk ca os os2 oq : Fn} {md : Int32} {R O Q i : Nat} {x : Int32} (h : JA nu st aw tk ca os oq (R + 1) O x) (hn : JN nu md (R + 1) Q) (hi : i < R + 1) (hx : nu i = x ∨ (¬ st i = 2 ∧ ∀ c, c < R + 1 → ¬ nu c = x)) (ho : ∀ c, os2 c = os c ∨ (¬ os2 c = 0 ∧ ca i = -2 - nI c ∧ c < 12)) : JA (cut nu i R) (cut st i R) (cut aw i R) (cut tk i R) (cut ca i R) os2 oq R O (nx (ca i)) := by
  obtain ⟨a1, a2, a3, a4⟩ := h
  refine ⟨fun c hc hcx => ?_, fun k hk => ?_, fun c hc h0 k hk hz => ?_, a4⟩
  · rw [cut_sg hc] at hcx ⊢
    rw [cut_sg hc, cut_sg hc]
    rw [cut_sg hc]
    have hlt := sg_lt (i := i) hc
    have hnx : ¬ nu (sg i c) = x := by
      intro z
      rcases hx with hx | hx
      · exact sg_ne (hn.inj hlt hi (z.trans hx.symm))
      · exact hx.2 _ hlt z
    rcases a1 _ hlt hnx with ⟨b1, k, k1, k2, k3⟩ | b
    · have hki : ¬ k = i := by
        intro z
        subst z
        apply hcx
        unfold nx
        rw [if_pos (by rw [k3]; exact (hn.1 _ hlt).1), k3]
      obtain ⟨q, q1, rfl⟩ := sg_on k1 hki hi
      exact Or.inl ⟨b1, q, q1, by rw [cut_sg q1]; exact k2, by rw [cut_sg q1]; exact k3⟩
    · exact Or.inr b
  · have hlt := sg_lt (i := i) hk
    rw [cut_sg hk]
    rcases a2 _ hlt with b | ⟨c, c1, c2, c3, c4⟩ | ⟨c, c1, c2, c3, c4, c5⟩
    · exact Or.inl b
    · refine Or.inr (Or.inl ⟨c, c1, c2, ?_, by rw [cut_sg hk]; exact c4⟩)
      rcases ho c with z | ⟨z1, z2, z3⟩
      · rw [z]; exact c3
      · exfalso
        have hci := a2 i hi
        rcases hci with e | ⟨c', e1, e2, e3, e4⟩ | ⟨c', e1, e2, e3, e4, e5⟩
        · exact ng_m1 (by omega) (z2.symm.trans e)
        · have := ng_inj (by omega) (by omega) (e2.symm.trans z2)
          subst this
          exact sg_ne (hn.inj hlt hi (c4.symm.trans e4))
        · exact ng_ne (by omega) (hn.1 c' e1).1 (e3.symm.trans z2)
    · have hci : ¬ c = i := by
        intro z
        subst z
        rcases hx with hx | hx
        · exact c2 hx
        · exact hx.1 c4
      obtain ⟨q, q1, rfl⟩ := sg_on c1 hci hi
      refine Or.inr (Or.inr ⟨q, q1, ?_, by rw [cut_sg q1]; exact c3, by rw [cut_sg q1]; exact c4, by rw [cut_sg q1, cut_sg hk]; exact c5⟩)
      rw [cut_sg q1]
      unfold nx
      split
      · intro z
        rcases a2 i hi with e | ⟨c', e1, e2, e3, e4⟩ | ⟨c', e1, e2, e3, e4, e5⟩
        · rw [e] at z; exact p_m1 (hn.1 _ c1).1 z
        · exact ng_ne (by omega) (hn.1 _ c1).1 (z.trans e2)
        · have := hn.inj c1 e1 (z.trans e3)
          rw [← this] at e5
          exact sg_ne (hn.inj hlt hi (c5.symm.trans e5))
      · exact p_m1 (hn.1 _ c1).1
  · rw [cut_sg hk] at hz ⊢
    rcases ho c with z | ⟨z1, -⟩
    · exact a3 c hc (by rw [← z]; exact h0) _ (sg_lt hk) hz
    · exact absurd h0 z1
/-- a request that waits for an answer goes on: nobody has it as a caller -/
theorem JA.resume {nu st aw tk ca os oq : Fn} {md : Int32} {R O Q i : Nat} {x : Int32} (h : JA nu st aw tk ca os oq R O x) (hn : JN nu md R Q) (hi : i < R) (hx : nu i = x) : JA nu (va_up st i 1) (va_up aw i (-1)) (va_up tk i 0) ca os oq R O (-1) := by
  obtain ⟨a1, a2, a3, a4⟩ := h
  refine ⟨fun c hc _ => ?_, fun k hk => ?_, a3, a4⟩
  · by_cases hci : c = i
    · subst hci
      simp only [va_up, if_true]
      exact Or.inr ⟨by decide, trivial, trivial⟩
    · simp only [va_up, if_neg hci]
      exact a1 c hc (fun z => hci (hn.inj hc hi (z.trans hx.symm)))
  · rcases a2 k hk with b | b | ⟨c, c1, c2, c3, c4, c5⟩
    · exact Or.inl b
    · exact Or.inr (Or.inl b)
    · have hci : ¬ c = i := fun z => by subst z; exact c2 hx
      exact Or.inr (Or.inr ⟨c, c1, p_m1 (hn.1 c c1).1, c3, by simp only [va_up, if_neg hci]; exact c4, by simp only [va_up, if_neg hci]; exact c5⟩)
/-- a request that waited for its turn is ready -/
theorem JA.ready {nu st aw tk ca os oq : Fn} {R O i : Nat} {x : Int32} (h : JA nu st aw tk ca os oq R O x) (h0 : ¬ st i = 2) : JA nu (va_up st i 1) aw tk ca os oq R O x := by
  obtain ⟨a1, a2, a3, a4⟩ := h
  refine ⟨fun c hc hcx => ?_, fun k hk => ?_, a3, a4⟩
  · by_cases hci : c = i
    · subst hci
      simp only [va_up, if_true]
      rcases a1 c hc hcx with ⟨z, -⟩ | ⟨-, z⟩
      · exact absurd z h0
      · exact Or.inr ⟨by decide, z⟩
    · simp only [va_up, if_neg hci]
      exact a1 c hc hcx
  · rcases a2 k hk with b | b | ⟨c, c1, c2, c3, c4, c5⟩
    · exact Or.inl b
    · exact Or.inr (Or.inl b)
    · have hci : ¬ c = i := fun z => by subst z; exact h0 c4
      exact Or.inr (Or.inr ⟨c, c1, c2, c3, by simp only [va_up, if_neg hci]; exact c4, c5⟩)
/-- a new request: from nobody, or from outside -/
theorem JA.new {nu st aw tk ca os oq : Fn} {md by_ : Int32} {R O Q : Nat} (h : JA nu st aw tk ca os oq R O (-1)) (hn : JN nu md R Q) (hb : by_ = -1 ∨ ∃ c : Nat, c < O ∧ by_ = -2 - nI c ∧ os c = 0 ∧ oq c = md) (hb2 : ∀ c, c < O → os c = 0 → oq c = md → by_ = -2 - nI c) : JA (va_up nu R md) (va_up st R 0) (va_up aw R (-1)) (va_up tk R 0) (va_up ca R by_) os oq (R + 1) O (-1) := by
  obtain ⟨a1, a2, a3, a4⟩ := h
  refine ⟨fun c hc hcx => ?_, fun k hk => ?_, fun c hc h0 k hk hz => ?_, a4⟩
  · by_cases hcR : c = R
    · subst hcR
      simp only [va_up, if_true]
      exact Or.inr ⟨by decide, trivial, trivial⟩
    · simp only [va_up, if_neg hcR] at hcx ⊢
      rcases a1 c (by omega) hcx with ⟨b1, k, k1, k2, k3⟩ | b
      · exact Or.inl ⟨b1, k, by omega, by simp only [if_neg (show ¬ k = R by omega)]; exact k2, by simp only [if_neg (show ¬ k = R by omega)]; exact k3⟩
      · exact Or.inr b
  · by_cases hkR : k = R
    · subst hkR
      simp only [va_up, if_true]
      rcases hb with hb | ⟨c, c1, c2, c3, c4⟩
      · exact Or.inl hb
      · exact Or.inr (Or.inl ⟨c, c1, c2, c3, c4⟩)
    · simp only [va_up, if_neg hkR]
      rcases a2 k (by omega) with b | b | ⟨c, c1, c2, c3, c4, c5⟩
      · exact Or.inl b
      · exact Or.inr (Or.inl b)
      · exact Or.inr (Or.inr ⟨c, by omega, by simp only [if_neg (show ¬ c = R by omega)]; exact c2, by simp only [if_neg (show ¬ c = R by omega)]; exact c3, by simp only [if_neg (show ¬ c = R by omega)]; exact c4, by simp only [if_neg (show ¬ c = R by omega)]; exact c5⟩)
  · by_cases hkR : k = R
    · subst hkR
      simp only [va_up, if_true] at hz ⊢
      exact hb2 c hc h0 hz.symm
    · simp only [va_up, if_neg hkR] at hz ⊢
      exact a3 c hc h0 k (by omega) hz
/-- a new request, called by request i, which waits for it -/
theorem JA.call {nu st aw tk ca os oq : Fn} {md : Int32} {R O Q i : Nat} (h : JA nu st aw tk ca os oq R O (-1)) (hn : JN nu md R Q) (hi : i < R) (h1 : st i = 1) (hb2 : ∀ c, c < O → os c = 0 → ¬ oq c = md) : JA (va_up nu R md) (va_up (va_up st i 2) R 0) (va_up (va_up aw i md) R (-1)) (va_up (va_up tk i 0) R 0) (va_up ca R (nu i)) os oq (R + 1) O (-1) := by
  obtain ⟨a1, a2, a3, a4⟩ := h
  have hiR : ¬ i = R := by omega
  refine ⟨fun c hc hcx => ?_, fun k hk => ?_, fun c hc h0 k hk hz => ?_, a4⟩
  · by_cases hcR : c = R
    · subst hcR
      simp only [va_up, if_true]
      exact Or.inr ⟨by decide, trivial, trivial⟩
    · by_cases hci : c = i
      · subst hci
        simp only [va_up, if_true, if_neg hcR]
        exact Or.inl ⟨trivial, R, by omega, by simp, by simp⟩
      · simp only [va_up, if_neg hcR, if_neg hci] at hcx ⊢
        rcases a1 c (by omega) hcx with ⟨b1, k, k1, k2, k3⟩ | b
        · exact Or.inl ⟨b1, k, by omega, by simp only [if_neg (show ¬ k = R by omega)]; exact k2, by simp only [if_neg (show ¬ k = R by omega)]; exact k3⟩
        · exact Or.inr b
  · by_cases hkR : k = R
    · subst hkR
      refine Or.inr (Or.inr ⟨i, by omega, ?_, ?_, ?_, ?_⟩) <;> simp [va_up, hiR]
      exact p_m1 (hn.1 i hi).1
    · simp only [va_up, if_neg hkR]
      rcases a2 k (by omega) with b | b | ⟨c, c1, c2, c3, c4, c5⟩
      · exact Or.inl b
      · exact Or.inr (Or.inl b)
      · have hci : ¬ c = i := fun z => by rw [z, h1] at c4; exact absurd c4 (by decide)
        have hcR : ¬ c = R := by omega
        exact Or.inr (Or.inr ⟨c, by omega, by simp only [if_neg hcR]; exact c2, by simp only [if_neg hcR]; exact c3, by simp only [if_neg hcR, if_neg hci]; exact c4, by simp only [if_neg hcR, if_neg hci]; exact c5⟩)
  · by_cases hkR : k = R
    · subst hkR
      simp only [va_up, if_true] at hz ⊢
      exact absurd hz.symm (hb2 c hc h0)
    · simp only [va_up, if_neg hkR] at hz ⊢
      exact a3 c hc h0 k (by omega) hz
/-- the call of request i is late: nobody is its called one any more -/
theorem JA.late {nu st aw tk tk2 ca os oq : Fn} {md : Int32} {R O Q i k : Nat} (h : JA nu st aw tk ca os oq R O (-1)) (hn : JN nu md R Q) (hi : i < R) (h2 : st i = 2) (hk : k < R) (hk2 : aw i = nu k) (ht : ∀ c, ¬ c = i → tk2 c = tk c) : JA nu st aw tk2 (va_up ca k (-1)) os oq R O (nu i) := by
  obtain ⟨a1, a2, a3, a4⟩ := h
  have hkc : ca k = nu i := by
    rcases a1 i hi (p_m1 (hn.1 i hi).1) with ⟨-, q, q1, q2, q3⟩ | ⟨z, -⟩
    · have := hn.inj hk q1 (hk2.symm.trans q2)
      rw [this]; exact q3
    · exact absurd h2 z
  refine ⟨fun c hc hcx => ?_, fun q hq => ?_, fun c hc h0 q hq hz => ?_, a4⟩
  · have hci : ¬ c = i := fun z => hcx (by rw [z])
    rcases a1 c hc (p_m1 (hn.1 c hc).1) with ⟨b1, q, q1, q2, q3⟩ | ⟨b1, b2, b3⟩
    · have hqk : ¬ q = k := fun z => by
        rw [z] at q3
        exact hci (hn.inj hc hi (q3.symm.trans hkc))
      exact Or.inl ⟨b1, q, q1, q2, by simp only [va_up, if_neg hqk]; exact q3⟩
    · exact Or.inr ⟨b1, b2, by rw [ht c hci]; exact b3⟩
  · by_cases hqk : q = k
    · subst hqk
      simp only [va_up, if_true]
      exact Or.inl trivial
    · simp only [va_up, if_neg hqk]
      rcases a2 q hq with b | b | ⟨c, c1, c2, c3, c4, c5⟩
      · exact Or.inl b
      · exact Or.inr (Or.inl b)
      · refine Or.inr (Or.inr ⟨c, c1, fun z => ?_, c3, c4, c5⟩)
        have := hn.inj c1 hi z
        subst this
        exact hqk (hn.inj hq hk (c5.symm.trans hk2))
  · by_cases hqk : q = k
    · subst hqk
      have := a3 c hc h0 q hq hz
      exact absurd (hkc.symm.trans this) (ng_ne (by omega) (hn.1 i hi).1)
    · simp only [va_up, if_neg hqk]
      exact a3 c hc h0 q hq hz
/-- an outside call is late -/
theorem JA.out {nu st aw tk ca ca2 os oq : Fn} {md : Int32} {R O Q c0 : Nat} (h : JA nu st aw tk ca os oq R O (-1)) (hn : JN nu md R Q) (hc0 : c0 < O) (h0 : os c0 = 0) (hc2 : ∀ k, k < R → (nu k = oq c0 → ca2 k = -1) ∧ (¬ nu k = oq c0 → ca2 k = ca k)) : JA nu st aw tk ca2 (va_up os c0 2) oq R O (-1) := by
  obtain ⟨a1, a2, a3, a4⟩ := h
  refine ⟨fun c hc hcx => ?_, fun k hk => ?_, fun c hc hz k hk hq => ?_, a4⟩
  · rcases a1 c hc hcx with ⟨b1, k, k1, k2, k3⟩ | b
    · refine Or.inl ⟨b1, k, k1, k2, ?_⟩
      rw [(hc2 k k1).2 (fun z => ?_)]
      · exact k3
      · have := a3 c0 hc0 h0 k k1 z
        exact ng_ne (by omega) (hn.1 c hc).1 (k3.symm.trans this)
    · exact Or.inr b
  · by_cases hkq : nu k = oq c0
    · exact Or.inl ((hc2 k hk).1 hkq)
    · rw [(hc2 k hk).2 hkq]
      rcases a2 k hk with b | ⟨c, c1, c2, c3, c4⟩ | b
      · exact Or.inl b
      · have : ¬ c = c0 := fun z => by subst z; exact hkq c4.symm
        exact Or.inr (Or.inl ⟨c, c1, c2, by simp only [va_up, if_neg this]; exact c3, c4⟩)
      · exact Or.inr (Or.inr b)
  · by_cases hcc : c = c0
    · subst hcc
      simp only [va_up, if_true] at hz
      exact absurd hz (by decide)
    · simp only [va_up, if_neg hcc] at hz
      have := a3 c hc hz k hk hq
      rw [(hc2 k hk).2 (fun z => ?_)]
      · exact this
      · have h2 := a3 c0 hc0 h0 k hk z
        exact hcc (ng_inj (by omega) (by omega) (this.symm.trans h2))
