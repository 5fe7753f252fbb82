/-! ===== counts, and what stays right in the reference's numbers ===== -/
/-- how many of f i .. f (i + r - 1) are not x -/
def cnt (f : Nat → Int32) (x : Int32) : Nat → Nat → Nat
  | 0, _ => 0
  | r + 1, i => (if f i = x then 0 else 1) + cnt f x r (i + 1)
theorem cnt_s (f : Nat → Int32) (x : Int32) (r i : Nat) : cnt f x (r + 1) i = (if f i = x then 0 else 1) + cnt f x r (i + 1) := rfl
theorem cnt_le (f : Nat → Int32) (x : Int32) : ∀ (r i : Nat), cnt f x r i ≤ r
  | 0, _ => Nat.le_refl _
  | r + 1, i => by
    have := cnt_le f x r (i + 1)
    rw [cnt]
    split <;> omega
theorem cnt_eq {f g : Nat → Int32} {x : Int32} : ∀ (r i : Nat), (∀ j, i ≤ j → j < i + r → f j = g j) → cnt f x r i = cnt g x r i
  | 0, _, _ => rfl
  | r + 1, i, h => by
    rw [cnt, cnt, h i (Nat.le_refl _) (by omega), cnt_eq r (i + 1) (fun j h1 h2 => h j (by omega) (by omega))]
theorem cnt_up {f : Nat → Int32} {x v : Int32} {k : Nat} : ∀ (r i : Nat), i ≤ k → k < i + r → cnt (va_up f k v) x r i + (if f k = x then 0 else 1) = cnt f x r i + (if v = x then 0 else 1)
  | 0, i, h1, h2 => by omega
  | r + 1, i, h1, h2 => by
    rw [cnt, cnt]
    by_cases hk : k = i
    · subst hk
      rw [cnt_eq (f := va_up f k v) (g := f) r (k + 1) (fun j h3 h4 => by simp only [va_up, if_neg (show ¬ j = k by omega)])]
      simp only [va_up, if_true]
      omega
    · have := cnt_up (f := f) (x := x) (v := v) (k := k) r (i + 1) (by omega) (by omega)
      simp only [va_up, if_neg (show ¬ i = k by omega)] at this ⊢
      omega
theorem cnt_snoc {f : Nat → Int32} {x : Int32} : ∀ (r i : Nat), cnt f x (r + 1) i = cnt f x r i + (if f (i + r) = x then 0 else 1)
  | 0, i => by simp [cnt]
  | r + 1, i => by
    rw [cnt, cnt_snoc r (i + 1), cnt, show i + 1 + r = i + (r + 1) by omega]
    omega
/-- one taken out, the ones behind it moved up -/
theorem cnt_cut {f g : Nat → Int32} {x : Int32} {k : Nat} : ∀ (r i : Nat), i ≤ k → k < i + (r + 1) → (∀ j, i ≤ j → j < k → g j = f j) → (∀ j, k ≤ j → j < i + r → g j = f (j + 1)) → cnt g x r i + (if f k = x then 0 else 1) = cnt f x (r + 1) i
  | 0, i, h1, h2, h3, h4 => by
    have : k = i := by omega
    subst this
    simp [cnt]
  | r + 1, i, h1, h2, h3, h4 => by
    by_cases hk : k = i
    · subst hk
      have sh : ∀ (r i : Nat), (∀ j, i ≤ j → j < i + r → g j = f (j + 1)) → cnt g x r i = cnt f x r (i + 1) := by
        intro r
        induction r with
        | zero => intro i _; rfl
        | succ r ih => intro i h; rw [cnt, cnt, h i (Nat.le_refl _) (by omega), ih (i + 1) (fun j a b => h j (by omega) (by omega))]
      rw [sh (r + 1) k h4, cnt_s f x (r + 1) k]
      omega
    · have := cnt_cut (f := f) (g := g) (x := x) (k := k) r (i + 1) (by omega) (by omega) (fun j a b => h3 j (by omega) b) (fun j a b => h4 j a (by omega))
      rw [cnt_s g x r i, cnt_s f x (r + 1) i, h3 i (Nat.le_refl _) (by omega)]
      omega
theorem mWc_cnt {M : Nat → Nat → Int32} : ∀ (r i : Nat), mWc M r i ≤ cnt (M 23) 1 r i
  | 0, _ => Nat.le_refl _
  | r + 1, i => by
    have := mWc_cnt (M := M) r (i + 1)
    rw [mWc, cnt]
    by_cases h : M 23 i = 0
    · rw [if_pos h, if_neg (by rw [h]; decide)]
      omega
    · rw [if_neg h]
      omega
/-- callers are requests, none, or outside calls -/
def okO (M : Nat → Nat → Int32) (R : Nat) : Prop := ∀ i, i < R → M 26 i ≤ -2 → ∃ c : Nat, c < 12 ∧ M 26 i = -2 - nI c
/-- the reference's numbers: R requests, W in the line, and there is room in the line for all that could still come into it -/
def okM (M : Nat → Nat → Int32) (R W K : Nat) : Prop := M 28 0 = nI R ∧ R ≤ 30 ∧ M 31 0 = nI W ∧ okA M R ∧ okL M ∧ okO M R ∧ W + cnt (M 23) 1 R 0 + cnt (M 8) 1 32 0 ≤ K ∧ K ≤ 62
theorem okM.W {M : Nat → Nat → Int32} {R W K : Nat} (h : okM M R W K) : W < 64 := by
  have := h.2.2.2.2.2.2.1
  have := h.2.2.2.2.2.2.2
  omega
/-- what okM rests on -/
theorem okM.of {M N : Nat → Nat → Int32} {R W K V : Nat} (h : okM M R W K) (h28 : N 28 0 = M 28 0) (h31 : N 31 0 = nI V) (h18 : ∀ i, i < R → N 18 i = M 18 i) (h19 : ∀ i, i < R → N 19 i = M 19 i) (h22 : ∀ i, i < R → N 22 i = M 22 i ∨ ∃ a : Nat, a < 100 ∧ N 22 i = nI a) (h4 : N 4 = M 4) (h26 : ∀ i, i < R → N 26 i = M 26 i ∨ N 26 i = -1) (hc : V + cnt (N 23) 1 R 0 + cnt (N 8) 1 32 0 ≤ K) : okM N R V K := by
  obtain ⟨a1, a2, a3, a4, a5, a6, a7, a8⟩ := h
  refine ⟨h28.trans a1, a2, h31, fun i hi => ?_, fun q hq => ?_, fun i hi hz => ?_, hc, a8⟩
  · obtain ⟨g, m, a, b1, b2, b3, b4, b5, b6⟩ := a4 i hi
    rcases h22 i hi with z | ⟨a', z1, z2⟩
    · exact ⟨g, m, a, (h18 i hi).trans b1, b2, (h19 i hi).trans b3, b4, z.trans b5, b6⟩
    · exact ⟨g, m, a', (h18 i hi).trans b1, b2, (h19 i hi).trans b3, b4, z2, z1⟩
  · rw [h4]; exact a5 q hq
  · rcases h26 i hi with z | z
    · rw [z] at hz ⊢; exact a6 i hi hz
    · rw [z] at hz; exact absurd hz (by decide)
theorem okM.ready {M : Nat → Nat → Int32} {R W K i : Nat} (h : okM M R W K) (hi : i < R) (h0 : ¬ M 23 i = 1) : okM (mReady M i) R (W + 1) K := by
  have hc := h.2.2.2.2.2.2.1
  refine h.of (by rw [mReady_at (by decide) (by decide) (by decide)]) (by rw [mReady_31, h.2.2.1, nI_1]) (fun j _ => by rw [mReady_at (by decide) (by decide) (by decide)]) (fun j _ => by rw [mReady_at (by decide) (by decide) (by decide)]) (fun j _ => Or.inl (by rw [mReady_at (by decide) (by decide) (by decide)])) (by funext j; rw [mReady_at (by decide) (by decide) (by decide)]) (fun j _ => Or.inl (by rw [mReady_at (by decide) (by decide) (by decide)])) ?_
  have e23 : mReady M i 23 = va_up (M 23) i 1 := by unfold mReady mQueue; rw [u2_ne (by decide), u2_ne (by decide), u2_eq]
  have e8 : mReady M i 8 = M 8 := by funext j; rw [mReady_at (by decide) (by decide) (by decide)]
  have := cnt_up (f := M 23) (x := 1) (v := 1) (k := i) R 0 (Nat.zero_le _) (by omega)
  rw [if_neg h0, if_pos rfl] at this
  rw [e23, e8]
  omega
theorem okM.look {R K g : Nat} : ∀ (r i : Nat) (M : Nat → Nat → Int32) (W : Nat), okM M R W K → i + r = R → ∃ W', okM (mLook g R r i M) R W' K
  | 0, _, M, W, h, _ => ⟨W, h⟩
  | r + 1, i, M, W, h, hi => by
    by_cases hz : M 18 i = nI g ∧ M 23 i = 0 ∧ mLookC M g R i
    · rw [mLook_t hz]
      exact okM.look r (i + 1) _ (W + 1) (h.ready (by omega) (by rw [hz.2.1]; decide)) (by omega)
    · rw [mLook_f hz]
      exact okM.look r (i + 1) M W h (by omega)
theorem okM.looked {M : Nat → Nat → Int32} {R W K g : Nat} (h : okM M R W K) : ∃ W', okM (mLooked M g R) R W' K := by
  unfold mLooked
  split
  · exact okM.look R 0 M W h (by omega)
  · exact ⟨W, h⟩
/-- look(g), over okM -/
theorem u87 {X : Nat × (Nat → Int32)} {d : Nat} {I : Nat → Nat → Int32} {P : Nat → Nat → Option Nat} {M : Nat → Nat → Int32} {g R W K : Nat} (hg : g < 32) (h : okM M R W K) (hd : 2 ≤ d) : jv_F gw X d 87 [.ref 157, .int (nI g)] (he I P M) = some (none, he I P (mLooked M g R)) := by
  have hc := h.2.2.2.2.2.2.1
  have hK := h.2.2.2.2.2.2.2
  have hw := mWc_cnt (M := M) R 0
  exact t87 hg h.1 h.2.1 h.2.2.2.1 h.2.2.1 (by omega) hd
