/-! ===== THE CLASS against the reference's numbers: which field of the class is which of the reference ===== -/
def cl (a : Nat) : Nat := match a with
  | 1 => 36 | 2 => 39 | 3 => 37 | 4 => 38 | 5 => 42 | 6 => 40 | 7 => 41 | 10 => 0 | 11 => 1 | 12 => 4 | 13 => 2 | 14 => 3 | 15 => 5 | 16 => 6 | 17 => 7
  | 30 => 8 | 31 => 16 | 32 => 9 | 33 => 10 | 34 => 11 | 35 => 15 | 36 => 14 | 37 => 12 | 38 => 13 | 50 => 28 | 51 => 29 | 53 => 31 | 60 => 32 | 61 => 33 | 62 => 34 | 63 => 35
  | _ => 99
def lc (b : Nat) : Nat := match b with
  | 36 => 1 | 39 => 2 | 37 => 3 | 38 => 4 | 42 => 5 | 40 => 6 | 41 => 7 | 0 => 10 | 1 => 11 | 4 => 12 | 2 => 13 | 3 => 14 | 5 => 15 | 6 => 16 | 7 => 17
  | 8 => 30 | 16 => 31 | 9 => 32 | 10 => 33 | 11 => 34 | 15 => 35 | 14 => 36 | 12 => 37 | 13 => 38 | 28 => 50 | 29 => 51 | 31 => 53 | 32 => 60 | 33 => 61 | 34 => 62 | 35 => 63
  | _ => 99
theorem lc_cl {a : Nat} (h : cl a ≠ 99) : lc (cl a) = a := by
  unfold cl at *
  split at h <;> first | rfl | exact absurd rfl h
def relS (I M : Nat → Nat → Int32) : Prop := ∀ a, cl a ≠ 99 → I a = M (cl a)
theorem relS.both {I M : Nat → Nat → Int32} {a b k : Nat} {v : Int32} (h : relS I M) (hb : cl a = b) (h9 : b ≠ 99) : relS (u2 I a k v) (u2 M b k v) := by
  intro a' ha
  by_cases e : a' = a
  · subst e
    rw [hb, u2_eq, u2_eq, h a' ha, hb]
  · rw [u2_ne e, u2_ne (fun z => e (by rw [← lc_cl ha, z, ← hb, lc_cl (by rw [hb]; exact h9)])), h a' ha]
theorem relS.left {I M : Nat → Nat → Int32} {a k : Nat} {v : Int32} (h : relS I M) (hb : cl a = 99) : relS (u2 I a k v) M := by
  intro a' ha
  rw [u2_ne (fun z => ha (by rw [z]; exact hb)), h a' ha]
theorem relS.right {I M : Nat → Nat → Int32} {b k : Nat} {v : Int32} (h : relS I M) (hb : lc b = 99) : relS I (u2 M b k v) := by
  intro a' ha
  rw [u2_ne (fun z => by
    have e := lc_cl ha
    rw [z, hb] at e
    rw [← e] at ha
    exact ha rfl), h a' ha]
def relR (P : Nat → Nat → Option Nat) (ρ : Nat → Nat) : Prop := (∀ k, k < 30 → P 10 k = some (7 + ρ k) ∧ ρ k < 30) ∧ ∀ j k, j < 30 → k < 30 → ρ j = ρ k → j = k
def cq (a : Nat) : Nat := match a with
  | 40 => 17 | 41 => 19 | 42 => 20 | 43 => 23 | 44 => 21 | 45 => 22
  | _ => 99
def qc (b : Nat) : Nat := match b with
  | 17 => 40 | 19 => 41 | 20 => 42 | 23 => 43 | 21 => 44 | 22 => 45
  | _ => 99
theorem qc_cq {a : Nat} (h : cq a ≠ 99) : qc (cq a) = a := by
  unfold cq at *
  split at h <;> first | rfl | exact absurd rfl h
theorem cq_inj {a b : Nat} (ha : cq a ≠ 99) (h : cq a = cq b) : a = b := by
  rw [← qc_cq ha, h, qc_cq (by rw [← h]; exact ha)]
def relQ (I M : Nat → Nat → Int32) (ρ : Nat → Nat) (R : Nat) : Prop := ∀ a k, cq a ≠ 99 → k < R → I a (ρ k) = M (cq a) k
def chn (c w : Int32) : Int32 := c ||| ((1 : Int32) <<< (w &&& 31))
def cbk (c w : Int32) : Int32 := if c &&& ((1 : Int32) <<< (w &&& 31)) = 0 then 0 else 1
def relP (I : Nat → Nat → Int32) (P : Nat → Nat → Option Nat) (M : Nat → Nat → Int32) (ρ : Nat → Nat) (R : Nat) (x : Int32) : Prop := ∀ k, k < R →
  P 0 (ρ k) = some (113 + nn (M 18 k)) ∧ P 1 (ρ k) = some (43 + 18 * (nn (M 18 k) / 8) + 4 * nn (M 19 k)) ∧ I 46 (ρ k) = chn (M 27 k) (M 18 k) ∧ I 47 (ρ k) = cbk (M 27 k) (M 18 k) ∧ (¬ M 17 k = x → I 48 (ρ k) = M 25 k)
def relC (P : Nat → Nat → Option Nat) (M : Nat → Nat → Int32) (ρ : Nat → Nat) (R : Nat) : Prop := ∀ k, k < R → (M 26 k = -1 ∧ P 2 (ρ k) = none ∧ P 3 (ρ k) = none) ∨ (∃ c : Nat, c < 12 ∧ M 26 k = -2 - nI c ∧ P 2 (ρ k) = none ∧ P 3 (ρ k) = some (145 + c)) ∨ (∃ c, c < R ∧ M 26 k = M 17 c ∧ P 2 (ρ k) = some (7 + ρ c) ∧ P 3 (ρ k) = none)
def relA (P : Nat → Nat → Option Nat) (M : Nat → Nat → Int32) (ρ : Nat → Nat) (R : Nat) (x : Int32) : Prop := ∀ k, k < R → ¬ M 17 k = x → (M 24 k = -1 ∧ P 4 (ρ k) = none) ∨ (∃ c, c < R ∧ M 24 k = M 17 c ∧ P 4 (ρ k) = some (7 + ρ c))
def relF (I : Nat → Nat → Int32) (ρ : Nat → Nat) (R : Nat) : Prop := ∀ k, R ≤ k → k < 30 → I 43 (ρ k) = 3
def relL (I M : Nat → Nat → Int32) (W : Nat) : Prop := ∃ f, f < 62 ∧ I 52 0 = nI f ∧ ∀ k, k < W → I 54 ((f + k) % 62) = M 30 k
def Rel (I : Nat → Nat → Int32) (P : Nat → Nat → Option Nat) (M : Nat → Nat → Int32) (ρ : Nat → Nat) (R W : Nat) (x : Int32) : Prop :=
  relS I M ∧ relR P ρ ∧ relQ I M ρ R ∧ relP I P M ρ R x ∧ relC P M ρ R ∧ relA P M ρ R x ∧ relF I ρ R ∧ relL I M W ∧ 0 ≤ M 37 0
section RR
variable {I I2 : Nat → Nat → Int32} {P : Nat → Nat → Option Nat} {M M2 : Nat → Nat → Int32} {ρ : Nat → Nat} {R W : Nat} {x : Int32}
theorem Rel.s (h : Rel I P M ρ R W x) : relS I M := h.1
theorem Rel.r (h : Rel I P M ρ R W x) : relR P ρ := h.2.1
theorem Rel.q (h : Rel I P M ρ R W x) : relQ I M ρ R := h.2.2.1
theorem Rel.p (h : Rel I P M ρ R W x) : relP I P M ρ R x := h.2.2.2.1
theorem Rel.c (h : Rel I P M ρ R W x) : relC P M ρ R := h.2.2.2.2.1
theorem Rel.a (h : Rel I P M ρ R W x) : relA P M ρ R x := h.2.2.2.2.2.1
theorem Rel.f (h : Rel I P M ρ R W x) : relF I ρ R := h.2.2.2.2.2.2.1
theorem Rel.l (h : Rel I P M ρ R W x) : relL I M W := h.2.2.2.2.2.2.2.1
theorem Rel.m (h : Rel I P M ρ R W x) : 0 ≤ M 37 0 := h.2.2.2.2.2.2.2.2
/-- only fields of the table change, or such as nothing is said of -/
theorem Rel.upS (h : Rel I P M ρ R W x) (hs : relS I2 M2) (eI : ∀ a, (40 ≤ a ∧ a ≤ 48) ∨ a = 52 ∨ a = 54 → I2 a = I a) (eM : ∀ b, (17 ≤ b ∧ b ≤ 27) ∨ b = 30 → M2 b = M b) (h37 : M2 37 0 = M 37 0) : Rel I2 P M2 ρ R W x := by
  obtain ⟨h1, h2, h3, h4, h5, h6, h7, h8, h9⟩ := h
  refine ⟨hs, h2, fun a k ha hk => ?_, fun k hk => ?_, fun k hk => ?_, fun k hk => ?_, fun k h1 h2 => ?_, ?_, by rw [h37]; exact h9⟩
  · have ea : (40 ≤ a ∧ a ≤ 48) ∧ 17 ≤ cq a ∧ cq a ≤ 27 := by
      unfold cq at *
      split at ha <;> first | (constructor <;> decide) | exact absurd rfl ha
    rw [eI a (Or.inl ea.1), eM (cq a) (Or.inl ea.2)]
    exact h3 a k ha hk
  · rw [eI 46 (by omega), eI 47 (by omega), eI 48 (by omega), eM 18 (by omega), eM 19 (by omega), eM 27 (by omega), eM 17 (by omega), eM 25 (by omega)]
    exact h4 k hk
  · rw [eM 26 (by omega), eM 17 (by omega)]
    exact h5 k hk
  · rw [eM 24 (by omega), eM 17 (by omega)]
    exact h6 k hk
  · rw [eI 43 (by omega)]
    exact h7 k h1 h2
  · unfold relL
    rw [eI 52 (by omega), eI 54 (by omega), eM 30 (by omega)]
    exact h8
theorem Rel.inj (h : Rel I P M ρ R W x) {j k : Nat} (hj : j < 30) (hk : k < 30) (e : ρ j = ρ k) : j = k := h.r.2 j k hj hk e
/-- a number of row i changes -/
theorem Rel.row (h : Rel I P M ρ R W x) {a b i : Nat} {v : Int32} (h30 : R ≤ 30) (hi : i < R) (ha : 42 ≤ a ∧ a ≤ 45) (hb : cq a = b) : Rel (u2 I a (ρ i) v) P (u2 M b i v) ρ R W x := by
  obtain ⟨h1, h2, h3, h4, h5, h6, h7, h8, h9⟩ := h
  have hb2 : b = 20 ∨ b = 23 ∨ b = 21 ∨ b = 22 := by
    have : a = 42 ∨ a = 43 ∨ a = 44 ∨ a = 45 := by omega
    rcases this with rfl | rfl | rfl | rfl <;> (rw [← hb]; decide)
  have hl : lc b = 99 := by rcases hb2 with rfl | rfl | rfl | rfl <;> rfl
  have hca : cl a = 99 := by
    have : a = 42 ∨ a = 43 ∨ a = 44 ∨ a = 45 := by omega
    rcases this with rfl | rfl | rfl | rfl <;> rfl
  have eM : ∀ f, f ≠ b → u2 M b i v f = M f := fun f z => u2_ne z
  have eI : ∀ f, f ≠ a → u2 I a (ρ i) v f = I f := fun f z => u2_ne z
  refine ⟨(h1.left hca).right hl, h2, fun a' k ha' hk => ?_, fun k hk => ?_, fun k hk => ?_, fun k hk => ?_, fun k hk1 hk2 => ?_, ?_, ?_⟩
  · by_cases e : a' = a
    · subst e
      rw [hb, u2_at, u2_at]
      by_cases hki : k = i
      · rw [if_pos (by rw [hki]), if_pos hki]
      · rw [if_neg (fun z => hki (h2.2 k i (by omega) (by omega) z)), if_neg hki, ← hb]
        exact h3 a' k ha' hk
    · rw [u2_ne e, u2_ne (fun z => e (cq_inj ha' (by rw [z, hb])))]
      exact h3 a' k ha' hk
  · rw [eI 46 (by omega), eI 47 (by omega), eI 48 (by omega), eM 18 (by omega), eM 19 (by omega), eM 27 (by omega), eM 17 (by omega), eM 25 (by omega)]
    exact h4 k hk
  · rw [eM 26 (by omega), eM 17 (by omega)]
    exact h5 k hk
  · rw [eM 24 (by omega), eM 17 (by omega)]
    exact h6 k hk
  · have hne : ¬ ρ k = ρ i := fun z => by have := h2.2 k i hk2 (by omega) z; omega
    by_cases e : (43 : Nat) = a
    · rw [← e, u2_oth hne]; exact h7 k hk1 hk2
    · rw [eI 43 e]; exact h7 k hk1 hk2
  · unfold relL
    rw [eI 52 (by omega), eI 54 (by omega), eM 30 (by omega)]
    exact h8
  · rw [eM 37 (by omega)]; exact h9
end RR
