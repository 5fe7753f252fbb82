/-! ===== late, rest, tick: as functions, and J ===== -/
theorem u2_comm {α : Type} {M : Nat → Nat → α} {f f2 k k2 : Nat} {v v2 : α} (h : f ≠ f2) : u2 (u2 M f k v) f2 k2 v2 = u2 (u2 M f2 k2 v2) f k v := by
  funext a b
  by_cases h1 : a = f
  · subst h1
    rw [u2_ne h, u2_eq, u2_eq, u2_ne h]
  · by_cases h2 : a = f2
    · subst h2
      rw [u2_eq, u2_ne h1, u2_ne h1, u2_eq]
    · rw [u2_ne h2, u2_ne h1, u2_ne h1, u2_ne h2]
section CM
variable {M : Nat → Nat → Int32} {k : Nat} {v : Int32}
theorem mQueue_14 {x : Int32} : mQueue (u2 M 14 k v) x = u2 (mQueue M x) 14 k v := by
  unfold mQueue
  rw [u2_ne (show (31 : Nat) ≠ 14 by decide), u2_comm (f := 14) (f2 := 30) (by decide), u2_comm (f := 14) (f2 := 31) (by decide)]
theorem mReady_14 {i : Nat} : mReady (u2 M 14 k v) i = u2 (mReady M i) 14 k v := by
  unfold mReady
  rw [u2_ne (show (17 : Nat) ≠ 14 by decide), u2_comm (f := 14) (f2 := 23) (by decide), mQueue_14]
theorem mMany_eq {N : Nat → Nat → Int32} {g w : Int32} (h1 : N 18 = M 18) (h2 : N 23 = M 23) : ∀ (r i : Nat), mMany N g w r i = mMany M g w r i
  | 0, _ => rfl
  | r + 1, i => by
    have hp : mP N g w i ↔ mP M g w i := by unfold mP; rw [h1, h2]
    by_cases hz : mP M g w i
    · rw [mMany_t hz, mMany_t (hp.mpr hz), mMany_eq h1 h2 r (i + 1)]
    · rw [mMany_f hz, mMany_f (fun q => hz (hp.mp q)), mMany_eq h1 h2 r (i + 1)]
theorem mAllR_eq {N : Nat → Nat → Int32} {g : Nat} (h1 : N 18 = M 18) (h2 : N 23 = M 23) (h3 : N 19 = M 19) (h4 : N 3 = M 3) : ∀ (r i : Nat), mAllR N g r i = mAllR M g r i
  | 0, _ => rfl
  | r + 1, i => by rw [mAllR, mAllR, h1, h2, h3, h4, mAllR_eq h1 h2 h3 h4 r (i + 1)]
theorem mLookC_14 {g R i : Nat} : mLookC (u2 M 14 k v) g R i ↔ mLookC M g R i := by
  unfold mLookC
  rw [mMany_eq (M := M) (N := u2 M 14 k v) (u2_ne (by decide)) (u2_ne (by decide)), mAllR_eq (M := M) (N := u2 M 14 k v) (u2_ne (by decide)) (u2_ne (by decide)) (u2_ne (by decide)) (u2_ne (by decide)), u2_ne (show (0 : Nat) ≠ 14 by decide), u2_ne (show (2 : Nat) ≠ 14 by decide), u2_ne (show (3 : Nat) ≠ 14 by decide), u2_ne (show (19 : Nat) ≠ 14 by decide), u2_ne (show (27 : Nat) ≠ 14 by decide)]
theorem mLook_14 {g R : Nat} : ∀ (r i : Nat) (M : Nat → Nat → Int32), mLook g R r i (u2 M 14 k v) = u2 (mLook g R r i M) 14 k v
  | 0, _, _ => rfl
  | r + 1, i, M => by
    by_cases hz : M 18 i = nI g ∧ M 23 i = 0 ∧ mLookC M g R i
    · have hz' : u2 M 14 k v 18 i = nI g ∧ u2 M 14 k v 23 i = 0 ∧ mLookC (u2 M 14 k v) g R i := by rw [u2_ne (by decide), u2_ne (by decide)]; exact ⟨hz.1, hz.2.1, mLookC_14.mpr hz.2.2⟩
      rw [mLook_t hz, mLook_t hz', mReady_14, mLook_14 r (i + 1)]
    · have hz' : ¬ (u2 M 14 k v 18 i = nI g ∧ u2 M 14 k v 23 i = 0 ∧ mLookC (u2 M 14 k v) g R i) := by rw [u2_ne (by decide), u2_ne (by decide)]; exact fun q => hz ⟨q.1, q.2.1, mLookC_14.mp q.2.2⟩
      rw [mLook_f hz, mLook_f hz', mLook_14 r (i + 1)]
theorem mMake_14 {R g : Nat} {m w by_ ch : Int32} : mMake (u2 M 14 k v) R g m w by_ ch = u2 (mMake M R g m w by_ ch) 14 k v := by
  have hn : mNew (u2 M 14 k v) R g m w by_ ch = u2 (mNew M R g m w by_ ch) 14 k v := by
    unfold mNew
    rw [u2_ne (show (29 : Nat) ≠ 14 by decide), u2_comm (f := 14) (f2 := 28) (by decide), u2_comm (f := 14) (f2 := 17) (by decide), u2_comm (f := 14) (f2 := 29) (by decide), u2_comm (f := 14) (f2 := 18) (by decide), u2_comm (f := 14) (f2 := 19) (by decide), u2_comm (f := 14) (f2 := 20) (by decide), u2_comm (f := 14) (f2 := 21) (by decide), u2_comm (f := 14) (f2 := 22) (by decide), u2_comm (f := 14) (f2 := 23) (by decide), u2_comm (f := 14) (f2 := 24) (by decide), u2_comm (f := 14) (f2 := 25) (by decide), u2_comm (f := 14) (f2 := 26) (by decide), u2_comm (f := 14) (f2 := 27) (by decide), u2_comm (f := 14) (f2 := 11) (by decide)]
  unfold mMake
  rw [hn, u2_ne (show (8 : Nat) ≠ 14 by decide)]
  by_cases h8 : M 8 g = 0
  · rw [if_pos h8, if_pos h8, u2_comm (f := 14) (f2 := 8) (by decide), mQueue_14]
  · rw [if_neg h8, if_neg h8]
    unfold mLooked
    rw [u2_ne (show (8 : Nat) ≠ 14 by decide)]
    by_cases h9 : mNew M R g m w by_ ch 8 g = 2
    · rw [if_pos h9, if_pos h9, mLook_14]
    · rw [if_neg h9, if_neg h9]
end CM
/-- a tick of the timer, of the reminder of grain g -/
noncomputable def mTim (g : Nat) (M : Nat → Nat → Int32) : Nat → Nat → Int32 :=
  if 0 < M 10 g then (if M 10 g - 1 = 0 ∧ nn (M 28 0) < 30 then mMake (u2 M 10 g (M 10 g - 1)) (nn (M 28 0)) g (nI 3) 0 (-1) 0 else u2 M 10 g (M 10 g - 1)) else M
noncomputable def mRem (g : Nat) (M : Nat → Nat → Int32) : Nat → Nat → Int32 :=
  if 0 < M 15 g then (if M 14 g - 1 = 0 then (if nn (M 28 0) < 30 then mMake (u2 M 14 g (M 15 g)) (nn (M 28 0)) g (nI 2) 0 (-1) 0 else u2 M 14 g (M 15 g)) else u2 M 14 g (M 14 g - 1)) else M
noncomputable def mRest (M : Nat → Nat → Int32) (g : Nat) : Nat → Nat → Int32 :=
  if M 8 g = 2 ∧ mEmpty M (nI g) (nn (M 28 0)) = 1 then (if 0 < M 38 0 ∧ M 38 0 ≤ M 11 g + 1 then mGo (u2 M 11 g (M 11 g + 1)) g else u2 M 11 g (M 11 g + 1)) else M
/-- a tick for the request with number n, if it is there -/
noncomputable def mLate1 (n : Int32) (M : Nat → Nat → Int32) : Nat → Nat → Int32 :=
  let R := nn (M 28 0)
  let i := nn (mFind M n R 0)
  let j := nn (mFind M (M 24 i) R 0)
  if mFind M n R 0 < 0 then M
  else if ¬ M 23 i = 2 then u2 M 45 0 n
  else if M 37 0 = 0 ∨ M 25 i + 1 < M 37 0 then u2 (u2 M 45 0 n) 25 i (M 25 i + 1)
  else if mCatch M i = 1 then mResume (u2 (u2 (u2 M 45 0 n) 25 i (M 25 i + 1)) 26 j (-1)) i 0 103
  else mOver (u2 (u2 (u2 M 45 0 n) 25 i (M 25 i + 1)) 26 j (-1)) R i 0 103
noncomputable def mLateL : List Int32 → (Nat → Nat → Int32) → (Nat → Nat → Int32)
  | [], M => M
  | n :: ns, M => mLateL ns (mLate1 n M)
def mOut1 (c : Nat) (M : Nat → Nat → Int32) : Nat → Nat → Int32 :=
  if ¬ M 32 c = 0 then M
  else if M 37 0 = 0 ∨ M 35 c + 1 < M 37 0 then u2 M 35 c (M 35 c + 1)
  else if mFind M (M 34 c) (nn (M 28 0)) 0 < 0 then u2 (u2 (u2 M 35 c (M 35 c + 1)) 32 c 2) 33 c 103
  else u2 (u2 (u2 (u2 M 35 c (M 35 c + 1)) 32 c 2) 33 c 103) 26 (nn (mFind M (M 34 c) (nn (M 28 0)) 0)) (-1)
/-- the same for 0 .. k - 1, one after the other -/
def upto (F : Nat → (Nat → Nat → Int32) → (Nat → Nat → Int32)) : Nat → (Nat → Nat → Int32) → (Nat → Nat → Int32)
  | 0, M => M
  | k + 1, M => F k (upto F k M)
noncomputable def mTick1 (M : Nat → Nat → Int32) : Nat → Nat → Int32 :=
  let A := upto mRem 32 (upto mTim 32 (u2 M 39 0 (M 39 0 + 1)))
  let B := mLateL (nus A (nn (A 28 0))) A
  upto (fun g N => mRest N g) 32 (upto mOut1 (nn (B 36 0)) B)
noncomputable def mTickL : Nat → (Nat → Nat → Int32) → (Nat → Nat → Int32)
  | 0, M => M
  | r + 1, M => mTickL r (mTick1 M)
section TT
variable {M : Nat → Nat → Int32} {R W O Q : Nat}
theorem J.nR {K : Nat} {y x : Int32} (h : J M R W K O Q y x) : nn (M 28 0) = R := by rw [h.hR, nn_nI (by have := h.h30; omega)]
theorem m1_ng {g : Nat} (hg : g < 32) : ¬ (-1 : Int32) = -2 - nI g := fun z => ng_m1 hg z.symm
theorem J.md {K : Nat} {y x : Int32} (h : J M R W K O Q y x) : ¬ M 29 0 = -1 := by
  obtain ⟨n, n1, n2, n3⟩ := h.n.2.2
  rw [n1]
  exact p_m1 (nI_pos' (by omega))
theorem J.tim (h : J M R W (R + 32) O Q (-1) (-1)) {g : Nat} (hg : g < 32) (hQ : Q + 1 < 2 ^ 30) : ∃ R' W', J (mTim g M) R' W' (R' + 32) O (Q + 1) (-1) (-1) := by
  have h30 := h.h30
  unfold mTim
  rw [h.nR]
  by_cases h1 : 0 < M 10 g
  · rw [if_pos h1]
    have h8 : M 8 g = 2 := by
      rcases (h.g g hg).1 with z | ⟨-, -, z, -⟩
      · exact z
      · rw [z] at h1; exact absurd h1 (by decide)
    have hu : J (u2 M 10 g (M 10 g - 1)) R W (R + 32) O Q (-1) (-1) := by
      refine h.upd (fun f hf => u2_ne (kF_ne hf rfl)) (fun i _ => Or.inl (by rw [u2_ne (by decide)])) (h.g.here h8 (fun k hk => ?_) ?_)
      · rw [u2_ne (by decide), u2_oth hk, u2_ne (by decide), u2_ne (by decide), u2_ne (by decide), u2_ne (by decide)]; exact ⟨rfl, rfl, rfl, rfl, rfl, rfl⟩
      · rw [u2_ne (by decide), u2_ne (by decide)]; exact (h.g g hg).2
    by_cases h2 : M 10 g - 1 = 0 ∧ R < 30
    · rw [if_pos h2]
      obtain ⟨W', q⟩ := hu.make (v := 0) (by_ := -1) (ch := 0) (mm := 3) h2.2 hg (by omega) hu.md (m1_ng hg) rfl (by omega) hQ
      exact ⟨R + 1, W', q⟩
    · rw [if_neg h2]
      exact ⟨R, W, hu.mono (Nat.le_refl _) (by omega) (by omega) hQ⟩
  · rw [if_neg h1]
    exact ⟨R, W, h.mono (Nat.le_refl _) (by omega) (by omega) hQ⟩
theorem J.set14 {y x : Int32} {K : Nat} (h : J M R W K O Q y x) {g : Nat} {v : Int32} (hg : g < 32) (h1 : 0 < M 15 g) (hv : 0 < v) : J (u2 M 14 g v) R W K O Q y x := by
  refine h.upd (fun f hf => u2_ne (kF_ne hf rfl)) (fun i _ => Or.inl (by rw [u2_ne (by decide)])) ?_
  rw [u2_ne (show (9 : Nat) ≠ 14 by decide), u2_ne (show (10 : Nat) ≠ 14 by decide), u2_ne (show (11 : Nat) ≠ 14 by decide), u2_ne (show (15 : Nat) ≠ 14 by decide), u2_ne (show (16 : Nat) ≠ 14 by decide)]
  intro k hk
  obtain ⟨a, b⟩ := h.g k hk
  refine ⟨a, ?_⟩
  by_cases hkg : k = g
  · subst hkg; rw [u2_same]; exact Or.inr ⟨h1, hv⟩
  · rw [u2_oth hkg]; exact b
theorem i32_pred {x : Int32} (h0 : 0 < x) (h1 : ¬ x - 1 = 0) : 0 < x - 1 := by
  obtain ⟨n, hn, rfl⟩ := nI_of (Int32.not_lt.mpr (Int32.le_of_lt h0))
  cases n with
  | zero => exact absurd h0 (by decide)
  | succ n =>
    rw [nI_pred] at h1 ⊢
    cases n with
    | zero => exact absurd rfl h1
    | succ n => exact nI_lt (a := 0) (by omega) (by omega)
theorem J.rem (h : J M R W (R + 32) O Q (-1) (-1)) {g : Nat} (hg : g < 32) (hQ : Q + 1 < 2 ^ 30) : ∃ R' W', J (mRem g M) R' W' (R' + 32) O (Q + 1) (-1) (-1) := by
  have h30 := h.h30
  unfold mRem
  rw [h.nR]
  by_cases h1 : 0 < M 15 g
  · rw [if_pos h1]
    have hd : 0 < M 14 g := by
      rcases (h.g g hg).2 with z | z
      · rw [z.1] at h1; exact absurd h1 (by decide)
      · exact z.2
    by_cases h2 : M 14 g - 1 = 0
    · rw [if_pos h2]
      have hu := h.set14 hg h1 h1
      by_cases h3 : R < 30
      · rw [if_pos h3]
        obtain ⟨W', q⟩ := hu.make (v := 0) (by_ := -1) (ch := 0) (mm := 2) h3 hg (by omega) hu.md (m1_ng hg) rfl (by omega) hQ
        exact ⟨R + 1, W', q⟩
      · rw [if_neg h3]
        exact ⟨R, W, hu.mono (Nat.le_refl _) (by omega) (by omega) hQ⟩
    · rw [if_neg h2]
      exact ⟨R, W, (h.set14 hg h1 (i32_pred hd h2)).mono (Nat.le_refl _) (by omega) (by omega) hQ⟩
  · rw [if_neg h1]
    exact ⟨R, W, h.mono (Nat.le_refl _) (by omega) (by omega) hQ⟩
theorem J.upto1 {F : Nat → (Nat → Nat → Int32) → (Nat → Nat → Int32)} (hF : ∀ (g : Nat) (M : Nat → Nat → Int32) (R W Q : Nat), g < 32 → Q + 1 < 2 ^ 30 → J M R W (R + 32) O Q (-1) (-1) → ∃ R' W', J (F g M) R' W' (R' + 32) O (Q + 1) (-1) (-1)) : ∀ (k : Nat), k ≤ 32 → Q + k < 2 ^ 30 → J M R W (R + 32) O Q (-1) (-1) → ∃ R' W', J (upto F k M) R' W' (R' + 32) O (Q + k) (-1) (-1)
  | 0, _, _, h => ⟨R, W, h⟩
  | k + 1, hk, hQ, h => by
    obtain ⟨R', W', q⟩ := J.upto1 hF k (by omega) (by omega) h
    exact hF k _ R' W' (Q + k) (by omega) (by omega) q
theorem J.rest (h : J M R W (R + 32) O Q (-1) (-1)) {g : Nat} (hg : g < 32) : J (mRest M g) R W (R + 32) O Q (-1) (-1) := by
  unfold mRest
  rw [h.nR]
  split
  · rename_i hz
    have hu : J (u2 M 11 g (M 11 g + 1)) R W (R + 32) O Q (-1) (-1) := by
      refine h.upd (fun f hf => u2_ne (kF_ne hf rfl)) (fun i _ => Or.inl (by rw [u2_ne (by decide)])) (h.g.here hz.1 (fun k hk => ?_) ?_)
      · rw [u2_ne (by decide), u2_ne (by decide), u2_oth hk, u2_ne (by decide), u2_ne (by decide), u2_ne (by decide)]; exact ⟨rfl, rfl, rfl, rfl, rfl, rfl⟩
      · rw [u2_ne (by decide), u2_ne (by decide)]; exact (h.g g hg).2
    split
    · refine hu.go hg (by rw [u2_ne (by decide)]; exact hz.1) ?_
      rw [u2_ne (by decide)]
      exact mEmpty_no hz.2
    · exact hu
  · exact h
theorem J.rests : ∀ (k : Nat), k ≤ 32 → J M R W (R + 32) O Q (-1) (-1) → J (upto (fun g N => mRest N g) k M) R W (R + 32) O Q (-1) (-1)
  | 0, _, h => h
  | k + 1, hk, h => (J.rests k (by omega) h).rest (by omega)
theorem J.out1 (h : J M R W (R + 32) O Q (-1) (-1)) {c : Nat} (hc : c < O) : J (mOut1 c M) R W (R + 32) O Q (-1) (-1) := by
  unfold mOut1
  rw [h.nR]
  split
  · exact h
  · rename_i h0
    have h0 : M 32 c = 0 := Classical.not_not.mp h0
    split
    · refine h.upd (fun f hf => u2_ne (kF_ne hf rfl)) (fun i _ => Or.inl (by rw [u2_ne (by decide)])) ?_
      rw [u2_ne (by decide), u2_ne (by decide), u2_ne (by decide), u2_ne (by decide), u2_ne (by decide), u2_ne (by decide)]; exact h.g
    · have key : ∀ (N : Nat → Nat → Int32), (∀ f, kF f = true → f ≠ 32 → f ≠ 26 → N f = M f) → N 22 = M 22 → N 32 = va_up (M 32) c 2 → (N 9 = M 9 ∧ N 10 = M 10 ∧ N 11 = M 11 ∧ N 15 = M 15 ∧ N 14 = M 14 ∧ N 16 = M 16) → (∀ k, k < R → (M 17 k = M 34 c → N 26 k = -1) ∧ (¬ M 17 k = M 34 c → N 26 k = M 26 k)) → J N R W (R + 32) O Q (-1) (-1) := by
        intro N e h22 h32 h9 h26
        refine ⟨?_, ?_, ?_, ?_, ?_, ?_, ?_, ?_, ?_⟩
        · refine h.ok.of (by rw [e 28 rfl (by decide) (by decide)]) (by rw [e 31 rfl (by decide) (by decide)]; exact h.hW) (fun j _ => by rw [e 18 rfl (by decide) (by decide)]) (fun j _ => by rw [e 19 rfl (by decide) (by decide)]) (fun j _ => Or.inl (by rw [h22])) (e 4 rfl (by decide) (by decide)) (fun j hj => ?_) ?_
          · by_cases hz : M 17 j = M 34 c
            · exact Or.inr ((h26 j hj).1 hz)
            · exact Or.inl ((h26 j hj).2 hz)
          · rw [e 23 rfl (by decide) (by decide), e 8 rfl (by decide) (by decide)]; exact h.ok.2.2.2.2.2.2.1
        · rw [e 17 rfl (by decide) (by decide), e 29 rfl (by decide) (by decide)]; exact h.n
        · rw [e 18 rfl (by decide) (by decide), e 23 rfl (by decide) (by decide), e 8 rfl (by decide) (by decide)]; exact h.s
        · rw [e 17 rfl (by decide) (by decide), e 23 rfl (by decide) (by decide), e 30 rfl (by decide) (by decide), e 8 rfl (by decide) (by decide)]; exact h.l
        · rw [e 17 rfl (by decide) (by decide), e 23 rfl (by decide) (by decide), e 24 rfl (by decide) (by decide), e 25 rfl (by decide) (by decide), e 34 rfl (by decide) (by decide), h32]; exact h.a.out h.n hc h0 h26
        · rw [e 36 rfl (by decide) (by decide)]; exact h.o
        · rw [e 34 rfl (by decide) (by decide), e 29 rfl (by decide) (by decide)]; exact h.q
        · rw [e 8 rfl (by decide) (by decide), h9.1, h9.2.1, h9.2.2.1, h9.2.2.2.1, h9.2.2.2.2.1, h9.2.2.2.2.2]; exact h.g
        · rw [e 4 rfl (by decide) (by decide), e 5 rfl (by decide) (by decide), e 6 rfl (by decide) (by decide), e 7 rfl (by decide) (by decide)]; exact h.t
      rcases mFind_cases (M := M) (n := M 34 c) R 0 with z | ⟨j, j1, j2, j3, j4⟩
      · rw [z, if_pos (by decide)]
        refine key _ (fun f hf a b => by rw [u2_ne (kF_ne hf rfl), u2_ne a, u2_ne (kF_ne hf rfl)]) (by simp [u2_ne]) (by rw [u2_ne (by decide), u2_eq, u2_ne (by decide)]) (by simp [u2_ne]) (fun k hk => ⟨fun q => ?_, fun q => by simp [u2_ne]⟩)
        have := mFind_at h.n hk q
        rw [z] at this
        have h30 := h.h30
        exact absurd this.symm (p_m1 (nI_pos' (by omega)))
      · have h30 := h.h30
        have hnj : nn (nI j) = j := nn_nI (by omega)
        rw [j4, if_neg (nI_pos (by omega)), hnj]
        refine key _ (fun f hf a b => by rw [u2_ne b, u2_ne (kF_ne hf rfl), u2_ne a, u2_ne (kF_ne hf rfl)]) (by simp [u2_ne]) (by rw [u2_ne (by decide), u2_ne (by decide), u2_eq, u2_ne (by decide)]) (by simp [u2_ne]) (fun k hk => ⟨fun q => ?_, fun q => ?_⟩)
        · have := h.n.inj hk (show j < R by omega) (q.trans j3.symm)
          rw [this, u2_same]
        · have : ¬ k = j := fun z => q (by rw [z]; exact j3)
          rw [u2_oth this, u2_ne (by decide), u2_ne (by decide), u2_ne (by decide)]
theorem J.outs : ∀ (k : Nat), k ≤ O → J M R W (R + 32) O Q (-1) (-1) → J (upto mOut1 k M) R W (R + 32) O Q (-1) (-1)
  | 0, _, h => h
  | k + 1, hk, h => (J.outs k (by omega) h).out1 (by omega)
end TT
