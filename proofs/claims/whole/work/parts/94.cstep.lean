/-! ===== the class: sendCall, sendTell, doStep ===== -/
theorem sw48_0 {X : Nat × (Nat → Int32)} {d : Nat} {h : jv_H} {S : List Value} {a0 a1 a2 a3 a4 a5 : Option Value} : jl gw X d 48 7 [a0, a1, a2, a3, a4, a5] (.int (nI 0) :: S) h = jl gw X d 48 80 [a0, a1, a2, a3, a4, a5] S h := by rw [r48_7, if_pos (show nI 0 = 0 from rfl)]
theorem sw48_1 {X : Nat × (Nat → Int32)} {d : Nat} {h : jv_H} {S : List Value} {a0 a1 a2 a3 a4 a5 : Option Value} : jl gw X d 48 7 [a0, a1, a2, a3, a4, a5] (.int (nI 1) :: S) h = jl gw X d 48 94 [a0, a1, a2, a3, a4, a5] S h := by rw [r48_7, if_neg (show ¬ nI 1 = 0 by decide), if_pos (show nI 1 = 1 from rfl)]
theorem sw48_2 {X : Nat × (Nat → Int32)} {d : Nat} {h : jv_H} {S : List Value} {a0 a1 a2 a3 a4 a5 : Option Value} : jl gw X d 48 7 [a0, a1, a2, a3, a4, a5] (.int (nI 2) :: S) h = jl gw X d 48 111 [a0, a1, a2, a3, a4, a5] S h := by rw [r48_7, if_neg (show ¬ nI 2 = 0 by decide), if_neg (show ¬ nI 2 = 1 by decide), if_pos (show nI 2 = 2 from rfl)]
theorem sw48_3 {X : Nat × (Nat → Int32)} {d : Nat} {h : jv_H} {S : List Value} {a0 a1 a2 a3 a4 a5 : Option Value} : jl gw X d 48 7 [a0, a1, a2, a3, a4, a5] (.int (nI 3) :: S) h = jl gw X d 48 128 [a0, a1, a2, a3, a4, a5] S h := by rw [r48_7, if_neg (show ¬ nI 3 = 0 by decide), if_neg (show ¬ nI 3 = 1 by decide), if_neg (show ¬ nI 3 = 2 by decide), if_pos (show nI 3 = 3 from rfl)]
theorem sw48_4 {X : Nat × (Nat → Int32)} {d : Nat} {h : jv_H} {S : List Value} {a0 a1 a2 a3 a4 a5 : Option Value} : jl gw X d 48 7 [a0, a1, a2, a3, a4, a5] (.int (nI 4) :: S) h = jl gw X d 48 142 [a0, a1, a2, a3, a4, a5] S h := by rw [r48_7, if_neg (show ¬ nI 4 = 0 by decide), if_neg (show ¬ nI 4 = 1 by decide), if_neg (show ¬ nI 4 = 2 by decide), if_neg (show ¬ nI 4 = 3 by decide), if_pos (show nI 4 = 4 from rfl)]
theorem sw48_5 {X : Nat × (Nat → Int32)} {d : Nat} {h : jv_H} {S : List Value} {a0 a1 a2 a3 a4 a5 : Option Value} : jl gw X d 48 7 [a0, a1, a2, a3, a4, a5] (.int (nI 5) :: S) h = jl gw X d 48 156 [a0, a1, a2, a3, a4, a5] S h := by rw [r48_7, if_neg (show ¬ nI 5 = 0 by decide), if_neg (show ¬ nI 5 = 1 by decide), if_neg (show ¬ nI 5 = 2 by decide), if_neg (show ¬ nI 5 = 3 by decide), if_neg (show ¬ nI 5 = 4 by decide), if_pos (show nI 5 = 5 from rfl)]
theorem sw48_6 {X : Nat × (Nat → Int32)} {d : Nat} {h : jv_H} {S : List Value} {a0 a1 a2 a3 a4 a5 : Option Value} : jl gw X d 48 7 [a0, a1, a2, a3, a4, a5] (.int (nI 6) :: S) h = jl gw X d 48 172 [a0, a1, a2, a3, a4, a5] S h := by rw [r48_7, if_neg (show ¬ nI 6 = 0 by decide), if_neg (show ¬ nI 6 = 1 by decide), if_neg (show ¬ nI 6 = 2 by decide), if_neg (show ¬ nI 6 = 3 by decide), if_neg (show ¬ nI 6 = 4 by decide), if_neg (show ¬ nI 6 = 5 by decide), if_pos (show nI 6 = 6 from rfl)]
theorem sw48_7 {X : Nat × (Nat → Int32)} {d : Nat} {h : jv_H} {S : List Value} {a0 a1 a2 a3 a4 a5 : Option Value} : jl gw X d 48 7 [a0, a1, a2, a3, a4, a5] (.int (nI 7) :: S) h = jl gw X d 48 185 [a0, a1, a2, a3, a4, a5] S h := by rw [r48_7, if_neg (show ¬ nI 7 = 0 by decide), if_neg (show ¬ nI 7 = 1 by decide), if_neg (show ¬ nI 7 = 2 by decide), if_neg (show ¬ nI 7 = 3 by decide), if_neg (show ¬ nI 7 = 4 by decide), if_neg (show ¬ nI 7 = 5 by decide), if_neg (show ¬ nI 7 = 6 by decide), if_pos (show nI 7 = 7 from rfl)]
theorem sw48_8 {X : Nat × (Nat → Int32)} {d : Nat} {h : jv_H} {S : List Value} {a0 a1 a2 a3 a4 a5 : Option Value} : jl gw X d 48 7 [a0, a1, a2, a3, a4, a5] (.int (nI 8) :: S) h = jl gw X d 48 187 [a0, a1, a2, a3, a4, a5] S h := by rw [r48_7, if_neg (show ¬ nI 8 = 0 by decide), if_neg (show ¬ nI 8 = 1 by decide), if_neg (show ¬ nI 8 = 2 by decide), if_neg (show ¬ nI 8 = 3 by decide), if_neg (show ¬ nI 8 = 4 by decide), if_neg (show ¬ nI 8 = 5 by decide), if_neg (show ¬ nI 8 = 6 by decide), if_neg (show ¬ nI 8 = 7 by decide), if_pos (show nI 8 = 8 from rfl)]
theorem sw48_9 {X : Nat × (Nat → Int32)} {d : Nat} {h : jv_H} {S : List Value} {a0 a1 a2 a3 a4 a5 : Option Value} : jl gw X d 48 7 [a0, a1, a2, a3, a4, a5] (.int (nI 9) :: S) h = jl gw X d 48 196 [a0, a1, a2, a3, a4, a5] S h := by rw [r48_7, if_neg (show ¬ nI 9 = 0 by decide), if_neg (show ¬ nI 9 = 1 by decide), if_neg (show ¬ nI 9 = 2 by decide), if_neg (show ¬ nI 9 = 3 by decide), if_neg (show ¬ nI 9 = 4 by decide), if_neg (show ¬ nI 9 = 5 by decide), if_neg (show ¬ nI 9 = 6 by decide), if_neg (show ¬ nI 9 = 7 by decide), if_neg (show ¬ nI 9 = 8 by decide), if_pos (show nI 9 = 9 from rfl)]
theorem sw48_10 {X : Nat × (Nat → Int32)} {d : Nat} {h : jv_H} {S : List Value} {a0 a1 a2 a3 a4 a5 : Option Value} : jl gw X d 48 7 [a0, a1, a2, a3, a4, a5] (.int (nI 10) :: S) h = jl gw X d 48 205 [a0, a1, a2, a3, a4, a5] S h := by rw [r48_7, if_neg (show ¬ nI 10 = 0 by decide), if_neg (show ¬ nI 10 = 1 by decide), if_neg (show ¬ nI 10 = 2 by decide), if_neg (show ¬ nI 10 = 3 by decide), if_neg (show ¬ nI 10 = 4 by decide), if_neg (show ¬ nI 10 = 5 by decide), if_neg (show ¬ nI 10 = 6 by decide), if_neg (show ¬ nI 10 = 7 by decide), if_neg (show ¬ nI 10 = 8 by decide), if_neg (show ¬ nI 10 = 9 by decide), if_pos (show nI 10 = 10 from rfl)]
theorem sw48_11 {X : Nat × (Nat → Int32)} {d : Nat} {h : jv_H} {S : List Value} {a0 a1 a2 a3 a4 a5 : Option Value} : jl gw X d 48 7 [a0, a1, a2, a3, a4, a5] (.int (nI 11) :: S) h = jl gw X d 48 259 [a0, a1, a2, a3, a4, a5] S h := by rw [r48_7, if_neg (show ¬ nI 11 = 0 by decide), if_neg (show ¬ nI 11 = 1 by decide), if_neg (show ¬ nI 11 = 2 by decide), if_neg (show ¬ nI 11 = 3 by decide), if_neg (show ¬ nI 11 = 4 by decide), if_neg (show ¬ nI 11 = 5 by decide), if_neg (show ¬ nI 11 = 6 by decide), if_neg (show ¬ nI 11 = 7 by decide), if_neg (show ¬ nI 11 = 8 by decide), if_neg (show ¬ nI 11 = 9 by decide), if_neg (show ¬ nI 11 = 10 by decide), if_pos (show nI 11 = 11 from rfl)]
theorem sw48_12 {X : Nat × (Nat → Int32)} {d : Nat} {h : jv_H} {S : List Value} {a0 a1 a2 a3 a4 a5 : Option Value} : jl gw X d 48 7 [a0, a1, a2, a3, a4, a5] (.int (nI 12) :: S) h = jl gw X d 48 214 [a0, a1, a2, a3, a4, a5] S h := by rw [r48_7, if_neg (show ¬ nI 12 = 0 by decide), if_neg (show ¬ nI 12 = 1 by decide), if_neg (show ¬ nI 12 = 2 by decide), if_neg (show ¬ nI 12 = 3 by decide), if_neg (show ¬ nI 12 = 4 by decide), if_neg (show ¬ nI 12 = 5 by decide), if_neg (show ¬ nI 12 = 6 by decide), if_neg (show ¬ nI 12 = 7 by decide), if_neg (show ¬ nI 12 = 8 by decide), if_neg (show ¬ nI 12 = 9 by decide), if_neg (show ¬ nI 12 = 10 by decide), if_neg (show ¬ nI 12 = 11 by decide), if_pos (show nI 12 = 12 from rfl)]
theorem sw48_13 {X : Nat × (Nat → Int32)} {d : Nat} {h : jv_H} {S : List Value} {a0 a1 a2 a3 a4 a5 : Option Value} : jl gw X d 48 7 [a0, a1, a2, a3, a4, a5] (.int (nI 13) :: S) h = jl gw X d 48 238 [a0, a1, a2, a3, a4, a5] S h := by rw [r48_7, if_neg (show ¬ nI 13 = 0 by decide), if_neg (show ¬ nI 13 = 1 by decide), if_neg (show ¬ nI 13 = 2 by decide), if_neg (show ¬ nI 13 = 3 by decide), if_neg (show ¬ nI 13 = 4 by decide), if_neg (show ¬ nI 13 = 5 by decide), if_neg (show ¬ nI 13 = 6 by decide), if_neg (show ¬ nI 13 = 7 by decide), if_neg (show ¬ nI 13 = 8 by decide), if_neg (show ¬ nI 13 = 9 by decide), if_neg (show ¬ nI 13 = 10 by decide), if_neg (show ¬ nI 13 = 11 by decide), if_neg (show ¬ nI 13 = 12 by decide), if_pos (show nI 13 = 13 from rfl)]
theorem sw48_14 {X : Nat × (Nat → Int32)} {d : Nat} {h : jv_H} {S : List Value} {a0 a1 a2 a3 a4 a5 : Option Value} : jl gw X d 48 7 [a0, a1, a2, a3, a4, a5] (.int (nI 14) :: S) h = jl gw X d 48 250 [a0, a1, a2, a3, a4, a5] S h := by rw [r48_7, if_neg (show ¬ nI 14 = 0 by decide), if_neg (show ¬ nI 14 = 1 by decide), if_neg (show ¬ nI 14 = 2 by decide), if_neg (show ¬ nI 14 = 3 by decide), if_neg (show ¬ nI 14 = 4 by decide), if_neg (show ¬ nI 14 = 5 by decide), if_neg (show ¬ nI 14 = 6 by decide), if_neg (show ¬ nI 14 = 7 by decide), if_neg (show ¬ nI 14 = 8 by decide), if_neg (show ¬ nI 14 = 9 by decide), if_neg (show ¬ nI 14 = 10 by decide), if_neg (show ¬ nI 14 = 11 by decide), if_neg (show ¬ nI 14 = 12 by decide), if_neg (show ¬ nI 14 = 13 by decide), if_pos (show nI 14 = 14 from rfl)]
section CL
variable {X : Nat × (Nat → Int32)} {d : Nat} {I : Nat → Nat → Int32} {P : Nat → Nat → Option Nat} {M N : Nat → Nat → Int32} {ρ : Nat → Nat} {R W K O Q : Nat} {y x : Int32}
/-- the made one has a caller, who awaits it -/
theorem Rel.call (h : Rel I P M ρ (R + 1) W (-1)) {i : Nat} {M2n : Int32} (hR : R < 30) (hi : i < R) (h17 : M 17 R = M2n) (h26 : M 26 R = -1) : Rel I (u2 (u2 P 2 (ρ R) (some (7 + ρ i))) 4 (ρ i) (some (7 + ρ R))) (u2 (u2 M 24 i M2n) 26 R (M 17 i)) ρ (R + 1) W (-1) := by
  obtain ⟨h1, h2, h3, h4, h5, h6, h7, h8, h9⟩ := h
  have hne : ∀ k j, k < 30 → j < 30 → ¬ k = j → ¬ ρ k = ρ j := fun k j hk hj hkj z => hkj (h2.2 k j hk hj z)
  have eM : ∀ f, f ≠ 24 → f ≠ 26 → u2 (u2 M 24 i M2n) 26 R (M 17 i) f = M f := fun f p q => by rw [u2_ne q, u2_ne p]
  have eP : ∀ f, f ≠ 2 → f ≠ 4 → u2 (u2 P 2 (ρ R) (some (7 + ρ i))) 4 (ρ i) (some (7 + ρ R)) f = P f := fun f p q => by rw [u2_ne q, u2_ne p]
  refine ⟨(h1.right rfl).right rfl, ⟨fun k hk => by rw [eP 10 (by decide) (by decide)]; exact h2.1 k hk, h2.2⟩, fun a k ha hk => ?_, fun k hk => ?_, fun k hk => ?_, fun k hk hx => ?_, h7, ?_, ?_⟩
  · have ea : (40 ≤ a ∧ a ≤ 45) ∧ 17 ≤ cq a ∧ cq a ≤ 23 := by
      unfold cq at *
      split at ha <;> first | (constructor <;> decide) | exact absurd rfl ha
    rw [eM _ (by omega) (by omega)]
    exact h3 a k ha hk
  · rw [eP 0 (by decide) (by decide), eP 1 (by decide) (by decide), eM 18 (by decide) (by decide), eM 19 (by decide) (by decide), eM 27 (by decide) (by decide), eM 17 (by decide) (by decide), eM 25 (by decide) (by decide)]
    exact h4 k hk
  · rw [u2_ne (show (2 : Nat) ≠ 4 by decide), eP 3 (by decide) (by decide), eM 17 (by decide) (by decide), u2_at]
    by_cases hkR : k = R
    · subst hkR
      rw [if_pos rfl, u2_same]
      refine Or.inr (Or.inr ⟨i, by omega, rfl, rfl, ?_⟩)
      rcases h5 k (by omega) with ⟨z1, z2, z3⟩ | ⟨c, c1, c2, c3, c4⟩ | ⟨c, c1, c2, c3, c4⟩
      · exact z3
      · exact absurd (h26.symm.trans c2).symm (ng_m1 (by omega))
      · exact c4
    · rw [if_neg hkR, u2_oth (hne k R (by omega) hR hkR), u2_ne (show (26 : Nat) ≠ 24 by decide)]
      exact h5 k hk
  · rw [eM 17 (by decide) (by decide)] at hx ⊢
    rw [u2_ne (show (24 : Nat) ≠ 26 by decide), u2_at, u2_at]
    by_cases hki : k = i
    · subst hki
      rw [if_pos rfl, if_pos rfl]
      exact Or.inr ⟨R, by omega, h17.symm, rfl⟩
    · rw [if_neg hki, if_neg (hne k i (by omega) (by omega) hki), u2_ne (show (4 : Nat) ≠ 2 by decide)]
      exact h6 k hk hx
  · unfold relL
    rw [eM 30 (by decide) (by decide)]; exact h8
  · rw [eM 37 (by decide) (by decide)]; exact h9
theorem mMake_at {M : Nat → Nat → Int32} {R g f j : Nat} {m v b c : Int32} (hj : ¬ j = R) (h : f = 17 ∨ f = 24 ∨ f = 25) : mMake M R g m v b c f j = M f j := by
  rw [mMake_made, mMade_at (by omega) (by omega) (by omega) (by omega), mNew_row hj (by omega)]
theorem mMake_17 {M : Nat → Nat → Int32} {R g : Nat} {m v b c : Int32} : mMake M R g m v b c 17 R = M 29 0 := by
  rw [mMake_made, mMade_at (by decide) (by decide) (by decide) (by decide), mNew_f.1]
  simp [va_up]
theorem mMake_26 {M : Nat → Nat → Int32} {R g : Nat} {m v b c : Int32} : mMake M R g m v b c 26 R = b := by
  rw [mMake_made, mMade_at (by decide) (by decide) (by decide) (by decide), mNew_f.2.2.2.2.2.1]
  simp [va_up]
theorem mInvoke_alt {i g a b : Nat} (hi : ¬ i = R) (h23 : ¬ M 23 i = 0) (h25 : M 25 i = 0) : mInvoke M R i g a b = u2 (u2 (u2 (mMake M R a (nI b) (M 9 g) (-1) (M 27 i ||| ((1 : Int32) <<< (nI g &&& 31)))) 23 i 2) 24 i (M 29 0)) 26 R (M 17 i) := by
  unfold mInvoke
  rw [mMake_by, mMake_row hi (Or.inr rfl), mMake_row hi (Or.inl rfl), mMake_23 hi (by decide) h23]
  rw [u2_id (f := 25) (by rw [u2_ne (by decide), u2_ne (by decide), mMake_at hi (by omega)]; exact h25)]
theorem c49 {i g b c : Nat} (h : RJ I P M ρ R W (R + 31) O Q y (-1)) (hi : i < R) (hy : y = M 17 i) (h23 : M 23 i = 1) (hg : M 18 i = nI g) (hg2 : g < 32) (hb : b < 32) (hc : c < 4) (hR : R < 30) (hQ : Q + 1 < 2 ^ 30) (hd : 5 ≤ d) : ∃ I' P' W', jv_F gw X d 49 [.ref 1, .ref (7 + ρ i), .ref (113 + b), .int (nI c)] (he I P N) = some (some (.int (-1)), he I' P' N) ∧ Rel I' P' (mInvoke M R i g b c) ρ (R + 1) W' (-1) ∧ mInvoke M R i g b c 28 0 = nI (R + 1) ∧ mInvoke M R i g b c 31 0 = nI W' ∧ W' < 100 := by
  obtain ⟨d, rfl⟩ : ∃ q, d = q + 1 := ⟨d - 1, by omega⟩
  have h0 := (h.2.n.1 i hi).1
  obtain ⟨g1, m, b1, b2, b3, b4, b5, b6, b7, b8, b9, b10, b11, b12, b13, b14, b46, b47⟩ := h.row hi
  have eg : g1 = g := (nI_eq (by omega) (by omega)).mp (b3.symm.trans hg)
  subst eg
  have e32 : I 32 = M 9 := h.1.s 32 (by decide)
  have h25 : M 25 i = 0 := by
    rcases h.2.a.1 i hi (p_m1 h0) with z | z
    · rw [h23] at z; exact absurd z.1 (by decide)
    · exact z.2.2
  obtain ⟨I1, P1, W1, k1, k2⟩ := c19 (X := X) (d := d) (N := N) (g := b) (mm := c) (v := M 9 g1) (ch := M 27 i ||| ((1 : Int32) <<< (nI g1 &&& 31))) h hR hb hc (by rw [hy]; exact fun z => h.2.n.ne hi z.symm) (by rw [hy]; exact ng_ne hb h0) (by omega) hQ (by omega)
  have hiR : ¬ i = R := by omega
  have hr1 := k2.1.row (a := 43) (b := 23) (i := i) (v := 2) (by omega) (by omega) (by omega) rfl
  have e17 : mMake M R b (nI c) (M 9 g1) (-1) (M 27 i ||| ((1 : Int32) <<< (nI g1 &&& 31))) 17 i = M 17 i := mMake_at hiR (by omega)
  have hr2 := hr1.call (i := i) (M2n := M 29 0) hR hi (by rw [u2_ne (by decide)]; exact mMake_17) (by rw [u2_ne (by decide)]; exact mMake_26)
  rw [u2_ne (show (17 : Nat) ≠ 23 by decide), e17] at hr2
  rw [mInvoke_alt hiR (by rw [h23]; decide) h25]
  refine ⟨_, _, W1, ?_, hr2, ?_, ?_, ?_⟩
  · have hfull := c18 (X := X) (d := d) (P := P) (N := N) h.size (by omega) (by omega)
    rw [if_pos hR] at hfull
    have hch : I 46 (ρ i) = M 27 i ||| ((1 : Int32) <<< (nI g1 &&& 31)) := b46
    have hρR : ρ R < 30 := (h.1.r.1 R hR).2
    rw [e49 rfl rfl]
    simp (disch := first | decide | omega | assumption | (simp (disch := decide) only [u2_ne, u2_same, mQueue]; assumption)) only [kV_some, kI_some, kR_some, kR_any, kH_some, kC_none, kC_some, jv_rsv_ref, jv_rsv_rf, jv_nz_ref, jv_nz_null, jv_nz_rf0, jv_nz_rf1, jv_rq_r1, jv_rq_r0, n10, n11, n00, Nat.reduceEqDiff, Option.bind_some, Option.bind_none, jv_isr_ref, jv_isr_rf, jv_isr_null, va_rf_some, va_rf_none, jv_cat1_int, jv_cat1_ref, jv_cat1_rf, if_true, if_false, eq_self, Option.toList_some, Option.toList_none, List.cons_append, List.nil_append, Bool.and_self, Bool.and_true, i32_10, i32_01, i32_80, nI_div8, nI_mul4, nI_mul8, nI_mul32, nI_add, ↓reduceIte, u2_ne, u2_same, r49_0, r49_1, r49_4, r49_7, r49_10, r49_11, r49_13, r49_16, r49_19, r49_20, r49_23, r49_25, r49_26, r49_27, r49_28, r49_29, r49_30, r49_33, r49_36, r49_37, r49_40, r49_43, r49_45, r49_47, r49_48, r49_51, r49_52, r49_54, r49_57, r49_58, gt_1_3, ic_5, hfull, gt_rq_1, b7, gt_gr_4, e32, gt_rq_8, hch, ic_1, k1, pt_rq_10r, ic_rq, c50]
  · rw [u2_ne (by decide), u2_ne (by decide), u2_ne (by decide)]; exact k2.2.hR
  · rw [u2_ne (by decide), u2_ne (by decide), u2_ne (by decide)]; exact k2.2.hW
  · have := k2.2.ok.W; omega
/-- what a step leaves, in the class: the object, the numbers -/
def stp (I : Nat → Nat → Int32) (P : Nat → Nat → Option Nat) (X : Nat × (Nat → Int32)) (d : Nat) (N : Nat → Nat → Int32) (ρ : Nat → Nat) (i o : Nat) (va vb : Int32) (r : (Nat → Nat → Int32) × Int32) : Prop := ∃ I' P' R' W', jv_F gw X d 48 [.ref 1, .ref (7 + ρ i), .int (nI o), .int va, .int vb] (he I P N) = some (some (.int r.2), he I' P' N) ∧ Rel I' P' r.1 ρ R' W' (-1) ∧ r.1 28 0 = nI R' ∧ R' < 100 ∧ r.1 31 0 = nI W' ∧ W' < 100
theorem c48_0 {i g : Nat} {va vb : Int32} (h : RJ I P M ρ R W (R + 31) O Q y (-1)) (hi : i < R) (hg : M 18 i = nI g) (hg2 : g < 32) (hd : 6 ≤ d) : stp I P X d N ρ i 0 va vb (u2 M 9 g (M 9 g + va), 0) := by
  obtain ⟨d, rfl⟩ : ∃ q, d = q + 1 := ⟨d - 1, by omega⟩
  have h30 := h.2.h30
  have hW := h.2.ok.W
  obtain ⟨g1, m, b1, b2, b3, b4, b5, b6, b7, b8, b9, b10, b11, b12, b13, b14, b46, b47⟩ := h.row hi
  have eg : g1 = g := (nI_eq (by omega) (by omega)).mp (b3.symm.trans hg)
  subst eg
  have e32 : I 32 = M 9 := h.1.s 32 (by decide)
  refine ⟨_, P, R, W, ?_, h.1.both (a := 32) (b := 9) rfl (by decide) (by omega) (by omega) (by decide), by simp [u2_ne, h.2.hR], by omega, by simp [u2_ne, h.2.hW], by omega⟩
  rw [e48 rfl]
  simp (disch := first | decide | omega | assumption | (simp (disch := decide) only [u2_ne, u2_same, mQueue]; assumption)) only [kV_some, kI_some, kR_some, kR_any, kH_some, kC_none, kC_some, jv_rsv_ref, jv_rsv_rf, jv_nz_ref, jv_nz_null, jv_nz_rf0, jv_nz_rf1, jv_rq_r1, jv_rq_r0, n10, n11, n00, Nat.reduceEqDiff, Option.bind_some, Option.bind_none, jv_isr_ref, jv_isr_rf, jv_isr_null, va_rf_some, va_rf_none, jv_cat1_int, jv_cat1_ref, jv_cat1_rf, if_true, if_false, eq_self, Option.toList_some, Option.toList_none, List.cons_append, List.nil_append, Bool.and_self, Bool.and_true, i32_10, i32_01, i32_80, nI_div8, nI_mul4, nI_mul8, nI_mul32, nI_add, ↓reduceIte, u2_ne, u2_same, r48_0, r48_1, r48_4, r48_6, r48_80, r48_82, r48_83, r48_86, r48_87, r48_88, r48_91, r48_94, r48_96, r48_97, r48_100, r48_101, r48_104, r48_105, r48_108, r48_111, r48_113, r48_114, r48_117, r48_118, r48_121, r48_122, r48_125, r48_128, r48_129, r48_130, r48_131, r48_134, r48_135, r48_136, r48_138, r48_141, r48_142, r48_143, r48_144, r48_145, r48_148, r48_149, r48_150, r48_152, r48_155, r48_156, r48_157, r48_159, r48_162, r48_165, r48_166, r48_169, r48_171, r48_172, r48_173, r48_176, r48_177, r48_180, r48_183, r48_184, r48_185, r48_186, r48_187, r48_189, r48_190, r48_193, r48_196, r48_198, r48_199, r48_202, r48_205, r48_207, r48_208, r48_211, r48_214, r48_215, r48_216, r48_219, r48_220, r48_223, r48_226, r48_227, r48_230, r48_231, r48_232, r48_235, r48_238, r48_239, r48_241, r48_244, r48_247, r48_250, r48_252, r48_253, r48_256, r48_259, r48_260, gt_rq_1, b7, sw48_0, gt_gr_4, e32, pt_gr_4, or_true, true_or]
theorem c48_1 {i g : Nat} {va vb : Int32} (h : RJ I P M ρ R W (R + 31) O Q y (-1)) (hi : i < R) (hg : M 18 i = nI g) (hg2 : g < 32) (hd : 6 ≤ d) : stp I P X d N ρ i 1 va vb (u2 M 9 g (M 9 g + M 20 i), 0) := by
  obtain ⟨d, rfl⟩ : ∃ q, d = q + 1 := ⟨d - 1, by omega⟩
  have h30 := h.2.h30
  have hW := h.2.ok.W
  obtain ⟨g1, m, b1, b2, b3, b4, b5, b6, b7, b8, b9, b10, b11, b12, b13, b14, b46, b47⟩ := h.row hi
  have eg : g1 = g := (nI_eq (by omega) (by omega)).mp (b3.symm.trans hg)
  subst eg
  have e32 : I 32 = M 9 := h.1.s 32 (by decide)
  refine ⟨_, P, R, W, ?_, h.1.both (a := 32) (b := 9) rfl (by decide) (by omega) (by omega) (by decide), by simp [u2_ne, h.2.hR], by omega, by simp [u2_ne, h.2.hW], by omega⟩
  rw [e48 rfl]
  simp (disch := first | decide | omega | assumption | (simp (disch := decide) only [u2_ne, u2_same, mQueue]; assumption)) only [kV_some, kI_some, kR_some, kR_any, kH_some, kC_none, kC_some, jv_rsv_ref, jv_rsv_rf, jv_nz_ref, jv_nz_null, jv_nz_rf0, jv_nz_rf1, jv_rq_r1, jv_rq_r0, n10, n11, n00, Nat.reduceEqDiff, Option.bind_some, Option.bind_none, jv_isr_ref, jv_isr_rf, jv_isr_null, va_rf_some, va_rf_none, jv_cat1_int, jv_cat1_ref, jv_cat1_rf, if_true, if_false, eq_self, Option.toList_some, Option.toList_none, List.cons_append, List.nil_append, Bool.and_self, Bool.and_true, i32_10, i32_01, i32_80, nI_div8, nI_mul4, nI_mul8, nI_mul32, nI_add, ↓reduceIte, u2_ne, u2_same, r48_0, r48_1, r48_4, r48_6, r48_80, r48_82, r48_83, r48_86, r48_87, r48_88, r48_91, r48_94, r48_96, r48_97, r48_100, r48_101, r48_104, r48_105, r48_108, r48_111, r48_113, r48_114, r48_117, r48_118, r48_121, r48_122, r48_125, r48_128, r48_129, r48_130, r48_131, r48_134, r48_135, r48_136, r48_138, r48_141, r48_142, r48_143, r48_144, r48_145, r48_148, r48_149, r48_150, r48_152, r48_155, r48_156, r48_157, r48_159, r48_162, r48_165, r48_166, r48_169, r48_171, r48_172, r48_173, r48_176, r48_177, r48_180, r48_183, r48_184, r48_185, r48_186, r48_187, r48_189, r48_190, r48_193, r48_196, r48_198, r48_199, r48_202, r48_205, r48_207, r48_208, r48_211, r48_214, r48_215, r48_216, r48_219, r48_220, r48_223, r48_226, r48_227, r48_230, r48_231, r48_232, r48_235, r48_238, r48_239, r48_241, r48_244, r48_247, r48_250, r48_252, r48_253, r48_256, r48_259, r48_260, gt_rq_1, b7, sw48_1, gt_gr_4, e32, pt_gr_4, gt_rq_4, b13, or_true, true_or]
theorem c48_2 {i g : Nat} {va vb : Int32} (h : RJ I P M ρ R W (R + 31) O Q y (-1)) (hi : i < R) (hg : M 18 i = nI g) (hg2 : g < 32) (hd : 6 ≤ d) : stp I P X d N ρ i 2 va vb (u2 M 9 g (M 9 g + M 21 i), 0) := by
  obtain ⟨d, rfl⟩ : ∃ q, d = q + 1 := ⟨d - 1, by omega⟩
  have h30 := h.2.h30
  have hW := h.2.ok.W
  obtain ⟨g1, m, b1, b2, b3, b4, b5, b6, b7, b8, b9, b10, b11, b12, b13, b14, b46, b47⟩ := h.row hi
  have eg : g1 = g := (nI_eq (by omega) (by omega)).mp (b3.symm.trans hg)
  subst eg
  have e32 : I 32 = M 9 := h.1.s 32 (by decide)
  refine ⟨_, P, R, W, ?_, h.1.both (a := 32) (b := 9) rfl (by decide) (by omega) (by omega) (by decide), by simp [u2_ne, h.2.hR], by omega, by simp [u2_ne, h.2.hW], by omega⟩
  rw [e48 rfl]
  simp (disch := first | decide | omega | assumption | (simp (disch := decide) only [u2_ne, u2_same, mQueue]; assumption)) only [kV_some, kI_some, kR_some, kR_any, kH_some, kC_none, kC_some, jv_rsv_ref, jv_rsv_rf, jv_nz_ref, jv_nz_null, jv_nz_rf0, jv_nz_rf1, jv_rq_r1, jv_rq_r0, n10, n11, n00, Nat.reduceEqDiff, Option.bind_some, Option.bind_none, jv_isr_ref, jv_isr_rf, jv_isr_null, va_rf_some, va_rf_none, jv_cat1_int, jv_cat1_ref, jv_cat1_rf, if_true, if_false, eq_self, Option.toList_some, Option.toList_none, List.cons_append, List.nil_append, Bool.and_self, Bool.and_true, i32_10, i32_01, i32_80, nI_div8, nI_mul4, nI_mul8, nI_mul32, nI_add, ↓reduceIte, u2_ne, u2_same, r48_0, r48_1, r48_4, r48_6, r48_80, r48_82, r48_83, r48_86, r48_87, r48_88, r48_91, r48_94, r48_96, r48_97, r48_100, r48_101, r48_104, r48_105, r48_108, r48_111, r48_113, r48_114, r48_117, r48_118, r48_121, r48_122, r48_125, r48_128, r48_129, r48_130, r48_131, r48_134, r48_135, r48_136, r48_138, r48_141, r48_142, r48_143, r48_144, r48_145, r48_148, r48_149, r48_150, r48_152, r48_155, r48_156, r48_157, r48_159, r48_162, r48_165, r48_166, r48_169, r48_171, r48_172, r48_173, r48_176, r48_177, r48_180, r48_183, r48_184, r48_185, r48_186, r48_187, r48_189, r48_190, r48_193, r48_196, r48_198, r48_199, r48_202, r48_205, r48_207, r48_208, r48_211, r48_214, r48_215, r48_216, r48_219, r48_220, r48_223, r48_226, r48_227, r48_230, r48_231, r48_232, r48_235, r48_238, r48_239, r48_241, r48_244, r48_247, r48_250, r48_252, r48_253, r48_256, r48_259, r48_260, gt_rq_1, b7, sw48_2, gt_gr_4, e32, pt_gr_4, gt_rq_6, b12, or_true, true_or]
theorem c48_8 {i g : Nat} {va vb : Int32} (h : RJ I P M ρ R W (R + 31) O Q y (-1)) (hi : i < R) (hg : M 18 i = nI g) (hg2 : g < 32) (hd : 6 ≤ d) : stp I P X d N ρ i 8 va vb (u2 M 10 g va, 0) := by
  obtain ⟨d, rfl⟩ : ∃ q, d = q + 1 := ⟨d - 1, by omega⟩
  have h30 := h.2.h30
  have hW := h.2.ok.W
  obtain ⟨g1, m, b1, b2, b3, b4, b5, b6, b7, b8, b9, b10, b11, b12, b13, b14, b46, b47⟩ := h.row hi
  have eg : g1 = g := (nI_eq (by omega) (by omega)).mp (b3.symm.trans hg)
  subst eg
  have e32 : I 32 = M 9 := h.1.s 32 (by decide)
  refine ⟨_, P, R, W, ?_, h.1.both (a := 33) (b := 10) rfl (by decide) (by omega) (by omega) (by decide), by simp [u2_ne, h.2.hR], by omega, by simp [u2_ne, h.2.hW], by omega⟩
  rw [e48 rfl]
  simp (disch := first | decide | omega | assumption | (simp (disch := decide) only [u2_ne, u2_same, mQueue]; assumption)) only [kV_some, kI_some, kR_some, kR_any, kH_some, kC_none, kC_some, jv_rsv_ref, jv_rsv_rf, jv_nz_ref, jv_nz_null, jv_nz_rf0, jv_nz_rf1, jv_rq_r1, jv_rq_r0, n10, n11, n00, Nat.reduceEqDiff, Option.bind_some, Option.bind_none, jv_isr_ref, jv_isr_rf, jv_isr_null, va_rf_some, va_rf_none, jv_cat1_int, jv_cat1_ref, jv_cat1_rf, if_true, if_false, eq_self, Option.toList_some, Option.toList_none, List.cons_append, List.nil_append, Bool.and_self, Bool.and_true, i32_10, i32_01, i32_80, nI_div8, nI_mul4, nI_mul8, nI_mul32, nI_add, ↓reduceIte, u2_ne, u2_same, r48_0, r48_1, r48_4, r48_6, r48_80, r48_82, r48_83, r48_86, r48_87, r48_88, r48_91, r48_94, r48_96, r48_97, r48_100, r48_101, r48_104, r48_105, r48_108, r48_111, r48_113, r48_114, r48_117, r48_118, r48_121, r48_122, r48_125, r48_128, r48_129, r48_130, r48_131, r48_134, r48_135, r48_136, r48_138, r48_141, r48_142, r48_143, r48_144, r48_145, r48_148, r48_149, r48_150, r48_152, r48_155, r48_156, r48_157, r48_159, r48_162, r48_165, r48_166, r48_169, r48_171, r48_172, r48_173, r48_176, r48_177, r48_180, r48_183, r48_184, r48_185, r48_186, r48_187, r48_189, r48_190, r48_193, r48_196, r48_198, r48_199, r48_202, r48_205, r48_207, r48_208, r48_211, r48_214, r48_215, r48_216, r48_219, r48_220, r48_223, r48_226, r48_227, r48_230, r48_231, r48_232, r48_235, r48_238, r48_239, r48_241, r48_244, r48_247, r48_250, r48_252, r48_253, r48_256, r48_259, r48_260, gt_rq_1, b7, sw48_8, pt_gr_5, or_true, true_or]
theorem c48_10 {i g : Nat} {va vb : Int32} (h : RJ I P M ρ R W (R + 31) O Q y (-1)) (hi : i < R) (hg : M 18 i = nI g) (hg2 : g < 32) (hd : 6 ≤ d) : stp I P X d N ρ i 10 va vb (u2 M 16 g 1, 0) := by
  obtain ⟨d, rfl⟩ : ∃ q, d = q + 1 := ⟨d - 1, by omega⟩
  have h30 := h.2.h30
  have hW := h.2.ok.W
  obtain ⟨g1, m, b1, b2, b3, b4, b5, b6, b7, b8, b9, b10, b11, b12, b13, b14, b46, b47⟩ := h.row hi
  have eg : g1 = g := (nI_eq (by omega) (by omega)).mp (b3.symm.trans hg)
  subst eg
  have e32 : I 32 = M 9 := h.1.s 32 (by decide)
  refine ⟨_, P, R, W, ?_, h.1.both (a := 31) (b := 16) rfl (by decide) (by omega) (by omega) (by decide), by simp [u2_ne, h.2.hR], by omega, by simp [u2_ne, h.2.hW], by omega⟩
  rw [e48 rfl]
  simp (disch := first | decide | omega | assumption | (simp (disch := decide) only [u2_ne, u2_same, mQueue]; assumption)) only [kV_some, kI_some, kR_some, kR_any, kH_some, kC_none, kC_some, jv_rsv_ref, jv_rsv_rf, jv_nz_ref, jv_nz_null, jv_nz_rf0, jv_nz_rf1, jv_rq_r1, jv_rq_r0, n10, n11, n00, Nat.reduceEqDiff, Option.bind_some, Option.bind_none, jv_isr_ref, jv_isr_rf, jv_isr_null, va_rf_some, va_rf_none, jv_cat1_int, jv_cat1_ref, jv_cat1_rf, if_true, if_false, eq_self, Option.toList_some, Option.toList_none, List.cons_append, List.nil_append, Bool.and_self, Bool.and_true, i32_10, i32_01, i32_80, nI_div8, nI_mul4, nI_mul8, nI_mul32, nI_add, ↓reduceIte, u2_ne, u2_same, r48_0, r48_1, r48_4, r48_6, r48_80, r48_82, r48_83, r48_86, r48_87, r48_88, r48_91, r48_94, r48_96, r48_97, r48_100, r48_101, r48_104, r48_105, r48_108, r48_111, r48_113, r48_114, r48_117, r48_118, r48_121, r48_122, r48_125, r48_128, r48_129, r48_130, r48_131, r48_134, r48_135, r48_136, r48_138, r48_141, r48_142, r48_143, r48_144, r48_145, r48_148, r48_149, r48_150, r48_152, r48_155, r48_156, r48_157, r48_159, r48_162, r48_165, r48_166, r48_169, r48_171, r48_172, r48_173, r48_176, r48_177, r48_180, r48_183, r48_184, r48_185, r48_186, r48_187, r48_189, r48_190, r48_193, r48_196, r48_198, r48_199, r48_202, r48_205, r48_207, r48_208, r48_211, r48_214, r48_215, r48_216, r48_219, r48_220, r48_223, r48_226, r48_227, r48_230, r48_231, r48_232, r48_235, r48_238, r48_239, r48_241, r48_244, r48_247, r48_250, r48_252, r48_253, r48_256, r48_259, r48_260, gt_rq_1, b7, sw48_10, pt_gr_3, or_true, true_or]
theorem c48_14 {i g : Nat} {va vb : Int32} (h : RJ I P M ρ R W (R + 31) O Q y (-1)) (hi : i < R) (hg : M 18 i = nI g) (hg2 : g < 32) (hd : 6 ≤ d) : stp I P X d N ρ i 14 va vb (u2 M 9 g va, 0) := by
  obtain ⟨d, rfl⟩ : ∃ q, d = q + 1 := ⟨d - 1, by omega⟩
  have h30 := h.2.h30
  have hW := h.2.ok.W
  obtain ⟨g1, m, b1, b2, b3, b4, b5, b6, b7, b8, b9, b10, b11, b12, b13, b14, b46, b47⟩ := h.row hi
  have eg : g1 = g := (nI_eq (by omega) (by omega)).mp (b3.symm.trans hg)
  subst eg
  have e32 : I 32 = M 9 := h.1.s 32 (by decide)
  refine ⟨_, P, R, W, ?_, h.1.both (a := 32) (b := 9) rfl (by decide) (by omega) (by omega) (by decide), by simp [u2_ne, h.2.hR], by omega, by simp [u2_ne, h.2.hW], by omega⟩
  rw [e48 rfl]
  simp (disch := first | decide | omega | assumption | (simp (disch := decide) only [u2_ne, u2_same, mQueue]; assumption)) only [kV_some, kI_some, kR_some, kR_any, kH_some, kC_none, kC_some, jv_rsv_ref, jv_rsv_rf, jv_nz_ref, jv_nz_null, jv_nz_rf0, jv_nz_rf1, jv_rq_r1, jv_rq_r0, n10, n11, n00, Nat.reduceEqDiff, Option.bind_some, Option.bind_none, jv_isr_ref, jv_isr_rf, jv_isr_null, va_rf_some, va_rf_none, jv_cat1_int, jv_cat1_ref, jv_cat1_rf, if_true, if_false, eq_self, Option.toList_some, Option.toList_none, List.cons_append, List.nil_append, Bool.and_self, Bool.and_true, i32_10, i32_01, i32_80, nI_div8, nI_mul4, nI_mul8, nI_mul32, nI_add, ↓reduceIte, u2_ne, u2_same, r48_0, r48_1, r48_4, r48_6, r48_80, r48_82, r48_83, r48_86, r48_87, r48_88, r48_91, r48_94, r48_96, r48_97, r48_100, r48_101, r48_104, r48_105, r48_108, r48_111, r48_113, r48_114, r48_117, r48_118, r48_121, r48_122, r48_125, r48_128, r48_129, r48_130, r48_131, r48_134, r48_135, r48_136, r48_138, r48_141, r48_142, r48_143, r48_144, r48_145, r48_148, r48_149, r48_150, r48_152, r48_155, r48_156, r48_157, r48_159, r48_162, r48_165, r48_166, r48_169, r48_171, r48_172, r48_173, r48_176, r48_177, r48_180, r48_183, r48_184, r48_185, r48_186, r48_187, r48_189, r48_190, r48_193, r48_196, r48_198, r48_199, r48_202, r48_205, r48_207, r48_208, r48_211, r48_214, r48_215, r48_216, r48_219, r48_220, r48_223, r48_226, r48_227, r48_230, r48_231, r48_232, r48_235, r48_238, r48_239, r48_241, r48_244, r48_247, r48_250, r48_252, r48_253, r48_256, r48_259, r48_260, gt_rq_1, b7, sw48_14, pt_gr_4, or_true, true_or]
theorem c48_9 {i g : Nat} {va vb : Int32} (h : RJ I P M ρ R W (R + 31) O Q y (-1)) (hi : i < R) (hg : M 18 i = nI g) (hg2 : g < 32) (hd : 6 ≤ d) : stp I P X d N ρ i 9 va vb (u2 (u2 M 15 g va) 14 g va, 0) := by
  obtain ⟨d, rfl⟩ : ∃ q, d = q + 1 := ⟨d - 1, by omega⟩
  have h30 := h.2.h30
  have hW := h.2.ok.W
  obtain ⟨g1, m, b1, b2, b3, b4, b5, b6, b7, b8, b9, b10, b11, b12, b13, b14, b46, b47⟩ := h.row hi
  have eg : g1 = g := (nI_eq (by omega) (by omega)).mp (b3.symm.trans hg)
  subst eg
  have e32 : I 32 = M 9 := h.1.s 32 (by decide)
  refine ⟨_, P, R, W, ?_, (h.1.both (a := 35) (b := 15) rfl (by decide) (by omega) (by omega) (by decide)).both (a := 36) (b := 14) rfl (by decide) (by omega) (by omega) (by decide), by simp [u2_ne, h.2.hR], by omega, by simp [u2_ne, h.2.hW], by omega⟩
  rw [e48 rfl]
  simp (disch := first | decide | omega | assumption | (simp (disch := decide) only [u2_ne, u2_same, mQueue]; assumption)) only [kV_some, kI_some, kR_some, kR_any, kH_some, kC_none, kC_some, jv_rsv_ref, jv_rsv_rf, jv_nz_ref, jv_nz_null, jv_nz_rf0, jv_nz_rf1, jv_rq_r1, jv_rq_r0, n10, n11, n00, Nat.reduceEqDiff, Option.bind_some, Option.bind_none, jv_isr_ref, jv_isr_rf, jv_isr_null, va_rf_some, va_rf_none, jv_cat1_int, jv_cat1_ref, jv_cat1_rf, if_true, if_false, eq_self, Option.toList_some, Option.toList_none, List.cons_append, List.nil_append, Bool.and_self, Bool.and_true, i32_10, i32_01, i32_80, nI_div8, nI_mul4, nI_mul8, nI_mul32, nI_add, ↓reduceIte, u2_ne, u2_same, r48_0, r48_1, r48_4, r48_6, r48_80, r48_82, r48_83, r48_86, r48_87, r48_88, r48_91, r48_94, r48_96, r48_97, r48_100, r48_101, r48_104, r48_105, r48_108, r48_111, r48_113, r48_114, r48_117, r48_118, r48_121, r48_122, r48_125, r48_128, r48_129, r48_130, r48_131, r48_134, r48_135, r48_136, r48_138, r48_141, r48_142, r48_143, r48_144, r48_145, r48_148, r48_149, r48_150, r48_152, r48_155, r48_156, r48_157, r48_159, r48_162, r48_165, r48_166, r48_169, r48_171, r48_172, r48_173, r48_176, r48_177, r48_180, r48_183, r48_184, r48_185, r48_186, r48_187, r48_189, r48_190, r48_193, r48_196, r48_198, r48_199, r48_202, r48_205, r48_207, r48_208, r48_211, r48_214, r48_215, r48_216, r48_219, r48_220, r48_223, r48_226, r48_227, r48_230, r48_231, r48_232, r48_235, r48_238, r48_239, r48_241, r48_244, r48_247, r48_250, r48_252, r48_253, r48_256, r48_259, r48_260, gt_rq_1, b7, sw48_9, ic_gr, c52, or_true, true_or]
theorem c48_11 {i g : Nat} {va vb : Int32} (h : RJ I P M ρ R W (R + 31) O Q y (-1)) (hi : i < R) (hg : M 18 i = nI g) (hg2 : g < 32) (hd : 6 ≤ d) : stp I P X d N ρ i 11 va vb (M, 0) := by
  obtain ⟨d, rfl⟩ : ∃ q, d = q + 1 := ⟨d - 1, by omega⟩
  have h30 := h.2.h30
  have hW := h.2.ok.W
  obtain ⟨g1, m, b1, b2, b3, b4, b5, b6, b7, b8, b9, b10, b11, b12, b13, b14, b46, b47⟩ := h.row hi
  have eg : g1 = g := (nI_eq (by omega) (by omega)).mp (b3.symm.trans hg)
  subst eg
  have e32 : I 32 = M 9 := h.1.s 32 (by decide)
  refine ⟨_, P, R, W, ?_, h.1, by simp [u2_ne, h.2.hR], by omega, by simp [u2_ne, h.2.hW], by omega⟩
  rw [e48 rfl]
  simp (disch := first | decide | omega | assumption | (simp (disch := decide) only [u2_ne, u2_same, mQueue]; assumption)) only [kV_some, kI_some, kR_some, kR_any, kH_some, kC_none, kC_some, jv_rsv_ref, jv_rsv_rf, jv_nz_ref, jv_nz_null, jv_nz_rf0, jv_nz_rf1, jv_rq_r1, jv_rq_r0, n10, n11, n00, Nat.reduceEqDiff, Option.bind_some, Option.bind_none, jv_isr_ref, jv_isr_rf, jv_isr_null, va_rf_some, va_rf_none, jv_cat1_int, jv_cat1_ref, jv_cat1_rf, if_true, if_false, eq_self, Option.toList_some, Option.toList_none, List.cons_append, List.nil_append, Bool.and_self, Bool.and_true, i32_10, i32_01, i32_80, nI_div8, nI_mul4, nI_mul8, nI_mul32, nI_add, ↓reduceIte, u2_ne, u2_same, r48_0, r48_1, r48_4, r48_6, r48_80, r48_82, r48_83, r48_86, r48_87, r48_88, r48_91, r48_94, r48_96, r48_97, r48_100, r48_101, r48_104, r48_105, r48_108, r48_111, r48_113, r48_114, r48_117, r48_118, r48_121, r48_122, r48_125, r48_128, r48_129, r48_130, r48_131, r48_134, r48_135, r48_136, r48_138, r48_141, r48_142, r48_143, r48_144, r48_145, r48_148, r48_149, r48_150, r48_152, r48_155, r48_156, r48_157, r48_159, r48_162, r48_165, r48_166, r48_169, r48_171, r48_172, r48_173, r48_176, r48_177, r48_180, r48_183, r48_184, r48_185, r48_186, r48_187, r48_189, r48_190, r48_193, r48_196, r48_198, r48_199, r48_202, r48_205, r48_207, r48_208, r48_211, r48_214, r48_215, r48_216, r48_219, r48_220, r48_223, r48_226, r48_227, r48_230, r48_231, r48_232, r48_235, r48_238, r48_239, r48_241, r48_244, r48_247, r48_250, r48_252, r48_253, r48_256, r48_259, r48_260, gt_rq_1, b7, sw48_11, b7, or_true, true_or]
theorem c48_7 {i g : Nat} {va vb : Int32} (h : RJ I P M ρ R W (R + 31) O Q y (-1)) (hi : i < R) (hg : M 18 i = nI g) (hg2 : g < 32) (hd : 6 ≤ d) : stp I P X d N ρ i 7 va vb (M, va) := by
  obtain ⟨d, rfl⟩ : ∃ q, d = q + 1 := ⟨d - 1, by omega⟩
  have h30 := h.2.h30
  have hW := h.2.ok.W
  obtain ⟨g1, m, b1, b2, b3, b4, b5, b6, b7, b8, b9, b10, b11, b12, b13, b14, b46, b47⟩ := h.row hi
  have eg : g1 = g := (nI_eq (by omega) (by omega)).mp (b3.symm.trans hg)
  subst eg
  have e32 : I 32 = M 9 := h.1.s 32 (by decide)
  refine ⟨_, P, R, W, ?_, h.1, by simp [u2_ne, h.2.hR], by omega, by simp [u2_ne, h.2.hW], by omega⟩
  rw [e48 rfl]
  simp (disch := first | decide | omega | assumption | (simp (disch := decide) only [u2_ne, u2_same, mQueue]; assumption)) only [kV_some, kI_some, kR_some, kR_any, kH_some, kC_none, kC_some, jv_rsv_ref, jv_rsv_rf, jv_nz_ref, jv_nz_null, jv_nz_rf0, jv_nz_rf1, jv_rq_r1, jv_rq_r0, n10, n11, n00, Nat.reduceEqDiff, Option.bind_some, Option.bind_none, jv_isr_ref, jv_isr_rf, jv_isr_null, va_rf_some, va_rf_none, jv_cat1_int, jv_cat1_ref, jv_cat1_rf, if_true, if_false, eq_self, Option.toList_some, Option.toList_none, List.cons_append, List.nil_append, Bool.and_self, Bool.and_true, i32_10, i32_01, i32_80, nI_div8, nI_mul4, nI_mul8, nI_mul32, nI_add, ↓reduceIte, u2_ne, u2_same, r48_0, r48_1, r48_4, r48_6, r48_80, r48_82, r48_83, r48_86, r48_87, r48_88, r48_91, r48_94, r48_96, r48_97, r48_100, r48_101, r48_104, r48_105, r48_108, r48_111, r48_113, r48_114, r48_117, r48_118, r48_121, r48_122, r48_125, r48_128, r48_129, r48_130, r48_131, r48_134, r48_135, r48_136, r48_138, r48_141, r48_142, r48_143, r48_144, r48_145, r48_148, r48_149, r48_150, r48_152, r48_155, r48_156, r48_157, r48_159, r48_162, r48_165, r48_166, r48_169, r48_171, r48_172, r48_173, r48_176, r48_177, r48_180, r48_183, r48_184, r48_185, r48_186, r48_187, r48_189, r48_190, r48_193, r48_196, r48_198, r48_199, r48_202, r48_205, r48_207, r48_208, r48_211, r48_214, r48_215, r48_216, r48_219, r48_220, r48_223, r48_226, r48_227, r48_230, r48_231, r48_232, r48_235, r48_238, r48_239, r48_241, r48_244, r48_247, r48_250, r48_252, r48_253, r48_256, r48_259, r48_260, gt_rq_1, b7, sw48_7, b7, or_true, true_or]
theorem c48_13 {i g : Nat} {va vb : Int32} (h : RJ I P M ρ R W (R + 31) O Q y (-1)) (hi : i < R) (hg : M 18 i = nI g) (hg2 : g < 32) (hd : 6 ≤ d) : stp I P X d N ρ i 13 va vb (u2 M 21 i (M 9 g), 0) := by
  obtain ⟨d, rfl⟩ : ∃ q, d = q + 1 := ⟨d - 1, by omega⟩
  have h30 := h.2.h30
  have hW := h.2.ok.W
  obtain ⟨g1, m, b1, b2, b3, b4, b5, b6, b7, b8, b9, b10, b11, b12, b13, b14, b46, b47⟩ := h.row hi
  have eg : g1 = g := (nI_eq (by omega) (by omega)).mp (b3.symm.trans hg)
  subst eg
  have e32 : I 32 = M 9 := h.1.s 32 (by decide)
  refine ⟨_, P, R, W, ?_, h.1.row (a := 44) (b := 21) h30 hi (by omega) rfl, by simp [u2_ne, h.2.hR], by omega, by simp [u2_ne, h.2.hW], by omega⟩
  rw [e48 rfl]
  simp (disch := first | decide | omega | assumption | (simp (disch := decide) only [u2_ne, u2_same, mQueue]; assumption)) only [kV_some, kI_some, kR_some, kR_any, kH_some, kC_none, kC_some, jv_rsv_ref, jv_rsv_rf, jv_nz_ref, jv_nz_null, jv_nz_rf0, jv_nz_rf1, jv_rq_r1, jv_rq_r0, n10, n11, n00, Nat.reduceEqDiff, Option.bind_some, Option.bind_none, jv_isr_ref, jv_isr_rf, jv_isr_null, va_rf_some, va_rf_none, jv_cat1_int, jv_cat1_ref, jv_cat1_rf, if_true, if_false, eq_self, Option.toList_some, Option.toList_none, List.cons_append, List.nil_append, Bool.and_self, Bool.and_true, i32_10, i32_01, i32_80, nI_div8, nI_mul4, nI_mul8, nI_mul32, nI_add, ↓reduceIte, u2_ne, u2_same, r48_0, r48_1, r48_4, r48_6, r48_80, r48_82, r48_83, r48_86, r48_87, r48_88, r48_91, r48_94, r48_96, r48_97, r48_100, r48_101, r48_104, r48_105, r48_108, r48_111, r48_113, r48_114, r48_117, r48_118, r48_121, r48_122, r48_125, r48_128, r48_129, r48_130, r48_131, r48_134, r48_135, r48_136, r48_138, r48_141, r48_142, r48_143, r48_144, r48_145, r48_148, r48_149, r48_150, r48_152, r48_155, r48_156, r48_157, r48_159, r48_162, r48_165, r48_166, r48_169, r48_171, r48_172, r48_173, r48_176, r48_177, r48_180, r48_183, r48_184, r48_185, r48_186, r48_187, r48_189, r48_190, r48_193, r48_196, r48_198, r48_199, r48_202, r48_205, r48_207, r48_208, r48_211, r48_214, r48_215, r48_216, r48_219, r48_220, r48_223, r48_226, r48_227, r48_230, r48_231, r48_232, r48_235, r48_238, r48_239, r48_241, r48_244, r48_247, r48_250, r48_252, r48_253, r48_256, r48_259, r48_260, gt_rq_1, b7, sw48_13, gt_gr_4, e32, pt_rq_6, or_true, true_or]
theorem c48_12 {i g : Nat} {va vb : Int32} (h : RJ I P M ρ R W (R + 31) O Q y (-1)) (hi : i < R) (hg : M 18 i = nI g) (hg2 : g < 32) (hd : 6 ≤ d) : stp I P X d N ρ i 12 va vb (if M 21 i < 0 then u2 M 22 i (M 22 i + va) else M, 0) := by
  obtain ⟨d, rfl⟩ : ∃ q, d = q + 1 := ⟨d - 1, by omega⟩
  have h30 := h.2.h30
  have hW := h.2.ok.W
  obtain ⟨g1, m, b1, b2, b3, b4, b5, b6, b7, b8, b9, b10, b11, b12, b13, b14, b46, b47⟩ := h.row hi
  have eg : g1 = g := (nI_eq (by omega) (by omega)).mp (b3.symm.trans hg)
  subst eg
  have e32 : I 32 = M 9 := h.1.s 32 (by decide)
  by_cases hz : M 21 i < 0
  · have hz' : ¬ 0 ≤ M 21 i := Int32.not_le.mpr hz
    rw [if_pos hz]
    refine ⟨_, P, R, W, ?_, h.1.row (a := 45) (b := 22) h30 hi (by omega) rfl, by simp [u2_ne, h.2.hR], by omega, by simp [u2_ne, h.2.hW], by omega⟩
    rw [e48 rfl]
    simp (disch := first | decide | omega | assumption | (simp (disch := decide) only [u2_ne, u2_same, mQueue]; assumption)) only [kV_some, kI_some, kR_some, kR_any, kH_some, kC_none, kC_some, jv_rsv_ref, jv_rsv_rf, jv_nz_ref, jv_nz_null, jv_nz_rf0, jv_nz_rf1, jv_rq_r1, jv_rq_r0, n10, n11, n00, Nat.reduceEqDiff, Option.bind_some, Option.bind_none, jv_isr_ref, jv_isr_rf, jv_isr_null, va_rf_some, va_rf_none, jv_cat1_int, jv_cat1_ref, jv_cat1_rf, if_true, if_false, eq_self, Option.toList_some, Option.toList_none, List.cons_append, List.nil_append, Bool.and_self, Bool.and_true, i32_10, i32_01, i32_80, nI_div8, nI_mul4, nI_mul8, nI_mul32, nI_add, ↓reduceIte, u2_ne, u2_same, r48_0, r48_1, r48_4, r48_6, r48_80, r48_82, r48_83, r48_86, r48_87, r48_88, r48_91, r48_94, r48_96, r48_97, r48_100, r48_101, r48_104, r48_105, r48_108, r48_111, r48_113, r48_114, r48_117, r48_118, r48_121, r48_122, r48_125, r48_128, r48_129, r48_130, r48_131, r48_134, r48_135, r48_136, r48_138, r48_141, r48_142, r48_143, r48_144, r48_145, r48_148, r48_149, r48_150, r48_152, r48_155, r48_156, r48_157, r48_159, r48_162, r48_165, r48_166, r48_169, r48_171, r48_172, r48_173, r48_176, r48_177, r48_180, r48_183, r48_184, r48_185, r48_186, r48_187, r48_189, r48_190, r48_193, r48_196, r48_198, r48_199, r48_202, r48_205, r48_207, r48_208, r48_211, r48_214, r48_215, r48_216, r48_219, r48_220, r48_223, r48_226, r48_227, r48_230, r48_231, r48_232, r48_235, r48_238, r48_239, r48_241, r48_244, r48_247, r48_250, r48_252, r48_253, r48_256, r48_259, r48_260, gt_rq_1, b7, sw48_12, gt_rq_7, b11, gt_rq_6, b12, hz, hz', pt_rq_7]
  · have hz' : 0 ≤ M 21 i := Int32.not_lt.mp hz
    rw [if_neg hz]
    have hid := u2_id (P := I) (f := 45) (k := ρ i) (v := M 22 i) b11
    refine ⟨I, P, R, W, ?_, h.1, h.2.hR, by omega, h.2.hW, by omega⟩
    rw [e48 rfl]
    simp (disch := first | decide | omega | assumption | (simp (disch := decide) only [u2_ne, u2_same, mQueue]; assumption)) only [kV_some, kI_some, kR_some, kR_any, kH_some, kC_none, kC_some, jv_rsv_ref, jv_rsv_rf, jv_nz_ref, jv_nz_null, jv_nz_rf0, jv_nz_rf1, jv_rq_r1, jv_rq_r0, n10, n11, n00, Nat.reduceEqDiff, Option.bind_some, Option.bind_none, jv_isr_ref, jv_isr_rf, jv_isr_null, va_rf_some, va_rf_none, jv_cat1_int, jv_cat1_ref, jv_cat1_rf, if_true, if_false, eq_self, Option.toList_some, Option.toList_none, List.cons_append, List.nil_append, Bool.and_self, Bool.and_true, i32_10, i32_01, i32_80, nI_div8, nI_mul4, nI_mul8, nI_mul32, nI_add, ↓reduceIte, u2_ne, u2_same, r48_0, r48_1, r48_4, r48_6, r48_80, r48_82, r48_83, r48_86, r48_87, r48_88, r48_91, r48_94, r48_96, r48_97, r48_100, r48_101, r48_104, r48_105, r48_108, r48_111, r48_113, r48_114, r48_117, r48_118, r48_121, r48_122, r48_125, r48_128, r48_129, r48_130, r48_131, r48_134, r48_135, r48_136, r48_138, r48_141, r48_142, r48_143, r48_144, r48_145, r48_148, r48_149, r48_150, r48_152, r48_155, r48_156, r48_157, r48_159, r48_162, r48_165, r48_166, r48_169, r48_171, r48_172, r48_173, r48_176, r48_177, r48_180, r48_183, r48_184, r48_185, r48_186, r48_187, r48_189, r48_190, r48_193, r48_196, r48_198, r48_199, r48_202, r48_205, r48_207, r48_208, r48_211, r48_214, r48_215, r48_216, r48_219, r48_220, r48_223, r48_226, r48_227, r48_230, r48_231, r48_232, r48_235, r48_238, r48_239, r48_241, r48_244, r48_247, r48_250, r48_252, r48_253, r48_256, r48_259, r48_260, gt_rq_1, b7, sw48_12, gt_rq_7, b11, gt_rq_6, b12, hz, hz', pt_rq_7, Int32.add_zero, hid]
theorem c48_5 {i g : Nat} {va vb : Int32} (h : RJ I P M ρ R W (R + 31) O Q y (-1)) (hi : i < R) (hg : M 18 i = nI g) (hg2 : g < 32) (hd : 6 ≤ d) : stp I P X d N ρ i 5 va vb (if M 42 0 = 0 then (mSave M g, 0) else (mWorked M, 101)) := by
  obtain ⟨d, rfl⟩ : ∃ q, d = q + 1 := ⟨d - 1, by omega⟩
  have h30 := h.2.h30
  have hW := h.2.ok.W
  obtain ⟨g1, m, b1, b2, b3, b4, b5, b6, b7, b8, b9, b10, b11, b12, b13, b14, b46, b47⟩ := h.row hi
  have eg : g1 = g := (nI_eq (by omega) (by omega)).mp (b3.symm.trans hg)
  subst eg
  have e32 : I 32 = M 9 := h.1.s 32 (by decide)
  have e5 : I 5 = M 42 := h.1.s 5 (by decide)
  have hst := c44 (X := X) (d := d) (I := I) (P := P) (N := N) hg2 (by omega)
  rw [e5] at hst
  by_cases hz : M 42 0 = 0
  · rw [if_pos hz, if_pos hz] at hst
    rw [if_pos hz]
    refine ⟨cSv I g1, P, R, W, ?_, h.1.upS h.1.s.saved (fun a ha => cSv_at (by omega) (by omega)) (fun b hb => mSave_at (by omega)) (congrFun (mSave_at (M := M) (g := g1) (f := 37) (by decide)) 0), (congrFun (mSave_at (g := g1) (by decide)) 0).trans h.2.hR, by omega, (congrFun (mSave_at (g := g1) (by decide)) 0).trans h.2.hW, by omega⟩
    rw [e48 rfl]
    simp (disch := first | decide | omega | assumption | (simp (disch := decide) only [u2_ne, u2_same, mQueue]; assumption)) only [kV_some, kI_some, kR_some, kR_any, kH_some, kC_none, kC_some, jv_rsv_ref, jv_rsv_rf, jv_nz_ref, jv_nz_null, jv_nz_rf0, jv_nz_rf1, jv_rq_r1, jv_rq_r0, n10, n11, n00, Nat.reduceEqDiff, Option.bind_some, Option.bind_none, jv_isr_ref, jv_isr_rf, jv_isr_null, va_rf_some, va_rf_none, jv_cat1_int, jv_cat1_ref, jv_cat1_rf, if_true, if_false, eq_self, Option.toList_some, Option.toList_none, List.cons_append, List.nil_append, Bool.and_self, Bool.and_true, i32_10, i32_01, i32_80, nI_div8, nI_mul4, nI_mul8, nI_mul32, nI_add, ↓reduceIte, u2_ne, u2_same, r48_0, r48_1, r48_4, r48_6, r48_80, r48_82, r48_83, r48_86, r48_87, r48_88, r48_91, r48_94, r48_96, r48_97, r48_100, r48_101, r48_104, r48_105, r48_108, r48_111, r48_113, r48_114, r48_117, r48_118, r48_121, r48_122, r48_125, r48_128, r48_129, r48_130, r48_131, r48_134, r48_135, r48_136, r48_138, r48_141, r48_142, r48_143, r48_144, r48_145, r48_148, r48_149, r48_150, r48_152, r48_155, r48_156, r48_157, r48_159, r48_162, r48_165, r48_166, r48_169, r48_171, r48_172, r48_173, r48_176, r48_177, r48_180, r48_183, r48_184, r48_185, r48_186, r48_187, r48_189, r48_190, r48_193, r48_196, r48_198, r48_199, r48_202, r48_205, r48_207, r48_208, r48_211, r48_214, r48_215, r48_216, r48_219, r48_220, r48_223, r48_226, r48_227, r48_230, r48_231, r48_232, r48_235, r48_238, r48_239, r48_241, r48_244, r48_247, r48_250, r48_252, r48_253, r48_256, r48_259, r48_260, gt_rq_1, b7, sw48_5, ic_1, hst]
  · rw [if_neg hz, if_neg hz] at hst
    rw [if_neg hz]
    refine ⟨cWk I, P, R, W, ?_, h.1.worked, (congrFun (mWorked_at (by decide)) 0).trans h.2.hR, by omega, (congrFun (mWorked_at (by decide)) 0).trans h.2.hW, by omega⟩
    rw [e48 rfl]
    simp (disch := first | decide | omega | assumption | (simp (disch := decide) only [u2_ne, u2_same, mQueue]; assumption)) only [kV_some, kI_some, kR_some, kR_any, kH_some, kC_none, kC_some, jv_rsv_ref, jv_rsv_rf, jv_nz_ref, jv_nz_null, jv_nz_rf0, jv_nz_rf1, jv_rq_r1, jv_rq_r0, n10, n11, n00, Nat.reduceEqDiff, Option.bind_some, Option.bind_none, jv_isr_ref, jv_isr_rf, jv_isr_null, va_rf_some, va_rf_none, jv_cat1_int, jv_cat1_ref, jv_cat1_rf, if_true, if_false, eq_self, Option.toList_some, Option.toList_none, List.cons_append, List.nil_append, Bool.and_self, Bool.and_true, i32_10, i32_01, i32_80, nI_div8, nI_mul4, nI_mul8, nI_mul32, nI_add, ↓reduceIte, u2_ne, u2_same, r48_0, r48_1, r48_4, r48_6, r48_80, r48_82, r48_83, r48_86, r48_87, r48_88, r48_91, r48_94, r48_96, r48_97, r48_100, r48_101, r48_104, r48_105, r48_108, r48_111, r48_113, r48_114, r48_117, r48_118, r48_121, r48_122, r48_125, r48_128, r48_129, r48_130, r48_131, r48_134, r48_135, r48_136, r48_138, r48_141, r48_142, r48_143, r48_144, r48_145, r48_148, r48_149, r48_150, r48_152, r48_155, r48_156, r48_157, r48_159, r48_162, r48_165, r48_166, r48_169, r48_171, r48_172, r48_173, r48_176, r48_177, r48_180, r48_183, r48_184, r48_185, r48_186, r48_187, r48_189, r48_190, r48_193, r48_196, r48_198, r48_199, r48_202, r48_205, r48_207, r48_208, r48_211, r48_214, r48_215, r48_216, r48_219, r48_220, r48_223, r48_226, r48_227, r48_230, r48_231, r48_232, r48_235, r48_238, r48_239, r48_241, r48_244, r48_247, r48_250, r48_252, r48_253, r48_256, r48_259, r48_260, gt_rq_1, b7, sw48_5, ic_1, hst]
theorem c48_6 {i g : Nat} {va vb : Int32} (h : RJ I P M ρ R W (R + 31) O Q y (-1)) (hi : i < R) (hg : M 18 i = nI g) (hg2 : g < 32) (hd : 6 ≤ d) : stp I P X d N ρ i 6 va vb (mQueue M (M 17 i), -1) := by
  obtain ⟨d, rfl⟩ : ∃ q, d = q + 1 := ⟨d - 1, by omega⟩
  have h30 := h.2.h30
  have hW := h.2.ok.W
  obtain ⟨g1, m, b1, b2, b3, b4, b5, b6, b7, b8, b9, b10, b11, b12, b13, b14, b46, b47⟩ := h.row hi
  have eg : g1 = g := (nI_eq (by omega) (by omega)).mp (b3.symm.trans hg)
  subst eg
  have e32 : I 32 = M 9 := h.1.s 32 (by decide)
  have hK := h.2.ok.2.2.2.2.2.2.1
  obtain ⟨I2, q1, q2⟩ := h.1.queue h.2.hW (by omega) (M 17 i)
  have q1' := q1 X d N (by omega)
  refine ⟨I2, P, R, W + 1, ?_, q2, by show mQueue M (M 17 i) 28 0 = _; unfold mQueue; rw [u2_ne (by decide), u2_ne (by decide)]; exact h.2.hR, by omega, by show mQueue M (M 17 i) 31 0 = _; unfold mQueue; rw [u2_same, h.2.hW, nI_1], by omega⟩
  rw [e48 rfl]
  simp (disch := first | decide | omega | assumption | (simp (disch := decide) only [u2_ne, u2_same, mQueue]; assumption)) only [kV_some, kI_some, kR_some, kR_any, kH_some, kC_none, kC_some, jv_rsv_ref, jv_rsv_rf, jv_nz_ref, jv_nz_null, jv_nz_rf0, jv_nz_rf1, jv_rq_r1, jv_rq_r0, n10, n11, n00, Nat.reduceEqDiff, Option.bind_some, Option.bind_none, jv_isr_ref, jv_isr_rf, jv_isr_null, va_rf_some, va_rf_none, jv_cat1_int, jv_cat1_ref, jv_cat1_rf, if_true, if_false, eq_self, Option.toList_some, Option.toList_none, List.cons_append, List.nil_append, Bool.and_self, Bool.and_true, i32_10, i32_01, i32_80, nI_div8, nI_mul4, nI_mul8, nI_mul32, nI_add, ↓reduceIte, u2_ne, u2_same, r48_0, r48_1, r48_4, r48_6, r48_80, r48_82, r48_83, r48_86, r48_87, r48_88, r48_91, r48_94, r48_96, r48_97, r48_100, r48_101, r48_104, r48_105, r48_108, r48_111, r48_113, r48_114, r48_117, r48_118, r48_121, r48_122, r48_125, r48_128, r48_129, r48_130, r48_131, r48_134, r48_135, r48_136, r48_138, r48_141, r48_142, r48_143, r48_144, r48_145, r48_148, r48_149, r48_150, r48_152, r48_155, r48_156, r48_157, r48_159, r48_162, r48_165, r48_166, r48_169, r48_171, r48_172, r48_173, r48_176, r48_177, r48_180, r48_183, r48_184, r48_185, r48_186, r48_187, r48_189, r48_190, r48_193, r48_196, r48_198, r48_199, r48_202, r48_205, r48_207, r48_208, r48_211, r48_214, r48_215, r48_216, r48_219, r48_220, r48_223, r48_226, r48_227, r48_230, r48_231, r48_232, r48_235, r48_238, r48_239, r48_241, r48_244, r48_247, r48_250, r48_252, r48_253, r48_256, r48_259, r48_260, gt_rq_1, b7, sw48_6, gt_1_4, gt_rq_0, b9, ic_37, q1']
theorem c48_3 {i g b c : Nat} (h : RJ I P M ρ R W (R + 31) O Q y (-1)) (hi : i < R) (hg : M 18 i = nI g) (hg2 : g < 32) (hy : y = M 17 i) (h23 : M 23 i = 1) (hb : b < 32) (hc : c < 4) (hR : R < 30) (hQ : Q + 1 < 2 ^ 30) (hd : 6 ≤ d) : stp I P X d N ρ i 3 (nI b) (nI c) (mInvoke M R i g b c, -1) := by
  obtain ⟨d, rfl⟩ : ∃ q, d = q + 1 := ⟨d - 1, by omega⟩
  have h30 := h.2.h30
  obtain ⟨g1, m, b1, b2, b3, b4, b5, b6, b7, b8, b9, -⟩ := h.row hi
  obtain ⟨I', P', W', k1, k2, k3, k4, k5⟩ := c49 (X := X) (d := d) (N := N) h hi hy h23 hg hg2 hb hc hR hQ (by omega)
  refine ⟨I', P', R + 1, W', ?_, k2, k3, by omega, k4, k5⟩
  rw [e48 rfl]
  simp (disch := first | decide | omega | assumption | (simp (disch := decide) only [u2_ne, u2_same, mQueue]; assumption)) only [kV_some, kI_some, kR_some, kR_any, kH_some, kC_none, kC_some, jv_rsv_ref, jv_rsv_rf, jv_nz_ref, jv_nz_null, jv_nz_rf0, jv_nz_rf1, jv_rq_r1, jv_rq_r0, n10, n11, n00, Nat.reduceEqDiff, Option.bind_some, Option.bind_none, jv_isr_ref, jv_isr_rf, jv_isr_null, va_rf_some, va_rf_none, jv_cat1_int, jv_cat1_ref, jv_cat1_rf, if_true, if_false, eq_self, Option.toList_some, Option.toList_none, List.cons_append, List.nil_append, Bool.and_self, Bool.and_true, i32_10, i32_01, i32_80, nI_div8, nI_mul4, nI_mul8, nI_mul32, nI_add, ↓reduceIte, u2_ne, u2_same, r48_0, r48_1, r48_4, r48_6, r48_80, r48_82, r48_83, r48_86, r48_87, r48_88, r48_91, r48_94, r48_96, r48_97, r48_100, r48_101, r48_104, r48_105, r48_108, r48_111, r48_113, r48_114, r48_117, r48_118, r48_121, r48_122, r48_125, r48_128, r48_129, r48_130, r48_131, r48_134, r48_135, r48_136, r48_138, r48_141, r48_142, r48_143, r48_144, r48_145, r48_148, r48_149, r48_150, r48_152, r48_155, r48_156, r48_157, r48_159, r48_162, r48_165, r48_166, r48_169, r48_171, r48_172, r48_173, r48_176, r48_177, r48_180, r48_183, r48_184, r48_185, r48_186, r48_187, r48_189, r48_190, r48_193, r48_196, r48_198, r48_199, r48_202, r48_205, r48_207, r48_208, r48_211, r48_214, r48_215, r48_216, r48_219, r48_220, r48_223, r48_226, r48_227, r48_230, r48_231, r48_232, r48_235, r48_238, r48_239, r48_241, r48_244, r48_247, r48_250, r48_252, r48_253, r48_256, r48_259, r48_260, gt_rq_1, b7, sw48_3, gt_1_1, rl_3, ic_1, k1]
theorem c48_3f {i g b : Nat} {vb : Int32} (h : RJ I P M ρ 30 W 61 O Q y (-1)) (hi : i < 30) (hb : b < 32) (hd : 6 ≤ d) : stp I P X d N ρ i 3 (nI b) vb (if mCatch M i = 1 then (mCaught M i, 0) else (M, 102)) := by
  obtain ⟨d, rfl⟩ : ∃ q, d = q + 1 := ⟨d - 1, by omega⟩
  obtain ⟨d, rfl⟩ : ∃ q, d = q + 1 := ⟨d - 1, by omega⟩
  have hW := h.2.ok.W
  obtain ⟨g1, m, b1, b2, b3, b4, b5, b6, b7, b8, b9, -⟩ := h.row hi
  have hfull := c18 (X := X) (d := d) (P := P) (N := N) h.size (by omega) (by omega)
  rw [if_neg (by decide)] at hfull
  have hca := c39 (X := X) (d := d) (N := N) (code := 102) h hi (by omega)
  have hs : ∀ r (I2 : Nat → Nat → Int32), jv_F gw X (d + 1) 49 [.ref 1, .ref (7 + ρ i), .ref (113 + b), .int vb] (he I P N) = some (some (.int r), he I2 P N) → jv_F gw X (d + 1 + 1) 48 [.ref 1, .ref (7 + ρ i), .int (nI 3), .int (nI b), .int vb] (he I P N) = some (some (.int r), he I2 P N) := by
    intro r I2 k1
    rw [e48 rfl]
    simp (disch := first | decide | omega | assumption | (simp (disch := decide) only [u2_ne, u2_same, mQueue]; assumption)) only [kV_some, kI_some, kR_some, kR_any, kH_some, kC_none, kC_some, jv_rsv_ref, jv_rsv_rf, jv_nz_ref, jv_nz_null, jv_nz_rf0, jv_nz_rf1, jv_rq_r1, jv_rq_r0, n10, n11, n00, Nat.reduceEqDiff, Option.bind_some, Option.bind_none, jv_isr_ref, jv_isr_rf, jv_isr_null, va_rf_some, va_rf_none, jv_cat1_int, jv_cat1_ref, jv_cat1_rf, if_true, if_false, eq_self, Option.toList_some, Option.toList_none, List.cons_append, List.nil_append, Bool.and_self, Bool.and_true, i32_10, i32_01, i32_80, nI_div8, nI_mul4, nI_mul8, nI_mul32, nI_add, ↓reduceIte, u2_ne, u2_same, r48_0, r48_1, r48_4, r48_6, r48_80, r48_82, r48_83, r48_86, r48_87, r48_88, r48_91, r48_94, r48_96, r48_97, r48_100, r48_101, r48_104, r48_105, r48_108, r48_111, r48_113, r48_114, r48_117, r48_118, r48_121, r48_122, r48_125, r48_128, r48_129, r48_130, r48_131, r48_134, r48_135, r48_136, r48_138, r48_141, r48_142, r48_143, r48_144, r48_145, r48_148, r48_149, r48_150, r48_152, r48_155, r48_156, r48_157, r48_159, r48_162, r48_165, r48_166, r48_169, r48_171, r48_172, r48_173, r48_176, r48_177, r48_180, r48_183, r48_184, r48_185, r48_186, r48_187, r48_189, r48_190, r48_193, r48_196, r48_198, r48_199, r48_202, r48_205, r48_207, r48_208, r48_211, r48_214, r48_215, r48_216, r48_219, r48_220, r48_223, r48_226, r48_227, r48_230, r48_231, r48_232, r48_235, r48_238, r48_239, r48_241, r48_244, r48_247, r48_250, r48_252, r48_253, r48_256, r48_259, r48_260, gt_rq_1, b7, sw48_3, gt_1_1, rl_3, ic_1, k1]
  rcases mCatch_01 M i with hc | hc
  · rw [if_neg (by rw [hc]; decide)]
    rw [hc, if_neg (by decide)] at hca
    refine ⟨I, P, 30, W, ?_, h.1, h.2.hR, by omega, h.2.hW, by omega⟩
    refine hs _ _ ?_
    rw [e49 rfl rfl]
    simp (disch := first | decide | omega | assumption | (simp (disch := decide) only [u2_ne, u2_same, mQueue]; assumption)) only [kV_some, kI_some, kR_some, kR_any, kH_some, kC_none, kC_some, jv_rsv_ref, jv_rsv_rf, jv_nz_ref, jv_nz_null, jv_nz_rf0, jv_nz_rf1, jv_rq_r1, jv_rq_r0, n10, n11, n00, Nat.reduceEqDiff, Option.bind_some, Option.bind_none, jv_isr_ref, jv_isr_rf, jv_isr_null, va_rf_some, va_rf_none, jv_cat1_int, jv_cat1_ref, jv_cat1_rf, if_true, if_false, eq_self, Option.toList_some, Option.toList_none, List.cons_append, List.nil_append, Bool.and_self, Bool.and_true, i32_10, i32_01, i32_80, nI_div8, nI_mul4, nI_mul8, nI_mul32, nI_add, ↓reduceIte, u2_ne, u2_same, r49_0, r49_1, r49_4, r49_7, r49_10, r49_11, r49_13, r49_16, r49_19, r49_20, r49_23, r49_25, r49_26, r49_27, r49_28, r49_29, r49_30, r49_33, r49_36, r49_37, r49_40, r49_43, r49_45, r49_47, r49_48, r49_51, r49_52, r49_54, r49_57, r49_58, gt_1_3, ic_5, hfull, ic_rq, hca]
  · rw [if_pos hc]
    rw [hc, if_pos rfl] at hca
    refine ⟨_, P, 30, W, ?_, (h.1.row (a := 44) (b := 21) (v := -102) (by omega) hi (by omega) rfl).row (a := 45) (b := 22) (v := M 22 i + 1) (by omega) hi (by omega) rfl, ?_, by omega, ?_, by omega⟩
    · refine hs _ _ ?_
      rw [e49 rfl rfl]
      simp (disch := first | decide | omega | assumption | (simp (disch := decide) only [u2_ne, u2_same, mQueue]; assumption)) only [kV_some, kI_some, kR_some, kR_any, kH_some, kC_none, kC_some, jv_rsv_ref, jv_rsv_rf, jv_nz_ref, jv_nz_null, jv_nz_rf0, jv_nz_rf1, jv_rq_r1, jv_rq_r0, n10, n11, n00, Nat.reduceEqDiff, Option.bind_some, Option.bind_none, jv_isr_ref, jv_isr_rf, jv_isr_null, va_rf_some, va_rf_none, jv_cat1_int, jv_cat1_ref, jv_cat1_rf, if_true, if_false, eq_self, Option.toList_some, Option.toList_none, List.cons_append, List.nil_append, Bool.and_self, Bool.and_true, i32_10, i32_01, i32_80, nI_div8, nI_mul4, nI_mul8, nI_mul32, nI_add, ↓reduceIte, u2_ne, u2_same, r49_0, r49_1, r49_4, r49_7, r49_10, r49_11, r49_13, r49_16, r49_19, r49_20, r49_23, r49_25, r49_26, r49_27, r49_28, r49_29, r49_30, r49_33, r49_36, r49_37, r49_40, r49_43, r49_45, r49_47, r49_48, r49_51, r49_52, r49_54, r49_57, r49_58, gt_1_3, ic_5, hfull, ic_rq, hca]
    · show mCaught M i 28 0 = _; unfold mCaught; rw [u2_ne (by decide), u2_ne (by decide)]; exact h.2.hR
    · show mCaught M i 31 0 = _; unfold mCaught; rw [u2_ne (by decide), u2_ne (by decide)]; exact h.2.hW
theorem c48_4 {i g b c : Nat} (h : RJ I P M ρ R W (R + 31) O Q y (-1)) (hi : i < R) (hg : M 18 i = nI g) (hg2 : g < 32) (hy : y = M 17 i) (hb : b < 32) (hc : c < 4) (hR : R < 30) (hQ : Q + 1 < 2 ^ 30) (hd : 6 ≤ d) : stp I P X d N ρ i 4 (nI b) (nI c) (mMake M R b (nI c) (M 9 g) (-1) 0, 0) := by
  obtain ⟨d, rfl⟩ : ∃ q, d = q + 1 := ⟨d - 1, by omega⟩
  obtain ⟨d, rfl⟩ : ∃ q, d = q + 1 := ⟨d - 1, by omega⟩
  have h30 := h.2.h30
  have h0 := (h.2.n.1 i hi).1
  obtain ⟨g1, m, b1, b2, b3, b4, b5, b6, b7, b8, b9, -⟩ := h.row hi
  have eg : g1 = g := (nI_eq (by omega) (by omega)).mp (b3.symm.trans hg)
  subst eg
  have e32 : I 32 = M 9 := h.1.s 32 (by decide)
  obtain ⟨I1, P1, W1, k1, k2⟩ := c19 (X := X) (d := d) (N := N) (g := b) (mm := c) (v := M 9 g1) (ch := 0) h hR hb hc (by rw [hy]; exact fun z => h.2.n.ne hi z.symm) (by rw [hy]; exact ng_ne hb h0) (by omega) hQ (by omega)
  have hfull := c18 (X := X) (d := d) (P := P) (N := N) h.size (by omega) (by omega)
  rw [if_pos hR] at hfull
  have k3 : jv_F gw X (d + 1) 51 [.ref 1, .ref (7 + ρ i), .ref (113 + b), .int (nI c)] (he I P N) = some (some (.int 0), he I1 P1 N) := by
    rw [e51 rfl rfl]
    simp (disch := first | decide | omega | assumption | (simp (disch := decide) only [u2_ne, u2_same, mQueue]; assumption)) only [kV_some, kI_some, kR_some, kR_any, kH_some, kC_none, kC_some, jv_rsv_ref, jv_rsv_rf, jv_nz_ref, jv_nz_null, jv_nz_rf0, jv_nz_rf1, jv_rq_r1, jv_rq_r0, n10, n11, n00, Nat.reduceEqDiff, Option.bind_some, Option.bind_none, jv_isr_ref, jv_isr_rf, jv_isr_null, va_rf_some, va_rf_none, jv_cat1_int, jv_cat1_ref, jv_cat1_rf, if_true, if_false, eq_self, Option.toList_some, Option.toList_none, List.cons_append, List.nil_append, Bool.and_self, Bool.and_true, i32_10, i32_01, i32_80, nI_div8, nI_mul4, nI_mul8, nI_mul32, nI_add, ↓reduceIte, u2_ne, u2_same, r51_0, r51_1, r51_4, r51_7, r51_10, r51_12, r51_13, r51_14, r51_15, r51_16, r51_17, r51_20, r51_23, r51_24, r51_27, r51_28, r51_29, gt_1_3, ic_5, hfull, gt_rq_1, b7, gt_gr_4, e32, ic_1, k1]
  refine ⟨I1, P1, R + 1, W1, ?_, k2.1, k2.2.hR, by omega, k2.2.hW, by have := k2.2.ok.W; omega⟩
  rw [e48 rfl]
  simp (disch := first | decide | omega | assumption | (simp (disch := decide) only [u2_ne, u2_same, mQueue]; assumption)) only [kV_some, kI_some, kR_some, kR_any, kH_some, kC_none, kC_some, jv_rsv_ref, jv_rsv_rf, jv_nz_ref, jv_nz_null, jv_nz_rf0, jv_nz_rf1, jv_rq_r1, jv_rq_r0, n10, n11, n00, Nat.reduceEqDiff, Option.bind_some, Option.bind_none, jv_isr_ref, jv_isr_rf, jv_isr_null, va_rf_some, va_rf_none, jv_cat1_int, jv_cat1_ref, jv_cat1_rf, if_true, if_false, eq_self, Option.toList_some, Option.toList_none, List.cons_append, List.nil_append, Bool.and_self, Bool.and_true, i32_10, i32_01, i32_80, nI_div8, nI_mul4, nI_mul8, nI_mul32, nI_add, ↓reduceIte, u2_ne, u2_same, r48_0, r48_1, r48_4, r48_6, r48_80, r48_82, r48_83, r48_86, r48_87, r48_88, r48_91, r48_94, r48_96, r48_97, r48_100, r48_101, r48_104, r48_105, r48_108, r48_111, r48_113, r48_114, r48_117, r48_118, r48_121, r48_122, r48_125, r48_128, r48_129, r48_130, r48_131, r48_134, r48_135, r48_136, r48_138, r48_141, r48_142, r48_143, r48_144, r48_145, r48_148, r48_149, r48_150, r48_152, r48_155, r48_156, r48_157, r48_159, r48_162, r48_165, r48_166, r48_169, r48_171, r48_172, r48_173, r48_176, r48_177, r48_180, r48_183, r48_184, r48_185, r48_186, r48_187, r48_189, r48_190, r48_193, r48_196, r48_198, r48_199, r48_202, r48_205, r48_207, r48_208, r48_211, r48_214, r48_215, r48_216, r48_219, r48_220, r48_223, r48_226, r48_227, r48_230, r48_231, r48_232, r48_235, r48_238, r48_239, r48_241, r48_244, r48_247, r48_250, r48_252, r48_253, r48_256, r48_259, r48_260, gt_rq_1, b7, sw48_4, gt_1_1, rl_3, ic_1, k3]
theorem c48_4f {i g b : Nat} {vb : Int32} (h : RJ I P M ρ 30 W 61 O Q y (-1)) (hi : i < 30) (hb : b < 32) (hd : 6 ≤ d) : stp I P X d N ρ i 4 (nI b) vb (M, 102) := by
  obtain ⟨d, rfl⟩ : ∃ q, d = q + 1 := ⟨d - 1, by omega⟩
  obtain ⟨d, rfl⟩ : ∃ q, d = q + 1 := ⟨d - 1, by omega⟩
  have hW := h.2.ok.W
  obtain ⟨g1, m, b1, b2, b3, b4, b5, b6, b7, b8, b9, -⟩ := h.row hi
  have hfull := c18 (X := X) (d := d) (P := P) (N := N) h.size (by omega) (by omega)
  rw [if_neg (by decide)] at hfull
  have k3 : jv_F gw X (d + 1) 51 [.ref 1, .ref (7 + ρ i), .ref (113 + b), .int vb] (he I P N) = some (some (.int 102), he I P N) := by
    rw [e51 rfl rfl]
    simp (disch := first | decide | omega | assumption | (simp (disch := decide) only [u2_ne, u2_same, mQueue]; assumption)) only [kV_some, kI_some, kR_some, kR_any, kH_some, kC_none, kC_some, jv_rsv_ref, jv_rsv_rf, jv_nz_ref, jv_nz_null, jv_nz_rf0, jv_nz_rf1, jv_rq_r1, jv_rq_r0, n10, n11, n00, Nat.reduceEqDiff, Option.bind_some, Option.bind_none, jv_isr_ref, jv_isr_rf, jv_isr_null, va_rf_some, va_rf_none, jv_cat1_int, jv_cat1_ref, jv_cat1_rf, if_true, if_false, eq_self, Option.toList_some, Option.toList_none, List.cons_append, List.nil_append, Bool.and_self, Bool.and_true, i32_10, i32_01, i32_80, nI_div8, nI_mul4, nI_mul8, nI_mul32, nI_add, ↓reduceIte, u2_ne, u2_same, r51_0, r51_1, r51_4, r51_7, r51_10, r51_12, r51_13, r51_14, r51_15, r51_16, r51_17, r51_20, r51_23, r51_24, r51_27, r51_28, r51_29, gt_1_3, ic_5, hfull]
  refine ⟨I, P, 30, W, ?_, h.1, h.2.hR, by omega, h.2.hW, by omega⟩
  rw [e48 rfl]
  simp (disch := first | decide | omega | assumption | (simp (disch := decide) only [u2_ne, u2_same, mQueue]; assumption)) only [kV_some, kI_some, kR_some, kR_any, kH_some, kC_none, kC_some, jv_rsv_ref, jv_rsv_rf, jv_nz_ref, jv_nz_null, jv_nz_rf0, jv_nz_rf1, jv_rq_r1, jv_rq_r0, n10, n11, n00, Nat.reduceEqDiff, Option.bind_some, Option.bind_none, jv_isr_ref, jv_isr_rf, jv_isr_null, va_rf_some, va_rf_none, jv_cat1_int, jv_cat1_ref, jv_cat1_rf, if_true, if_false, eq_self, Option.toList_some, Option.toList_none, List.cons_append, List.nil_append, Bool.and_self, Bool.and_true, i32_10, i32_01, i32_80, nI_div8, nI_mul4, nI_mul8, nI_mul32, nI_add, ↓reduceIte, u2_ne, u2_same, r48_0, r48_1, r48_4, r48_6, r48_80, r48_82, r48_83, r48_86, r48_87, r48_88, r48_91, r48_94, r48_96, r48_97, r48_100, r48_101, r48_104, r48_105, r48_108, r48_111, r48_113, r48_114, r48_117, r48_118, r48_121, r48_122, r48_125, r48_128, r48_129, r48_130, r48_131, r48_134, r48_135, r48_136, r48_138, r48_141, r48_142, r48_143, r48_144, r48_145, r48_148, r48_149, r48_150, r48_152, r48_155, r48_156, r48_157, r48_159, r48_162, r48_165, r48_166, r48_169, r48_171, r48_172, r48_173, r48_176, r48_177, r48_180, r48_183, r48_184, r48_185, r48_186, r48_187, r48_189, r48_190, r48_193, r48_196, r48_198, r48_199, r48_202, r48_205, r48_207, r48_208, r48_211, r48_214, r48_215, r48_216, r48_219, r48_220, r48_223, r48_226, r48_227, r48_230, r48_231, r48_232, r48_235, r48_238, r48_239, r48_241, r48_244, r48_247, r48_250, r48_252, r48_253, r48_256, r48_259, r48_260, gt_rq_1, b7, sw48_4, gt_1_1, rl_3, ic_1, k3]
end CL
