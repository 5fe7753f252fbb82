/-! ===== bitCount against bits ===== -/
theorem land8 {a b c e : Nat} (ha : a < 256) (hc : c < 256) : (256 * b + a) &&& (256 * e + c) = 256 * (b &&& e) + (a &&& c) := by
  have hac : a &&& c < 2 ^ 8 := Nat.lt_of_le_of_lt Nat.and_le_left ha
  apply Nat.eq_of_testBit_eq
  intro j
  rw [show (256 : Nat) = 2 ^ 8 from rfl, Nat.testBit_and, Nat.testBit_two_pow_mul_add _ ha, Nat.testBit_two_pow_mul_add _ hc, Nat.testBit_two_pow_mul_add _ hac]
  split <;> rw [Nat.testBit_and]
def q4 (a b c e : Nat) : Nat := 256 * (256 * (256 * a + b) + c) + e
theorem land4 {a b c e a2 b2 c2 e2 : Nat} (h1 : b < 256) (h2 : c < 256) (h3 : e < 256) (k1 : b2 < 256) (k2 : c2 < 256) (k3 : e2 < 256) : q4 a b c e &&& q4 a2 b2 c2 e2 = q4 (a &&& a2) (b &&& b2) (c &&& c2) (e &&& e2) := by
  unfold q4
  rw [land8 h3 k3, land8 h2 k2, land8 h1 k1]
def pcD (B : Nat) : Nat := B - ((B / 2) &&& 85)
def pcE (B : Nat) : Nat := (pcD B &&& 51) + ((pcD B / 4) &&& 51)
def pcB (B : Nat) : Nat := B % 2 + B / 2 % 2 + B / 4 % 2 + B / 8 % 2 + B / 16 % 2 + B / 32 % 2 + B / 64 % 2 + B / 128 % 2
theorem by1 : ∀ B : Fin 256, ∀ s : Fin 2, (B.1 / 2 + 128 * s.1) &&& 85 = (B.1 / 2) &&& 85 ∧ (B.1 / 2) &&& 85 ≤ B.1 ∧ (B.1 / 2) &&& 85 ≤ 85 := by decide +kernel
theorem by2 : ∀ B : Fin 256, ∀ s : Fin 4, (pcD B.1 / 4 + 64 * s.1) &&& 51 = (pcD B.1 / 4) &&& 51 ∧ pcD B.1 < 256 := by decide +kernel
theorem by3 : ∀ B : Fin 256, ∀ s : Fin 9, (pcE B.1 + pcE B.1 / 16 + 16 * s.1) &&& 15 = pcB B.1 ∧ pcE B.1 ≤ 68 ∧ pcE B.1 % 16 ≤ 8 ∧ pcB B.1 ≤ 8 ∧ pcE B.1 / 16 ≤ 8 := by decide +kernel
theorem nI_and {a b : Nat} (ha : a < 2 ^ 32) (hb : b < 2 ^ 32) : nI a &&& nI b = nI (a &&& b) := by
  rw [← Int32.toBitVec_inj, Int32.toBitVec_and]
  apply BitVec.eq_of_toNat_eq
  rw [BitVec.toNat_and, pk_tn ha, pk_tn hb, pk_tn (Nat.lt_of_le_of_lt Nat.and_le_left ha)]
theorem nI_self (x : Int32) : x = nI x.toBitVec.toNat := by
  rw [← Int32.toBitVec_inj]
  apply BitVec.eq_of_toNat_eq
  rw [pk_tn x.toBitVec.isLt]
theorem ush {n : Nat} (hn : n < 2 ^ 32) (s : Int32) (k : Nat) (hs : ((s.toUInt32 &&& Int32.toUInt32 31).toBitVec % 32).toNat = k) : jv_ush (nI n) s = nI (n / 2 ^ k) := pk_ushrN hn s k hs
def pcX (x : Int32) : Int32 :=
  let a := x - (jv_ush x 1 &&& 1431655765)
  let b := (a &&& 858993459) + (jv_ush a 2 &&& 858993459)
  let c := (b + jv_ush b 4) &&& 252645135
  let e := c + jv_ush c 8
  (e + jv_ush e 16) &&& 63
theorem q5a {a b c e : Nat} (h0 : a ≤ 8) (h1 : b ≤ 8) (h2 : c ≤ 8) (h3 : e ≤ 8) : q4 a (b + a) (c + b) (e + c) / 2 ^ 16 = 256 * a + (b + a) := by unfold q4; omega
theorem q5l {a b c e : Nat} (h0 : a ≤ 8) (h1 : b ≤ 8) (h2 : c ≤ 8) (h3 : e ≤ 8) : q4 a (b + a) (c + b) (e + c) + q4 a (b + a) (c + b) (e + c) / 2 ^ 16 < 2 ^ 32 := by rw [q5a h0 h1 h2 h3]; unfold q4; omega
theorem q5 {a b c e : Nat} (h0 : a ≤ 8) (h1 : b ≤ 8) (h2 : c ≤ 8) (h3 : e ≤ 8) : (q4 a (b + a) (c + b) (e + c) + q4 a (b + a) (c + b) (e + c) / 2 ^ 16) % 2 ^ 6 = a + b + c + e := by
  rw [q5a h0 h1 h2 h3]
  have : q4 a (b + a) (c + b) (e + c) + (256 * a + (b + a)) = 64 * (4 * (256 * (256 * a + (b + a)) + (c + b)) + 4 * a) + (a + b + c + e) := by unfold q4; omega
  rw [this]
  omega
theorem pcX_q4 {a b c e : Nat} (h0 : a < 256) (h1 : b < 256) (h2 : c < 256) (h3 : e < 256) : pcX (nI (q4 a b c e)) = nI (pcB a + pcB b + pcB c + pcB e) := by
  have lt : ∀ {a b c e : Nat}, a < 256 → b < 256 → c < 256 → e < 256 → q4 a b c e < 2 ^ 32 := by
    intro a b c e h0 h1 h2 h3
    unfold q4
    omega
  have A := by1 ⟨a, h0⟩ 0
  have B := by1 ⟨b, h1⟩ ⟨a % 2, by omega⟩
  have C := by1 ⟨c, h2⟩ ⟨b % 2, by omega⟩
  have E := by1 ⟨e, h3⟩ ⟨c % 2, by omega⟩
  have A2 := by2 ⟨a, h0⟩ 0
  have B2 := by2 ⟨b, h1⟩ ⟨pcD a % 4, by omega⟩
  have C2 := by2 ⟨c, h2⟩ ⟨pcD b % 4, by omega⟩
  have E2 := by2 ⟨e, h3⟩ ⟨pcD c % 4, by omega⟩
  have A3 := by3 ⟨a, h0⟩ 0
  have B3 := by3 ⟨b, h1⟩ ⟨pcE a % 16, by have := A3.2.2.1; simp only at this; omega⟩
  have C3 := by3 ⟨c, h2⟩ ⟨pcE b % 16, by have := B3.2.2.1; simp only at this; omega⟩
  have E3 := by3 ⟨e, h3⟩ ⟨pcE c % 16, by have := C3.2.2.1; simp only at this; omega⟩
  simp only [Fin.val_zero, Nat.mul_zero, Nat.add_zero] at A B C E A2 B2 C2 E2 A3 B3 C3 E3
  have d1 : q4 a b c e / 2 ^ 1 = q4 (a / 2) (b / 2 + 128 * (a % 2)) (c / 2 + 128 * (b % 2)) (e / 2 + 128 * (c % 2)) := by unfold q4; omega
  have m1 : (1431655765 : Int32) = nI (q4 85 85 85 85) := by decide
  have m2 : (858993459 : Int32) = nI (q4 51 51 51 51) := by decide
  have m3 : (252645135 : Int32) = nI (q4 15 15 15 15) := by decide
  have s1 : nI (q4 a b c e) - (jv_ush (nI (q4 a b c e)) 1 &&& 1431655765) = nI (q4 (pcD a) (pcD b) (pcD c) (pcD e)) := by
    rw [ush (lt h0 h1 h2 h3) 1 1 (by decide), d1, m1, nI_and (lt (by omega) (by omega) (by omega) (by omega)) (by decide), land4 (by omega) (by omega) (by omega) (by decide) (by decide) (by decide), B.1, C.1, E.1, pk_sub (by unfold q4; omega)]
    congr 1
    unfold q4 pcD
    omega
  have d2 : q4 (pcD a) (pcD b) (pcD c) (pcD e) / 2 ^ 2 = q4 (pcD a / 4) (pcD b / 4 + 64 * (pcD a % 4)) (pcD c / 4 + 64 * (pcD b % 4)) (pcD e / 4 + 64 * (pcD c % 4)) := by unfold q4; omega
  have s2 : (nI (q4 (pcD a) (pcD b) (pcD c) (pcD e)) &&& 858993459) + (jv_ush (nI (q4 (pcD a) (pcD b) (pcD c) (pcD e))) 2 &&& 858993459) = nI (q4 (pcE a) (pcE b) (pcE c) (pcE e)) := by
    rw [ush (lt A2.2 B2.2 C2.2 E2.2) 2 2 (by decide), d2, m2, nI_and (lt A2.2 B2.2 C2.2 E2.2) (by decide), nI_and (lt (by omega) (by omega) (by omega) (by omega)) (by decide), land4 B2.2 C2.2 E2.2 (by decide) (by decide) (by decide), land4 (by omega) (by omega) (by omega) (by decide) (by decide) (by decide), B2.1, C2.1, E2.1, nI_add]
    congr 1
    unfold q4 pcE
    omega
  have d3 : q4 (pcE a) (pcE b) (pcE c) (pcE e) + q4 (pcE a) (pcE b) (pcE c) (pcE e) / 2 ^ 4 = q4 (pcE a + pcE a / 16) (pcE b + pcE b / 16 + 16 * (pcE a % 16)) (pcE c + pcE c / 16 + 16 * (pcE b % 16)) (pcE e + pcE e / 16 + 16 * (pcE c % 16)) := by unfold q4; omega
  have s3 : (nI (q4 (pcE a) (pcE b) (pcE c) (pcE e)) + jv_ush (nI (q4 (pcE a) (pcE b) (pcE c) (pcE e))) 4) &&& 252645135 = nI (q4 (pcB a) (pcB b) (pcB c) (pcB e)) := by
    rw [ush (lt (by omega) (by omega) (by omega) (by omega)) 4 4 (by decide), nI_add, d3, m3, nI_and (lt (by omega) (by omega) (by omega) (by omega)) (by decide), land4 (by omega) (by omega) (by omega) (by decide) (by decide) (by decide), A3.1, B3.1, C3.1, E3.1]
  have d4 : q4 (pcB a) (pcB b) (pcB c) (pcB e) + q4 (pcB a) (pcB b) (pcB c) (pcB e) / 2 ^ 8 = q4 (pcB a) (pcB b + pcB a) (pcB c + pcB b) (pcB e + pcB c) := by unfold q4; omega
  have s4 : nI (q4 (pcB a) (pcB b) (pcB c) (pcB e)) + jv_ush (nI (q4 (pcB a) (pcB b) (pcB c) (pcB e))) 8 = nI (q4 (pcB a) (pcB b + pcB a) (pcB c + pcB b) (pcB e + pcB c)) := by
    rw [ush (lt (by omega) (by omega) (by omega) (by omega)) 8 8 (by decide), nI_add, d4]
  have s5 : (nI (q4 (pcB a) (pcB b + pcB a) (pcB c + pcB b) (pcB e + pcB c)) + jv_ush (nI (q4 (pcB a) (pcB b + pcB a) (pcB c + pcB b) (pcB e + pcB c))) 16) &&& 63 = nI (pcB a + pcB b + pcB c + pcB e) := by
    rw [ush (lt (by omega) (by omega) (by omega) (by omega)) 16 16 (by decide), nI_add, pk_andN (q5l (by omega) (by omega) (by omega) (by omega)) 6 (by decide), q5 (by omega) (by omega) (by omega) (by omega)]
  unfold pcX
  simp only [s1, s2, s3, s4, s5]
def bS (n : Nat) : Nat → Nat
  | 0 => 0
  | k + 1 => bS n k + n / 2 ^ k % 2
theorem bit_val {n k : Nat} (hn : n < 2 ^ 32) (hk : k < 32) : (nI n >>> (nI k &&& 31)) &&& 1 = nI (n / 2 ^ k % 2) := by
  have h1 : (nI n >>> (nI k &&& 31)) &&& 1 = nI 0 ∨ (nI n >>> (nI k &&& 31)) &&& 1 = nI 1 := by
    rw [pk_and (nI n >>> (nI k &&& 31)) (m := 1) 1 (by decide)]
    have : (nI n >>> (nI k &&& 31)).toBitVec.toNat % 2 ^ 1 < 2 := by omega
    rcases (show (nI n >>> (nI k &&& 31)).toBitVec.toNat % 2 ^ 1 = 0 ∨ (nI n >>> (nI k &&& 31)).toBitVec.toNat % 2 ^ 1 = 1 by omega) with e | e
    · rw [e]; exact Or.inl rfl
    · rw [e]; exact Or.inr rfl
  have h2 := bit_shr (c := nI n) hk
  have h3 : (nI n).toBitVec.getLsbD k = decide (n / 2 ^ k % 2 = 1) := by
    unfold BitVec.getLsbD
    rw [pk_tn hn, Nat.testBit_eq_decide_div_mod_eq]
  rw [h3] at h2
  rcases (show n / 2 ^ k % 2 = 0 ∨ n / 2 ^ k % 2 = 1 by omega) with e | e
  · rw [e]
    rw [e] at h2
    rcases h1 with q | q
    · exact q
    · exact absurd (h2.mp q) (by decide)
  · rw [e]
    rw [e] at h2
    exact h2.mpr (by decide)
theorem mBits_bS {n : Nat} (hn : n < 2 ^ 32) : ∀ k, k ≤ 32 → mBits (nI n) k = nI (bS n k)
  | 0, _ => rfl
  | k + 1, hk => by rw [mBits, bS, mBits_bS hn k (by omega), bit_val hn (by omega), nI_add]
theorem lo_1 {m r : Nat} (hr : r < 256) : (256 * m + r) / 2 % 2 = r / 2 % 2 := by omega
theorem lo_2 {m r : Nat} (hr : r < 256) : (256 * m + r) / 4 % 2 = r / 4 % 2 := by omega
theorem lo_3 {m r : Nat} (hr : r < 256) : (256 * m + r) / 8 % 2 = r / 8 % 2 := by omega
theorem lo_4 {m r : Nat} (hr : r < 256) : (256 * m + r) / 16 % 2 = r / 16 % 2 := by omega
theorem lo_5 {m r : Nat} (hr : r < 256) : (256 * m + r) / 32 % 2 = r / 32 % 2 := by omega
theorem lo_6 {m r : Nat} (hr : r < 256) : (256 * m + r) / 64 % 2 = r / 64 % 2 := by omega
theorem lo_7 {m r : Nat} (hr : r < 256) : (256 * m + r) / 128 % 2 = r / 128 % 2 := by omega
theorem lo_0 {m r : Nat} (hr : r < 256) : (256 * m + r) % 2 = r % 2 := by omega
theorem pcB_lo {m r : Nat} (hr : r < 256) : pcB (256 * m + r) = pcB r := by unfold pcB; rw [lo_0 hr, lo_1 hr, lo_2 hr, lo_3 hr, lo_4 hr, lo_5 hr, lo_6 hr, lo_7 hr]
theorem bS_s (n k : Nat) : bS n (k + 1) = bS n k + n / 2 ^ k % 2 := rfl
theorem bS_8 (n : Nat) : bS n 8 = pcB n := by
  rw [bS_s n 7, bS_s n 6, bS_s n 5, bS_s n 4, bS_s n 3, bS_s n 2, bS_s n 1, bS_s n 0]
  unfold pcB
  rw [show bS n 0 = 0 from rfl, Nat.zero_add, Nat.pow_zero, Nat.div_one]
theorem bS_add (n : Nat) : ∀ k, bS n (8 + k) = pcB n + bS (n / 256) k
  | 0 => by rw [Nat.add_zero, bS_8]; rfl
  | k + 1 => by
    rw [← Nat.add_assoc, bS_s, bS_add n k, bS_s, Nat.pow_add, ← Nat.div_div_eq_div_mul, Nat.add_assoc]
theorem bS_32 {a b c e : Nat} (h1 : b < 256) (h2 : c < 256) (h3 : e < 256) : bS (q4 a b c e) 32 = pcB a + pcB b + pcB c + pcB e := by
  have d1 : q4 a b c e / 256 = 256 * (256 * a + b) + c := by unfold q4; omega
  have d2 : (256 * (256 * a + b) + c) / 256 = 256 * a + b := by omega
  have d3 : (256 * a + b) / 256 = a := by omega
  have e1 := bS_add (q4 a b c e) 24
  have e2 := bS_add (256 * (256 * a + b) + c) 16
  have e3 := bS_add (256 * a + b) 8
  rw [d1] at e1
  rw [d2, pcB_lo h2] at e2
  rw [d3, pcB_lo h1, bS_8] at e3
  have e0 : pcB (q4 a b c e) = pcB e := pcB_lo h3
  rw [e0] at e1
  have f1 : bS (q4 a b c e) 32 = pcB e + bS (256 * (256 * a + b) + c) 24 := e1
  have f2 : bS (256 * (256 * a + b) + c) 24 = pcB c + bS (256 * a + b) 16 := e2
  have f3 : bS (256 * a + b) 16 = pcB b + pcB a := e3
  rw [f1, f2, f3]
  generalize pcB a = A
  generalize pcB b = B
  generalize pcB c = C
  generalize pcB e = E
  clear e1 e2 e3 f1 f2 f3 e0 d1 d2 d3
  omega
theorem pc_eq (x : Int32) : pcX x = mBits x 32 := by
  have hl := x.toBitVec.isLt
  rw [nI_self x]
  generalize x.toBitVec.toNat = n at hl
  have e : n = q4 (n / 16777216) (n / 65536 % 256) (n / 256 % 256) (n % 256) := by unfold q4; omega
  rw [mBits_bS hl 32 (by omega), e, pcX_q4 (by omega) (by omega) (by omega) (by omega), bS_32 (by omega) (by omega) (by omega)]
theorem c71 {X : Nat × (Nat → Int32)} {d : Nat} {h : jv_H} {x : Int32} (hd : 1 ≤ d) : jv_F gw X d 71 [.int x] h = some (some (.int (mBits x 32)), h) := by
  obtain ⟨d, rfl⟩ : ∃ q, d = q + 1 := ⟨d - 1, by omega⟩
  rw [e71, ← pc_eq]
  simp (disch := first | decide | omega | assumption | (simp (disch := decide) only [u2_ne, u2_same, mQueue]; assumption)) only [kV_some, kI_some, kR_some, kR_any, kH_some, kC_none, kC_some, jv_rsv_ref, jv_rsv_rf, jv_nz_ref, jv_nz_null, jv_nz_rf0, jv_nz_rf1, jv_rq_r1, jv_rq_r0, n10, n11, n00, Nat.reduceEqDiff, Option.bind_some, Option.bind_none, jv_isr_ref, jv_isr_rf, jv_isr_null, va_rf_some, va_rf_none, jv_cat1_int, jv_cat1_ref, jv_cat1_rf, if_true, if_false, eq_self, Option.toList_some, Option.toList_none, List.cons_append, List.nil_append, Bool.and_self, Bool.and_true, i32_10, i32_01, i32_80, nI_div8, nI_mul4, nI_mul8, nI_mul32, nI_add, ↓reduceIte, u2_ne, u2_same, r71_0, r71_1, r71_2, r71_3, r71_4, r71_7, r71_8, r71_9, r71_10, r71_11, r71_14, r71_15, r71_16, r71_17, r71_18, r71_21, r71_22, r71_23, r71_24, r71_25, r71_26, r71_27, r71_28, r71_29, r71_32, r71_33, r71_34, r71_35, r71_36, r71_38, r71_39, r71_40, r71_41, r71_42, r71_43, r71_45, r71_46, r71_47, r71_48, r71_49, r71_51, r71_52]
  rfl
