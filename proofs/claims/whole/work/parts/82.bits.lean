/-! ===== bits ===== -/
theorem sh_k {g : Nat} (hg : g < 32) : ((nI g &&& 31).toBitVec.smod 32).toNat = g := by
  have k : ∀ q : Fin 32, ((nI q.1 &&& 31).toBitVec.smod 32).toNat = q.1 := by decide
  exact k ⟨g, hg⟩
theorem one_bit {k j : Nat} (hk : k < 32) : ((1#32) <<< k).getLsbD j = decide (j = k) := by
  rw [BitVec.getLsbD_shiftLeft, BitVec.getLsbD_one]
  by_cases h : j = k
  · subst h
    simp [hk]
  · by_cases h2 : j < k
    · simp [h, h2]
    · have : ¬ j - k = 0 := by omega
      simp [h, this]
theorem bv_and0 {v : BitVec 32} {k : Nat} (hk : k < 32) : v &&& ((1#32) <<< k) = 0#32 ↔ v.getLsbD k = false := by
  constructor
  · intro h
    have := congrArg (fun z => z.getLsbD k) h
    simp only [BitVec.getLsbD_and, one_bit hk] at this
    simpa using this
  · intro h
    apply BitVec.eq_of_getLsbD_eq
    intro j hj
    rw [BitVec.getLsbD_and, one_bit hk]
    by_cases e : j = k
    · subst e; simp [h]
    · simp [e]
theorem bv_one {v : BitVec 32} : v &&& 1#32 = 1#32 ↔ v.getLsbD 0 = true := by
  constructor
  · intro h
    have := congrArg (fun z => z.getLsbD 0) h
    simp only [BitVec.getLsbD_and] at this
    simpa using this
  · intro h
    apply BitVec.eq_of_getLsbD_eq
    intro j hj
    rw [BitVec.getLsbD_and, BitVec.getLsbD_one]
    by_cases e : j = 0
    · subst e; simp [h]
    · simp [e]
theorem bv_ssr {v : BitVec 32} {k : Nat} (hk : k < 32) : (v.sshiftRight k).getLsbD 0 = v.getLsbD k := by
  rw [BitVec.getLsbD_sshiftRight]
  simp [hk]
theorem bit_shr {c : Int32} {g : Nat} (hg : g < 32) : ((c >>> (nI g &&& 31)) &&& 1 = 1) ↔ c.toBitVec.getLsbD g = true := by
  rw [← Int32.toBitVec_inj, Int32.toBitVec_and, Int32.toBitVec_shiftRight, BitVec.sshiftRight_eq', sh_k hg]
  exact bv_one.trans (by rw [bv_ssr hg])
theorem bit_and {c : Int32} {g : Nat} (hg : g < 32) : (c &&& ((1 : Int32) <<< (nI g &&& 31)) = 0) ↔ c.toBitVec.getLsbD g = false := by
  rw [← Int32.toBitVec_inj, Int32.toBitVec_and, Int32.toBitVec_shiftLeft, BitVec.shiftLeft_eq', sh_k hg]
  exact bv_and0 hg
theorem cbk_bit {c : Int32} {g : Nat} (hg : g < 32) : cbk c (nI g) = 0 ↔ ¬ ((c >>> (nI g &&& 31)) &&& 1 = 1) := by
  unfold cbk
  rw [bit_shr hg]
  by_cases h : c &&& ((1 : Int32) <<< (nI g &&& 31)) = 0
  · rw [if_pos h]
    simp [(bit_and hg).mp h]
  · rw [if_neg h]
    have : ¬ c.toBitVec.getLsbD g = false := fun z => h ((bit_and hg).mpr z)
    simp at this
    simp [this]
