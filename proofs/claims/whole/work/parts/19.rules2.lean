/-! ===== rules, in the form in which they are used ===== -/
theorem jv_cats_le (S : List Value) : jv_cats S ≤ 2 * S.length := by
  unfold jv_cats
  induction S with
  | nil => exact Nat.le_refl _
  | cons v S ih =>
    rw [List.map_cons, List.sum_cons, List.length_cons]
    have : v.category = 1 ∨ v.category = 2 := lv_cat v
    omega
theorem jv_fit_obj (C : String) (v : Value) : jv_fit (.object C) v = jv_isr v := by cases v <;> rfl
theorem jv_fit_arr (t : FieldType) (v : Value) : jv_fit (.array t) v = jv_isr v := by cases v <;> rfl
section JRules2
variable {G : jv_G} {X : Nat × (Nat → Int32)} {d mi pc : Nat} {L : jv_L} {S : List Value} {h : jv_H}
theorem jq_if {c : Jvm.ClassFile.Cond} {off : Int} {tgt nx : Nat} {x : Int32} {P : Prop} [Decidable P] (hd : decode (jg_code G mi) pc = .ok (.ifCond c off, 3)) (ht : (pc : Int) + off = (tgt : Int)) (hn : pc + 3 = nx) (hP : jv_c2 c x 0 = decide P) : jl G X d mi pc L (.int x :: S) h = if P then jl G X d mi tgt L S h else jl G X d mi nx L S h := by
  rw [jr_if hd ht, hP, hn]
  by_cases hp : P <;> simp [hp]
theorem jq_ifN {c : Jvm.ClassFile.Cond} {off : Int} {tgt nx : Nat} {x : Int32} {P : Prop} [Decidable P] (hd : decode (jg_code G mi) pc = .ok (.ifCond c off, 3)) (ht : (pc : Int) + off = (tgt : Int)) (hn : pc + 3 = nx) (hP : jv_c2 c x 0 = decide (¬ P)) : jl G X d mi pc L (.int x :: S) h = if P then jl G X d mi nx L S h else jl G X d mi tgt L S h := by
  rw [jr_if hd ht, hP, hn]
  by_cases hp : P <;> simp [hp]
theorem jq_icmp {c : Jvm.ClassFile.Cond} {off : Int} {tgt nx : Nat} {x y : Int32} {P : Prop} [Decidable P] (hd : decode (jg_code G mi) pc = .ok (.if_icmp c off, 3)) (ht : (pc : Int) + off = (tgt : Int)) (hn : pc + 3 = nx) (hP : jv_c2 c x y = decide P) : jl G X d mi pc L (.int y :: .int x :: S) h = if P then jl G X d mi tgt L S h else jl G X d mi nx L S h := by
  rw [jr_icmp hd ht, hP, hn]
  by_cases hp : P <;> simp [hp]
theorem jq_icmpN {c : Jvm.ClassFile.Cond} {off : Int} {tgt nx : Nat} {x y : Int32} {P : Prop} [Decidable P] (hd : decode (jg_code G mi) pc = .ok (.if_icmp c off, 3)) (ht : (pc : Int) + off = (tgt : Int)) (hn : pc + 3 = nx) (hP : jv_c2 c x y = decide (¬ P)) : jl G X d mi pc L (.int y :: .int x :: S) h = if P then jl G X d mi nx L S h else jl G X d mi tgt L S h := by
  rw [jr_icmp hd ht, hP, hn]
  by_cases hp : P <;> simp [hp]
theorem jq_putI {i ci k a : Nat} {x : Int32} (hd : decode (jg_code G mi) pc = .ok (.putfield i, 3)) (hf : jg_fld G mi i = some (ci, k)) (hz : jv_fty G mi ci k (.int x) = true) : jl G X d mi pc L (.int x :: .ref a :: S) h = (jv_put h a ci k (.int x)).bind (fun h' => jl G X d mi (pc + 3) L S h') := by
  rw [jr_put hd hf, if_pos hz]
theorem jq_putZ {i ci k a : Nat} {x : Int32} (hd : decode (jg_code G mi) pc = .ok (.putfield i, 3)) (hf : jg_fld G mi i = some (ci, k)) (hz : jv_fty G mi ci k (.int x) = (decide (x = 0 ∨ x = 1) && true)) : jl G X d mi pc L (.int x :: .ref a :: S) h = if x = 0 ∨ x = 1 then (jv_put h a ci k (.int x)).bind (fun h' => jl G X d mi (pc + 3) L S h') else none := by
  rw [jr_put hd hf, hz]
  by_cases hp : x = 0 ∨ x = 1 <;> simp [hp]
theorem jq_putR {i ci k a : Nat} {v : Value} (hd : decode (jg_code G mi) pc = .ok (.putfield i, 3)) (hf : jg_fld G mi i = some (ci, k)) (hz : jv_fty G mi ci k v = (jv_isr v && true)) : jl G X d mi pc L (v :: .ref a :: S) h = if jv_isr v = true then (jv_put h a ci k v).bind (fun h' => jl G X d mi (pc + 3) L S h') else none := by
  rw [jr_put hd hf, hz]
  cases jv_isr v <;> simp
theorem jq_tabIn {dflt lo hi off : Int} {offs : Array Int} {len tgt : Nat} {k : Int32} (hd : decode (jg_code G mi) pc = .ok (.tableswitch dflt lo hi offs, len)) (hi2 : ¬ (k.toInt < lo ∨ hi < k.toInt)) (ho : offs[(k.toInt - lo).toNat]? = some off) (ht : (pc : Int) + off = (tgt : Int)) : jl G X d mi pc L (.int k :: S) h = jl G X d mi tgt L S h := by
  rw [jr_tab hd]
  simp only [jv_sTab, if_neg hi2, ho, jv_jmp_of ht]
theorem jq_tabOut {dflt lo hi : Int} {offs : Array Int} {len tgt : Nat} {x : Int32} (hd : decode (jg_code G mi) pc = .ok (.tableswitch dflt lo hi offs, len)) (ho : x.toInt < lo ∨ hi < x.toInt) (ht : (pc : Int) + dflt = (tgt : Int)) : jl G X d mi pc L (.int x :: S) h = jl G X d mi tgt L S h := by
  rw [jr_tab hd]
  simp only [jv_sTab, if_pos ho, jv_jmp_of ht]
theorem jq_look {dflt : Int} {ps : Array (Int × Int)} {len tgt : Nat} {x : Int32} (hd : decode (jg_code G mi) pc = .ok (.lookupswitch dflt ps, len)) (hp : (ps.toList.zip (ps.toList.drop 1)).all (fun (a, next) => a.1 < next.1) = true) (ht : (pc : Int) + Op.lookupswitch.offset ps.toList dflt x.toInt = (tgt : Int)) : jl G X d mi pc L (.int x :: S) h = jl G X d mi tgt L S h := by
  rw [jr_look hd]
  simp only [jv_sLook, if_pos hp, jv_jmp_of ht]
end JRules2
theorem jv_cat1_int (x : Int32) : jv_cat1 (.int x) = true := rfl
theorem jv_cat1_ref (a : Nat) : jv_cat1 (.ref a) = true := rfl
theorem jv_isr_cat {v : Value} (h : jv_isr v = true) : jv_cat1 v = true := by cases v <;> first | rfl | cases h
theorem jv_cat1_rf (o : Option Nat) : jv_cat1 (va_rf o) = true := by cases o <;> rfl
