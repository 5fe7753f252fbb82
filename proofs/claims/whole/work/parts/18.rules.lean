/-! ===== rules: what the small machine does at an instruction ===== -/
noncomputable def jl (G : jv_G) (X : Nat × (Nat → Int32)) (d mi pc : Nat) (L : jv_L) (S : List Value) (h : jv_H) : Option jv_R := jv_lim G X (jv_F G X d) mi (pc, L, S, h)
/-- is it a reference or null; null or not; the same or not -/
def jv_isr (v : Value) : Bool := match v with
  | .null => true
  | .ref _ => true
  | _ => false
def jv_nl {α : Type} (v : Value) (A B : Option α) : Option α := match v with
  | .null => A
  | .ref _ => B
  | _ => none
def jv_ac {α : Type} (v w : Value) (A B : Option α) : Option α := match jv_rv v, jv_rv w with
  | some x, some y => if x = y then A else B
  | _, _ => none
theorem jv_isr_rf (o : Option Nat) : jv_isr (va_rf o) = true := by cases o <;> rfl
theorem jv_rv_rf (o : Option Nat) : jv_rv (va_rf o) = some o := by cases o <;> rfl
theorem jv_isr_ref (a : Nat) : jv_isr (.ref a) = true := rfl
theorem jv_isr_null : jv_isr .null = true := rfl
theorem jv_nl_ref {α : Type} (a : Nat) (A B : Option α) : jv_nl (.ref a) A B = B := rfl
theorem jv_nl_null {α : Type} (A B : Option α) : jv_nl .null A B = A := rfl
theorem jv_nl_rf {α : Type} (o : Option Nat) (A B : Option α) : jv_nl (va_rf o) A B = if o = none then A else B := by cases o <;> rfl
theorem va_rf_some (a : Nat) : va_rf (some a) = .ref a := rfl
theorem va_rf_none : va_rf none = .null := rfl
section JRules
variable {G : jv_G} {X : Nat × (Nat → Int32)} {d mi pc : Nat} {L : jv_L} {S : List Value} {h : jv_H}
theorem jl_ins {ins : Jvm.ClassFile.Instr} {len : Nat} (hd : decode (jg_code G mi) pc = .ok (ins, len)) : jl G X d mi pc L S h = match jv_ins G X (jv_F G X d) mi pc L S h ins len with
    | none => none
    | some (.inl r) => some r
    | some (.inr st) => jl G X d mi st.1 st.2.1 st.2.2.1 st.2.2.2 := by
  unfold jl
  rw [jv_lim_eq]
  unfold jv_one
  simp only [hd]
  rfl
theorem jl_go {ins : Jvm.ClassFile.Instr} {len pc' : Nat} {L' : jv_L} {S' : List Value} {h' : jv_H} (hd : decode (jg_code G mi) pc = .ok (ins, len)) (q : jv_ins G X (jv_F G X d) mi pc L S h ins len = some (.inr (pc', L', S', h'))) : jl G X d mi pc L S h = jl G X d mi pc' L' S' h' := by
  rw [jl_ins hd, q]
theorem jl_end {ins : Jvm.ClassFile.Instr} {len : Nat} {r : jv_R} (hd : decode (jg_code G mi) pc = .ok (ins, len)) (q : jv_ins G X (jv_F G X d) mi pc L S h ins len = some (.inl r)) : jl G X d mi pc L S h = some r := by
  rw [jl_ins hd, q]
theorem jr_iconst {n : Int} {v : Int32} (hd : decode (jg_code G mi) pc = .ok (.iconst n, 1)) (hv : Int32.ofInt n = v) : jl G X d mi pc L S h = jl G X d mi (pc + 1) L (.int v :: S) h := by subst hv; exact jl_go hd rfl
theorem jr_bipush {n : Int} {v : Int32} (hd : decode (jg_code G mi) pc = .ok (.bipush n, 2)) (hv : (Int8.ofInt n).toInt32 = v) : jl G X d mi pc L S h = jl G X d mi (pc + 2) L (.int v :: S) h := by subst hv; exact jl_go hd rfl
theorem jr_sipush {n : Int} {v : Int32} (hd : decode (jg_code G mi) pc = .ok (.sipush n, 3)) (hv : (Int16.ofInt n).toInt32 = v) : jl G X d mi pc L S h = jl G X d mi (pc + 3) L (.int v :: S) h := by subst hv; exact jl_go hd rfl
theorem jr_ldc {i : Nat} {v : Int32} (hd : decode (jg_code G mi) pc = .ok (.ldc i, 2)) (hv : jg_ldc G mi i = some v) : jl G X d mi pc L S h = jl G X d mi (pc + 2) L (.int v :: S) h := jl_go hd (by simp [jv_ins, hv, jv_go])
theorem jr_ldcw {i : Nat} {v : Int32} (hd : decode (jg_code G mi) pc = .ok (.ldc_w i, 3)) (hv : jg_ldc G mi i = some v) : jl G X d mi pc L S h = jl G X d mi (pc + 3) L (.int v :: S) h := jl_go hd (by simp [jv_ins, hv, jv_go])
theorem jr_ldc2 {i : Nat} {v : Int64} (hd : decode (jg_code G mi) pc = .ok (.ldc2_w i, 3)) (hv : jg_ldl G mi i = some v) : jl G X d mi pc L S h = jl G X d mi (pc + 3) L (.long v :: S) h := jl_go hd (by simp [jv_ins, hv, jv_go])
theorem jr_null (hd : decode (jg_code G mi) pc = .ok (.aconst_null, 1)) : jl G X d mi pc L S h = jl G X d mi (pc + 1) L (.null :: S) h := jl_go hd rfl
theorem jr_iload_n {k : Fin 4} {x : Int32} (hd : decode (jg_code G mi) pc = .ok (.iload_n k, 1)) (hl : jv_ld L k.val = some (.int x)) : jl G X d mi pc L S h = jl G X d mi (pc + 1) L (.int x :: S) h := jl_go hd (by simp [jv_ins, jv_pi, hl, jv_go])
theorem jr_iload {k : Nat} {x : Int32} (hd : decode (jg_code G mi) pc = .ok (.iload k, 2)) (hl : jv_ld L k = some (.int x)) : jl G X d mi pc L S h = jl G X d mi (pc + 2) L (.int x :: S) h := jl_go hd (by simp [jv_ins, jv_pi, hl, jv_go])
theorem jv_pa_of {k : Nat} {v : Value} (hl : jv_ld L k = some v) : jv_pa L S k = if jv_isr v = true then some (v :: S) else none := by
  unfold jv_pa
  rw [hl]
  cases v <;> rfl
theorem jr_aload_n {k : Fin 4} {v : Value} (hd : decode (jg_code G mi) pc = .ok (.aload_n k, 1)) (hl : jv_ld L k.val = some v) : jl G X d mi pc L S h = if jv_isr v = true then jl G X d mi (pc + 1) L (v :: S) h else none := by
  rw [jl_ins hd]
  simp only [jv_ins, if_true, jv_pa_of hl]
  cases jv_isr v <;> simp [jv_go]
theorem jr_aload {k : Nat} {v : Value} (hd : decode (jg_code G mi) pc = .ok (.aload k, 2)) (hl : jv_ld L k = some v) : jl G X d mi pc L S h = if jv_isr v = true then jl G X d mi (pc + 2) L (v :: S) h else none := by
  rw [jl_ins hd]
  simp only [jv_ins, if_true, jv_pa_of hl]
  cases jv_isr v <;> simp [jv_go]
theorem jr_istore_n {k : Fin 4} {x : Int32} (hd : decode (jg_code G mi) pc = .ok (.istore_n k, 1)) (hl : k.val < L.length) : jl G X d mi pc L (.int x :: S) h = jl G X d mi (pc + 1) (L.set k.val (some (.int x))) S h := jl_go hd (by simp [jv_ins, jv_si, hl, jv_gol])
theorem jr_istore {k : Nat} {x : Int32} (hd : decode (jg_code G mi) pc = .ok (.istore k, 2)) (hl : k < L.length) : jl G X d mi pc L (.int x :: S) h = jl G X d mi (pc + 2) (L.set k (some (.int x))) S h := jl_go hd (by simp [jv_ins, jv_si, hl, jv_gol])
theorem jv_sa_of {k : Nat} {v : Value} (hl : k < L.length) : jv_sa L (v :: S) k = if jv_isr v = true then some (L.set k (some v), S) else none := by
  unfold jv_sa
  cases v <;> simp [jv_isr, hl]
theorem jr_astore_n {k : Fin 4} {v : Value} (hd : decode (jg_code G mi) pc = .ok (.astore_n k, 1)) (hl : k.val < L.length) : jl G X d mi pc L (v :: S) h = if jv_isr v = true then jl G X d mi (pc + 1) (L.set k.val (some v)) S h else none := by
  rw [jl_ins hd]
  simp only [jv_ins, if_true, jv_sa_of hl]
  cases jv_isr v <;> simp [jv_gol]
theorem jr_astore {k : Nat} {v : Value} (hd : decode (jg_code G mi) pc = .ok (.astore k, 2)) (hl : k < L.length) : jl G X d mi pc L (v :: S) h = if jv_isr v = true then jl G X d mi (pc + 2) (L.set k (some v)) S h else none := by
  rw [jl_ins hd]
  simp only [jv_ins, if_true, jv_sa_of hl]
  cases jv_isr v <;> simp [jv_gol]
theorem jr_iinc {k : Nat} {n : Int} {x v : Int32} (hd : decode (jg_code G mi) pc = .ok (.iinc k n, 3)) (hl : jv_ld L k = some (.int x)) (hv : Int32.ofInt n = v) : jl G X d mi pc L S h = jl G X d mi (pc + 3) (L.set k (some (.int (x + v)))) S h := by subst hv; exact jl_go hd (by simp [jv_ins, hl])
theorem jr_iadd {x y : Int32} (hd : decode (jg_code G mi) pc = .ok (.iadd, 1)) : jl G X d mi pc L (.int y :: .int x :: S) h = jl G X d mi (pc + 1) L (.int (x + y) :: S) h := jl_go hd rfl
theorem jr_isub {x y : Int32} (hd : decode (jg_code G mi) pc = .ok (.isub, 1)) : jl G X d mi pc L (.int y :: .int x :: S) h = jl G X d mi (pc + 1) L (.int (x - y) :: S) h := jl_go hd rfl
theorem jr_imul {x y : Int32} (hd : decode (jg_code G mi) pc = .ok (.imul, 1)) : jl G X d mi pc L (.int y :: .int x :: S) h = jl G X d mi (pc + 1) L (.int (x * y) :: S) h := jl_go hd rfl
theorem jr_iand {x y : Int32} (hd : decode (jg_code G mi) pc = .ok (.iand, 1)) : jl G X d mi pc L (.int y :: .int x :: S) h = jl G X d mi (pc + 1) L (.int (x &&& y) :: S) h := jl_go hd rfl
theorem jr_ior {x y : Int32} (hd : decode (jg_code G mi) pc = .ok (.ior, 1)) : jl G X d mi pc L (.int y :: .int x :: S) h = jl G X d mi (pc + 1) L (.int (x ||| y) :: S) h := jl_go hd rfl
theorem jr_ishl {x y : Int32} (hd : decode (jg_code G mi) pc = .ok (.ishl, 1)) : jl G X d mi pc L (.int y :: .int x :: S) h = jl G X d mi (pc + 1) L (.int (x <<< (y &&& 31)) :: S) h := jl_go hd rfl
theorem jr_ishr {x y : Int32} (hd : decode (jg_code G mi) pc = .ok (.ishr, 1)) : jl G X d mi pc L (.int y :: .int x :: S) h = jl G X d mi (pc + 1) L (.int (x >>> (y &&& 31)) :: S) h := jl_go hd rfl
theorem jr_iushr {x y : Int32} (hd : decode (jg_code G mi) pc = .ok (.iushr, 1)) : jl G X d mi pc L (.int y :: .int x :: S) h = jl G X d mi (pc + 1) L (.int (jv_ush x y) :: S) h := jl_go hd rfl
theorem jr_idiv {x y : Int32} (hd : decode (jg_code G mi) pc = .ok (.idiv, 1)) : jl G X d mi pc L (.int y :: .int x :: S) h = if y = 0 then none else jl G X d mi (pc + 1) L (.int (x / y) :: S) h := by
  rw [jl_ins hd]
  by_cases hy : y = 0 <;> simp [jv_ins, jv_dv, hy, jv_go]
theorem jr_irem {x y : Int32} (hd : decode (jg_code G mi) pc = .ok (.irem, 1)) : jl G X d mi pc L (.int y :: .int x :: S) h = if y = 0 then none else jl G X d mi (pc + 1) L (.int (x - x / y * y) :: S) h := by
  rw [jl_ins hd]
  by_cases hy : y = 0 <;> simp [jv_ins, jv_dv, hy, jv_go]
theorem jr_ineg {x : Int32} (hd : decode (jg_code G mi) pc = .ok (.ineg, 1)) : jl G X d mi pc L (.int x :: S) h = jl G X d mi (pc + 1) L (.int (-x) :: S) h := jl_go hd rfl
theorem jr_i2l {x : Int32} (hd : decode (jg_code G mi) pc = .ok (.i2l, 1)) : jl G X d mi pc L (.int x :: S) h = jl G X d mi (pc + 1) L (.long x.toInt64 :: S) h := jl_go hd rfl
theorem jr_lcmp {x y : Int64} (hd : decode (jg_code G mi) pc = .ok (.lcmp, 1)) : jl G X d mi pc L (.long y :: .long x :: S) h = jl G X d mi (pc + 1) L (.int (lg_cmp x y) :: S) h := jl_go hd rfl
theorem jr_dup {v : Value} (hd : decode (jg_code G mi) pc = .ok (.dup, 1)) : jl G X d mi pc L (v :: S) h = if jv_cat1 v = true then jl G X d mi (pc + 1) L (v :: v :: S) h else none := by
  rw [jl_ins hd]
  cases hv : jv_cat1 v <;> simp [jv_ins, jv_dup, hv, jv_go]
theorem jr_pop {v : Value} (hd : decode (jg_code G mi) pc = .ok (.pop, 1)) : jl G X d mi pc L (v :: S) h = if jv_cat1 v = true then jl G X d mi (pc + 1) L S h else none := by
  rw [jl_ins hd]
  cases hv : jv_cat1 v <;> simp [jv_ins, jv_pop, hv, jv_go]
theorem jr_dup_x1 {v w : Value} (hd : decode (jg_code G mi) pc = .ok (.dup_x1, 1)) : jl G X d mi pc L (v :: w :: S) h = if (jv_cat1 v && jv_cat1 w) = true then jl G X d mi (pc + 1) L (v :: w :: v :: S) h else none := by
  rw [jl_ins hd]
  cases hv : jv_cat1 v <;> cases hw : jv_cat1 w <;> simp [jv_ins, jv_dupx1, hv, hw, jv_go]
theorem jr_dup_x2 {v w u : Value} (hd : decode (jg_code G mi) pc = .ok (.dup_x2, 1)) : jl G X d mi pc L (v :: w :: u :: S) h = if (jv_cat1 v && jv_cat1 w && jv_cat1 u) = true then jl G X d mi (pc + 1) L (v :: w :: u :: v :: S) h else none := by
  rw [jl_ins hd]
  cases hv : jv_cat1 v <;> cases hw : jv_cat1 w <;> cases hu : jv_cat1 u <;> simp [jv_ins, jv_dupx2, hv, hw, hu, jv_go]
theorem jr_dup2 {v w : Value} (hd : decode (jg_code G mi) pc = .ok (.dup2, 1)) : jl G X d mi pc L (v :: w :: S) h = if (jv_cat1 v && jv_cat1 w) = true then jl G X d mi (pc + 1) L (v :: w :: v :: w :: S) h else none := by
  rw [jl_ins hd]
  cases hv : jv_cat1 v <;> cases hw : jv_cat1 w <;> simp [jv_ins, jv_dup2, hv, hw, jv_go]
theorem jv_br_of {b : Bool} {off : Int} {tgt : Nat} (ht : (pc : Int) + off = (tgt : Int)) : jv_br b pc off L S h = some (.inr (if b = true then tgt else pc + 3, L, S, h)) := by
  unfold jv_br
  rw [ht, if_pos (Int.natCast_nonneg tgt), Int.toNat_natCast]
theorem jr_brk {b : Bool} {tgt : Nat} : jl G X d mi (if b = true then tgt else pc + 3) L S h = if b = true then jl G X d mi tgt L S h else jl G X d mi (pc + 3) L S h := by cases b <;> rfl
theorem jr_if {c : Jvm.ClassFile.Cond} {off : Int} {tgt : Nat} {x : Int32} (hd : decode (jg_code G mi) pc = .ok (.ifCond c off, 3)) (ht : (pc : Int) + off = (tgt : Int)) : jl G X d mi pc L (.int x :: S) h = if jv_c2 c x 0 = true then jl G X d mi tgt L S h else jl G X d mi (pc + 3) L S h := by
  rw [jl_ins hd]
  simp only [jv_ins, if_true, jv_sIf, jv_br_of ht]
  exact jr_brk
theorem jr_icmp {c : Jvm.ClassFile.Cond} {off : Int} {tgt : Nat} {x y : Int32} (hd : decode (jg_code G mi) pc = .ok (.if_icmp c off, 3)) (ht : (pc : Int) + off = (tgt : Int)) : jl G X d mi pc L (.int y :: .int x :: S) h = if jv_c2 c x y = true then jl G X d mi tgt L S h else jl G X d mi (pc + 3) L S h := by
  rw [jl_ins hd]
  simp only [jv_ins, if_true, jv_sIcmp, jv_br_of ht]
  exact jr_brk
theorem jr_ifnull {off : Int} {tgt : Nat} {v : Value} (hd : decode (jg_code G mi) pc = .ok (.ifnull off, 3)) (ht : (pc : Int) + off = (tgt : Int)) : jl G X d mi pc L (v :: S) h = jv_nl v (jl G X d mi tgt L S h) (jl G X d mi (pc + 3) L S h) := by
  rw [jl_ins hd]
  simp only [jv_ins, if_true, jv_sNull]
  cases v <;> simp [jv_br_of ht, jv_nl]
theorem jr_ifnonnull {off : Int} {tgt : Nat} {v : Value} (hd : decode (jg_code G mi) pc = .ok (.ifnonnull off, 3)) (ht : (pc : Int) + off = (tgt : Int)) : jl G X d mi pc L (v :: S) h = jv_nl v (jl G X d mi (pc + 3) L S h) (jl G X d mi tgt L S h) := by
  rw [jl_ins hd]
  simp only [jv_ins, if_true, jv_sNonn]
  cases v <;> simp [jv_br_of ht, jv_nl]
theorem jr_acmp_eq {off : Int} {tgt : Nat} {v w : Value} (hd : decode (jg_code G mi) pc = .ok (.if_acmp .eq off, 3)) (ht : (pc : Int) + off = (tgt : Int)) : jl G X d mi pc L (w :: v :: S) h = jv_ac v w (jl G X d mi tgt L S h) (jl G X d mi (pc + 3) L S h) := by
  rw [jl_ins hd]
  simp only [jv_ins, if_true, jv_sAcmp, jv_ac]
  cases hv : jv_rv v with
  | none => rfl
  | some x =>
    cases hw : jv_rv w with
    | none => rfl
    | some y => by_cases hxy : x = y <;> simp [jv_br_of ht, hxy]
theorem jr_acmp_ne {off : Int} {tgt : Nat} {v w : Value} (hd : decode (jg_code G mi) pc = .ok (.if_acmp .ne off, 3)) (ht : (pc : Int) + off = (tgt : Int)) : jl G X d mi pc L (w :: v :: S) h = jv_ac v w (jl G X d mi (pc + 3) L S h) (jl G X d mi tgt L S h) := by
  rw [jl_ins hd]
  simp only [jv_ins, if_true, jv_sAcmp, jv_ac]
  cases hv : jv_rv v with
  | none => rfl
  | some x =>
    cases hw : jv_rv w with
    | none => rfl
    | some y => by_cases hxy : x = y <;> simp [jv_br_of ht, hxy]
theorem jv_jmp_of {off : Int} {tgt : Nat} (ht : (pc : Int) + off = (tgt : Int)) : jv_jmp pc off L S h = some (.inr (tgt, L, S, h)) := by
  unfold jv_jmp
  rw [ht, if_pos (Int.natCast_nonneg tgt), Int.toNat_natCast]
theorem jr_goto {off : Int} {tgt : Nat} (hd : decode (jg_code G mi) pc = .ok (.goto off, 3)) (ht : (pc : Int) + off = (tgt : Int)) : jl G X d mi pc L S h = jl G X d mi tgt L S h := jl_go hd (by simp only [jv_ins, if_true]; exact jv_jmp_of ht)
theorem jr_get {i ci k : Nat} {a : Nat} (hd : decode (jg_code G mi) pc = .ok (.getfield i, 3)) (hf : jg_fld G mi i = some (ci, k)) : jl G X d mi pc L (.ref a :: S) h = (jv_get h a ci k).bind (fun v => jl G X d mi (pc + 3) L (v :: S) h) := by
  rw [jl_ins hd]
  simp only [jv_ins, if_true, hf, jv_sGet]
  cases jv_get h a ci k <;> rfl
theorem jr_put {i ci k : Nat} {a : Nat} {v : Value} (hd : decode (jg_code G mi) pc = .ok (.putfield i, 3)) (hf : jg_fld G mi i = some (ci, k)) : jl G X d mi pc L (v :: .ref a :: S) h = if jv_fty G mi ci k v = true then (jv_put h a ci k v).bind (fun h' => jl G X d mi (pc + 3) L S h') else none := by
  rw [jl_ins hd]
  simp only [jv_ins, if_true, hf, jv_sPut]
  cases jv_fty G mi ci k v
  · rfl
  · cases jv_put h a ci k v <;> rfl
theorem jr_len {a : Nat} (hd : decode (jg_code G mi) pc = .ok (.arraylength, 1)) : jl G X d mi pc L (.ref a :: S) h = (jv_len G X h a).bind (fun v => jl G X d mi (pc + 1) L (.int v :: S) h) := by
  rw [jl_ins hd]
  simp only [jv_ins, if_true, jv_alen]
  cases jv_len G X h a <;> rfl
/-- an int of an array, or of the script -/
def jv_rdi (X : Nat × (Nat → Int32)) (h : jv_H) (a : Nat) (i : Int32) : Option Int32 := match a with
  | 0 => if jv_out i X.1 = false then some (X.2 i.toNatClampNeg) else none
  | a + 1 => jv_ald h 0 (a + 1) i
theorem jr_iald {a : Nat} {i : Int32} (hd : decode (jg_code G mi) pc = .ok (.iaload, 1)) : jl G X d mi pc L (.int i :: .ref a :: S) h = (jv_rdi X h a i).bind (fun v => jl G X d mi (pc + 1) L (.int v :: S) h) := by
  rw [jl_ins hd]
  simp only [jv_ins, if_true]
  cases a with
  | zero =>
    simp only [jv_sIalo, jv_rdi]
    cases jv_out i X.1 <;> simp [jv_go]
  | succ a =>
    simp only [jv_sIalo, jv_rdi]
    cases jv_ald h 0 (a + 1) i <;> rfl
theorem jr_bald {a : Nat} {i : Int32} (hd : decode (jg_code G mi) pc = .ok (.baload, 1)) : jl G X d mi pc L (.int i :: .ref a :: S) h = (jv_ald h 1 a i).bind (fun v => jl G X d mi (pc + 1) L (.int v :: S) h) := by
  rw [jl_ins hd]
  simp only [jv_ins, if_true, jv_sBalo]
  cases jv_ald h 1 a i <;> rfl
theorem jr_aald {a : Nat} {i : Int32} (hd : decode (jg_code G mi) pc = .ok (.aaload, 1)) : jl G X d mi pc L (.int i :: .ref a :: S) h = (jv_rld G h a i).bind (fun v => jl G X d mi (pc + 1) L (va_rf v :: S) h) := by
  rw [jl_ins hd]
  simp only [jv_ins, if_true, jv_sAalo]
  cases jv_rld G h a i <;> rfl
theorem jr_iast {a : Nat} {i x : Int32} (hd : decode (jg_code G mi) pc = .ok (.iastore, 1)) : jl G X d mi pc L (.int x :: .int i :: .ref a :: S) h = (jv_ast h 0 a i x).bind (fun h' => jl G X d mi (pc + 1) L S h') := by
  rw [jl_ins hd]
  simp only [jv_ins, if_true, jv_sIast]
  cases jv_ast h 0 a i x <;> rfl
theorem jr_bast {a : Nat} {i x : Int32} (hd : decode (jg_code G mi) pc = .ok (.bastore, 1)) : jl G X d mi pc L (.int x :: .int i :: .ref a :: S) h = if x = 0 ∨ x = 1 then (jv_ast h 1 a i x).bind (fun h' => jl G X d mi (pc + 1) L S h') else none := by
  rw [jl_ins hd]
  simp only [jv_ins, if_true, jv_sBast]
  by_cases hx : x = 0 ∨ x = 1
  · rw [if_pos hx, if_pos hx]
    cases jv_ast h 1 a i x <;> rfl
  · rw [if_neg hx, if_neg hx]
theorem jr_aast {a : Nat} {i : Int32} {v : Value} (hd : decode (jg_code G mi) pc = .ok (.aastore, 1)) : jl G X d mi pc L (v :: .int i :: .ref a :: S) h = (jv_rv v).bind (fun o => (jv_rst G h a i o).bind (fun h' => jl G X d mi (pc + 1) L S h')) := by
  rw [jl_ins hd]
  simp only [jv_ins, if_true, jv_sAast]
  cases v <;> simp only [jv_rv, Option.bind_none, Option.bind_some]
  · cases jv_rst G h a i none <;> rfl
  · rename_i a2
    cases jv_rst G h a i (some a2) <;> rfl
theorem jr_newi {n : Int32} (hd : decode (jg_code G mi) pc = .ok (.newarray .int, 2)) : jl G X d mi pc L (.int n :: S) h = (jv_newi h 0 n).bind (fun h' => jl G X d mi (pc + 2) L (.ref (h.1 + 1) :: S) h') := by
  rw [jl_ins hd]
  simp only [jv_ins, if_true, jv_sNewi]
  cases jv_newi h 0 n <;> rfl
theorem jr_newz {n : Int32} (hd : decode (jg_code G mi) pc = .ok (.newarray .boolean, 2)) : jl G X d mi pc L (.int n :: S) h = (jv_newi h 1 n).bind (fun h' => jl G X d mi (pc + 2) L (.ref (h.1 + 1) :: S) h') := by
  rw [jl_ins hd]
  simp only [jv_ins, if_true, jv_sNewi]
  cases jv_newi h 1 n <;> rfl
theorem jr_newr {i t : Nat} {n : Int32} (hd : decode (jg_code G mi) pc = .ok (.anewarray i, 3)) (ht : jg_anw G mi i = some t) : jl G X d mi pc L (.int n :: S) h = (jv_newr h t n).bind (fun h' => jl G X d mi (pc + 3) L (.ref (h.1 + 1) :: S) h') := by
  rw [jl_ins hd]
  simp only [jv_ins, if_true, ht, jv_sNewr]
  cases jv_newr h t n <;> rfl
theorem jr_new {i ci : Nat} (hd : decode (jg_code G mi) pc = .ok (.new i, 3)) (ht : jg_new G mi i = some ci) : jl G X d mi pc L S h = (jv_newo G h ci).bind (fun h' => jl G X d mi (pc + 3) L (.ref (h.1 + 1) :: S) h') := by
  rw [jl_ins hd]
  simp only [jv_ins, if_true, ht, jv_sNew]
  cases jv_newo G h ci <;> rfl
theorem jr_objInit {i y n a : Nat} (hd : decode (jg_code G mi) pc = .ok (.invokespecial i, 3)) (hi : jg_inv G mi i = some (3, y, n)) (hc : jv_cats S ≤ 8) : jl G X d mi pc L (.ref a :: S) h = jl G X d mi (pc + 3) L S h := jl_go hd (by simp [jv_ins, hi, jv_c0, hc])
theorem jr_cS {i y n : Nat} {as rest : List Value} (hd : decode (jg_code G mi) pc = .ok (.invokestatic i, 3)) (hi : jg_inv G mi i = some (1, y, n)) (hn : as.length = n) (hc : jv_cats rest ≤ 8) : jl G X d mi pc L (as.reverse ++ rest) h = (jv_F G X d y as h).bind (fun q => jl G X d mi (pc + 3) L (q.1.toList ++ rest) q.2) := by
  subst hn
  rw [jl_ins hd]
  have h1 : (as.reverse ++ rest).drop as.length = rest := by rw [← List.length_reverse, List.drop_left]
  have h2 : ((as.reverse ++ rest).take as.length).reverse = as := by rw [← List.length_reverse, List.take_left, List.reverse_reverse]
  have h3 : as.length ≤ (as.reverse ++ rest).length := by simp
  simp only [jv_ins, if_true, hi, jv_cS, h1, h2, h3, hc, and_self]
  cases jv_F G X d y as h <;> rfl
theorem jr_cI {i y n a : Nat} {as rest : List Value} (hd : decode (jg_code G mi) pc = .ok (.invokespecial i, 3)) (hi : jg_inv G mi i = some (2, y, n)) (hn : as.length = n) (hc : jv_cats rest ≤ 8) : jl G X d mi pc L (as.reverse ++ .ref a :: rest) h = (jv_F G X d y (.ref a :: as) h).bind (fun q => jl G X d mi (pc + 3) L (q.1.toList ++ rest) q.2) := by
  subst hn
  rw [jl_ins hd]
  have h1 : (as.reverse ++ .ref a :: rest).drop as.length = .ref a :: rest := by rw [← List.length_reverse, List.drop_left]
  have h2 : ((as.reverse ++ .ref a :: rest).take as.length).reverse = as := by rw [← List.length_reverse, List.take_left, List.reverse_reverse]
  simp only [jv_ins, if_true, hi, jv_cI, h1, h2, hc]
  cases jv_F G X d y (.ref a :: as) h <;> rfl
theorem jr_cV {i y n a : Nat} {as rest : List Value} (hd : decode (jg_code G mi) pc = .ok (.invokevirtual i, 3)) (hi : jg_inv G mi i = some (0, y, n)) (hn : as.length = n) (hc : jv_cats rest ≤ 8) : jl G X d mi pc L (as.reverse ++ .ref a :: rest) h = if jv_isC h (jg_mc G y) (some a) = true then (jv_F G X d y (.ref a :: as) h).bind (fun q => jl G X d mi (pc + 3) L (q.1.toList ++ rest) q.2) else none := by
  subst hn
  rw [jl_ins hd]
  have h1 : (as.reverse ++ .ref a :: rest).drop as.length = .ref a :: rest := by rw [← List.length_reverse, List.drop_left]
  have h2 : ((as.reverse ++ .ref a :: rest).take as.length).reverse = as := by rw [← List.length_reverse, List.take_left, List.reverse_reverse]
  simp only [jv_ins, if_true, hi, jv_cV, h1, h2, hc, true_and]
  cases jv_isC h (jg_mc G y) (some a)
  · rfl
  · cases jv_F G X d y (.ref a :: as) h <;> rfl
theorem jr_ireti {v : Int32} (hd : decode (jg_code G mi) pc = .ok (.ireturn, 1)) (hr : jg_ret G mi = some .int) : jl G X d mi pc L [.int v] h = some (some (.int v), h) := jl_end hd (by simp [jv_ins, hr, jv_iret])
theorem jr_iretz {v : Int32} (hd : decode (jg_code G mi) pc = .ok (.ireturn, 1)) (hr : jg_ret G mi = some .boolean) : jl G X d mi pc L [.int v] h = if v = 0 ∨ v = 1 then some (some (.int v), h) else none := by
  rw [jl_ins hd]
  simp only [jv_ins, if_true, hr, jv_iret]
  by_cases hv : v = 0 ∨ v = 1 <;> simp [hv]
theorem jr_lret {v : Int64} (hd : decode (jg_code G mi) pc = .ok (.lreturn, 1)) (hr : jg_ret G mi = some .long) : jl G X d mi pc L [.long v] h = some (some (.long v), h) := jl_end hd (by simp [jv_ins, hr, jv_lret])
theorem jr_aret {v : Value} {C : String} (hd : decode (jg_code G mi) pc = .ok (.areturn, 1)) (hr : jg_ret G mi = some (.object C)) : jl G X d mi pc L [v] h = if jv_isr v = true then some (some v, h) else none := by
  rw [jl_ins hd]
  simp only [jv_ins, if_true, hr]
  cases v <;> rfl
theorem jr_vret (hd : decode (jg_code G mi) pc = .ok (.return_, 1)) (hr : jg_ret G mi = none) : jl G X d mi pc L [] h = some (none, h) := jl_end hd (by simp [jv_ins, hr, jv_vret])
theorem jr_tab {dflt lo hi : Int} {offs : Array Int} {len : Nat} {x : Int32} (hd : decode (jg_code G mi) pc = .ok (.tableswitch dflt lo hi offs, len)) : jl G X d mi pc L (.int x :: S) h = match jv_sTab dflt lo hi offs pc L (.int x :: S) h with
    | none => none
    | some (.inl r) => some r
    | some (.inr st) => jl G X d mi st.1 st.2.1 st.2.2.1 st.2.2.2 := jl_ins hd
theorem jr_look {dflt : Int} {ps : Array (Int × Int)} {len : Nat} {x : Int32} (hd : decode (jg_code G mi) pc = .ok (.lookupswitch dflt ps, len)) : jl G X d mi pc L (.int x :: S) h = match jv_sLook dflt ps pc L (.int x :: S) h with
    | none => none
    | some (.inl r) => some r
    | some (.inr st) => jl G X d mi st.1 st.2.1 st.2.2.1 st.2.2.2 := jl_ins hd
theorem jr_entry {as : List Value} (hc : as.all jv_cat1 = true) (hn : as.length ≤ jg_maxL G mi) : jv_F G X (d + 1) mi as h = jl G X d mi 0 (as.map some ++ List.replicate (jg_maxL G mi - as.length) none) [] h := by
  show (if as.all jv_cat1 = true ∧ as.length ≤ jg_maxL G mi then _ else none) = _
  rw [if_pos ⟨hc, hn⟩]
  rfl
end JRules
