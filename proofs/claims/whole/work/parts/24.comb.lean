/-! ===== how a run goes on with what an instruction gave: no function under which a rewriting could go ===== -/
noncomputable def kV (o : Option Value) (X : Nat × (Nat → Int32)) (d mi pc : Nat) (L : jv_L) (S : List Value) (h : jv_H) : Option jv_R := o.bind (fun v => jl gw X d mi pc L (v :: S) h)
noncomputable def kI (o : Option Int32) (X : Nat × (Nat → Int32)) (d mi pc : Nat) (L : jv_L) (S : List Value) (h : jv_H) : Option jv_R := o.bind (fun v => jl gw X d mi pc L (.int v :: S) h)
noncomputable def kR (o : Option (Option Nat)) (X : Nat × (Nat → Int32)) (d mi pc : Nat) (L : jv_L) (S : List Value) (h : jv_H) : Option jv_R := o.bind (fun v => jl gw X d mi pc L (va_rf v :: S) h)
noncomputable def kH (o : Option jv_H) (X : Nat × (Nat → Int32)) (d mi pc : Nat) (L : jv_L) (S : List Value) : Option jv_R := o.bind (fun h => jl gw X d mi pc L S h)
noncomputable def kC (o : Option jv_R) (X : Nat × (Nat → Int32)) (d mi pc : Nat) (L : jv_L) (S : List Value) : Option jv_R := o.bind (fun q => jl gw X d mi pc L (q.1.toList ++ S) q.2)
section KS
variable {X : Nat × (Nat → Int32)} {d mi pc : Nat} {L : jv_L} {S : List Value} {h : jv_H}
theorem kV_some {v : Value} : kV (some v) X d mi pc L S h = jl gw X d mi pc L (v :: S) h := rfl
theorem kI_some {v : Int32} : kI (some v) X d mi pc L S h = jl gw X d mi pc L (.int v :: S) h := rfl
theorem kR_some {v : Nat} : kR (some (some v)) X d mi pc L S h = jl gw X d mi pc L (.ref v :: S) h := rfl
theorem kR_any {v : Option Nat} : kR (some v) X d mi pc L S h = jl gw X d mi pc L (va_rf v :: S) h := rfl
theorem kH_some : kH (some h) X d mi pc L S = jl gw X d mi pc L S h := rfl
theorem kC_none : kC (some (none, h)) X d mi pc L S = jl gw X d mi pc L S h := rfl
theorem kC_some {v : Value} : kC (some (some v, h)) X d mi pc L S = jl gw X d mi pc L (v :: S) h := rfl
end KS
def jv_rsv (h : jv_H) (a : Nat) (x : Int32) (v : Value) : Option jv_H := (jv_rv v).bind (fun o => jv_rst gw h a x o)
theorem jv_rsv_ref {h : jv_H} {a p : Nat} {x : Int32} : jv_rsv h a x (.ref p) = jv_rst gw h a x (some p) := rfl
theorem jv_rsv_rf {h : jv_H} {a : Nat} {x : Int32} {o : Option Nat} : jv_rsv h a x (va_rf o) = jv_rst gw h a x o := by cases o <;> rfl
def jv_nz (v : Value) : Nat := match v with
  | .null => 0
  | .ref _ => 1
  | _ => 2
theorem jv_nl_nz {α : Type} (v : Value) (A B : Option α) : jv_nl v A B = if jv_nz v = 0 then A else if jv_nz v = 1 then B else none := by cases v <;> rfl
theorem jv_nz_ref (a : Nat) : jv_nz (.ref a) = 1 := rfl
theorem jv_nz_null : jv_nz .null = 0 := rfl
theorem jv_nz_rf0 (o : Option Nat) : (jv_nz (va_rf o) = 0) = (o = none) := by cases o <;> simp [va_rf, jv_nz]
theorem jv_nz_rf1 (o : Option Nat) : (jv_nz (va_rf o) = 1) = ¬ (o = none) := by cases o <;> simp [va_rf, jv_nz]
def jv_rq (v w : Value) : Nat := match jv_rv v, jv_rv w with
  | some x, some y => if x = y then 1 else 0
  | _, _ => 2
theorem jv_ac_rq {α : Type} (v w : Value) (A B : Option α) : jv_ac v w A B = if jv_rq v w = 1 then A else if jv_rq v w = 0 then B else none := by
  unfold jv_ac jv_rq
  cases jv_rv v with
  | none => rfl
  | some x =>
    cases jv_rv w with
    | none => rfl
    | some y => by_cases h : x = y <;> simp [h]
theorem jv_rq_r1 (a b : Nat) : (jv_rq (.ref a) (.ref b) = 1) = (a = b) := by
  unfold jv_rq jv_rv
  by_cases h : a = b <;> simp [h]
theorem jv_rq_r0 (a b : Nat) : (jv_rq (.ref a) (.ref b) = 0) = ¬ (a = b) := by
  unfold jv_rq jv_rv
  by_cases h : a = b <;> simp [h]
theorem n10 : ((1 : Nat) = 0) = False := eq_false (by decide)
theorem n11 : ((1 : Nat) = 1) = True := eq_true rfl
theorem n00 : ((0 : Nat) = 0) = True := eq_true rfl
