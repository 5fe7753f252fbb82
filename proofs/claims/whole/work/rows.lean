section
/-! ===== A SMALL MACHINE over numbered places: the same bytes, the heap as a function, no addresses. Place 0 is the script; place k + 1 is the k-th cell made ===== -/
abbrev jv_C : Type := (Nat × Nat × ((Nat → Int32) ⊕ (Nat → Option Nat))) ⊕ (Nat × List Value)
abbrev jv_H : Type := Nat × Nat × (Nat → jv_C)
abbrev jv_L : Type := List (Option Value)
abbrev jv_S : Type := Nat × jv_L × List Value × jv_H
abbrev jv_R : Type := Option Value × jv_H
abbrev jv_M : Type := MethodName × ByteArray × Nat × Option FieldType × Nat × Nat × Nat
/-- a program: methods; fields, calls, classes, array types, constants by method and pool index; classes with their fields' types; array types; words; words of nest mates -/
abbrev jv_G : Type := (Nat → jv_M) × (Nat → Nat → Option (Nat × Nat)) × (Nat → Nat → Option (Nat × Nat × Nat)) × (Nat → Nat → Option Nat) × (Nat → Nat → Option Nat) × (Nat → Nat → Option Int32) × (Nat → Nat → Option Int64) × (List (vw_C × (Nat → FieldType))) × (List (FieldType × Nat)) × List Cond × List Cond
def jg_y (G : jv_G) (i : Nat) : MethodName := (G.1 i).1
def jg_code (G : jv_G) (i : Nat) : ByteArray := (G.1 i).2.1
def jg_maxL (G : jv_G) (i : Nat) : Nat := (G.1 i).2.2.1
def jg_ret (G : jv_G) (i : Nat) : Option FieldType := (G.1 i).2.2.2.1
/-- the number of a method's class -/
def jg_mc (G : jv_G) (i : Nat) : Nat := (G.1 i).2.2.2.2.1
/-- frames and locals' words beyond its own that a method may need -/
def jg_fr (G : jv_G) (i : Nat) : Nat := (G.1 i).2.2.2.2.2.1
def jg_lo (G : jv_G) (i : Nat) : Nat := (G.1 i).2.2.2.2.2.2
def jg_own (G : jv_G) (i : Nat) : String := (jg_y G i).cls
def jg_fld (G : jv_G) : Nat → Nat → Option (Nat × Nat) := G.2.1
def jg_inv (G : jv_G) : Nat → Nat → Option (Nat × Nat × Nat) := G.2.2.1
def jg_new (G : jv_G) : Nat → Nat → Option Nat := G.2.2.2.1
def jg_anw (G : jv_G) : Nat → Nat → Option Nat := G.2.2.2.2.1
def jg_ldc (G : jv_G) : Nat → Nat → Option Int32 := G.2.2.2.2.2.1
def jg_ldl (G : jv_G) : Nat → Nat → Option Int64 := G.2.2.2.2.2.2.1
def jg_cls (G : jv_G) : List (vw_C × (Nat → FieldType)) := G.2.2.2.2.2.2.2.1
def jg_tys (G : jv_G) : List (FieldType × Nat) := G.2.2.2.2.2.2.2.2.1
def jg_ws (G : jv_G) : List Cond := G.2.2.2.2.2.2.2.2.2.1
def jg_nw (G : jv_G) : List Cond := G.2.2.2.2.2.2.2.2.2.2
def jg_cl (G : jv_G) : List vw_C := (jg_cls G).map (fun q => q.1)
/-- the cell that a place holds which isn't made -/
def jv_no : jv_C := .inr (999, [])
def jv_wf (h : jv_H) : Prop := ∀ a, (a = 0 ∨ h.1 < a) → h.2.2 a = jv_no
def jv_get (h : jv_H) (a ci k : Nat) : Option Value := match h.2.2 a with
  | .inr (c, fs) => if c = ci then fs[k]? else none
  | .inl _ => none
def jv_put (h : jv_H) (a ci k : Nat) (v : Value) : Option jv_H := match h.2.2 a with
  | .inr (c, fs) => if c = ci ∧ k < fs.length then some (h.1, h.2.1, va_up h.2.2 a (.inr (c, fs.set k v))) else none
  | .inl _ => none
def jv_out (i : Int32) (n : Nat) : Bool := decide (i < 0 ∨ n ≤ i.toNatClampNeg)
/-- an element of an array of ints (type number t: 0 ints, 1 booleans) -/
def jv_ald (h : jv_H) (t a : Nat) (i : Int32) : Option Int32 := match h.2.2 a with
  | .inl (u, n, .inl f) => if u = t ∧ jv_out i n = false then some (f i.toNatClampNeg) else none
  | _ => none
def jv_ast (h : jv_H) (t a : Nat) (i x : Int32) : Option jv_H := match h.2.2 a with
  | .inl (u, n, .inl f) => if u = t ∧ jv_out i n = false then some (h.1, h.2.1, va_up h.2.2 a (.inl (u, n, .inl (va_up f i.toNatClampNeg x)))) else none
  | _ => none
def jv_rld (G : jv_G) (h : jv_H) (a : Nat) (i : Int32) : Option (Option Nat) := match h.2.2 a with
  | .inl (u, n, .inr f) => if jv_out i n = false ∧ 2 ≤ u ∧ u < (jg_tys G).length then some (f i.toNatClampNeg) else none
  | _ => none
def jv_isC (h : jv_H) (ci : Nat) (v : Option Nat) : Bool := match v with
  | none => true
  | some a => match h.2.2 a with
    | .inr (c, _) => decide (c = ci)
    | .inl _ => false
def jv_rst (G : jv_G) (h : jv_H) (a : Nat) (i : Int32) (v : Option Nat) : Option jv_H := match h.2.2 a with
  | .inl (u, n, .inr f) => if jv_out i n = false ∧ 2 ≤ u ∧ (match (jg_tys G)[u]? with | some q => jv_isC h q.2 v | none => false) = true then some (h.1, h.2.1, va_up h.2.2 a (.inl (u, n, .inr (va_up f i.toNatClampNeg v)))) else none
  | _ => none
def jv_len (G : jv_G) (X : Nat × (Nat → Int32)) (h : jv_H) (a : Nat) : Option Int32 := match a with
  | 0 => some (Int32.ofNat X.1)
  | a + 1 => match h.2.2 (a + 1) with
    | .inl (u, n, _) => if u < (jg_tys G).length then some (Int32.ofNat n) else none
    | .inr _ => none
def jv_def (ty : FieldType) : Value := defaultValue ty
def jv_newo (G : jv_G) (h : jv_H) (ci : Nat) : Option jv_H := match (jg_cls G)[ci]? with
  | some q => some (h.1 + 1, h.2.1 + q.1.2.2, va_up h.2.2 (h.1 + 1) (.inr (ci, (List.range q.1.2.2).map (fun k => jv_def (q.2 k)))))
  | none => none
def jv_newi (h : jv_H) (t : Nat) (n : Int32) : Option jv_H :=
  if n < 0 ∨ 1000 < n.toNatClampNeg then none else some (h.1 + 1, h.2.1 + n.toNatClampNeg, va_up h.2.2 (h.1 + 1) (.inl (t, n.toNatClampNeg, .inl (fun _ => 0))))
def jv_newr (h : jv_H) (t : Nat) (n : Int32) : Option jv_H :=
  if n < 0 ∨ 1000 < n.toNatClampNeg then none else some (h.1 + 1, h.2.1 + n.toNatClampNeg, va_up h.2.2 (h.1 + 1) (.inl (t, n.toNatClampNeg, .inr (fun _ => none))))
/-- the stack and the locals -/
def jv_bin (f : Int32 → Int32 → Int32) (S : List Value) : Option (List Value) := match S with
  | .int y :: .int x :: r => some (.int (f x y) :: r)
  | _ => none
def jv_dv (f : Int32 → Int32 → Int32) (S : List Value) : Option (List Value) := match S with
  | .int y :: .int x :: r => if y = 0 then none else some (.int (f x y) :: r)
  | _ => none
def jv_ld (L : jv_L) (k : Nat) : Option Value := match L[k]? with
  | some (some v) => some v
  | _ => none
def jv_pi (L : jv_L) (S : List Value) (k : Nat) : Option (List Value) := match jv_ld L k with
  | some (.int x) => some (.int x :: S)
  | _ => none
def jv_rv (v : Value) : Option (Option Nat) := match v with
  | .null => some none
  | .ref a => some (some a)
  | _ => none
def jv_pa (L : jv_L) (S : List Value) (k : Nat) : Option (List Value) := match jv_ld L k with
  | some .null => some (.null :: S)
  | some (.ref a) => some (.ref a :: S)
  | _ => none
def jv_si (L : jv_L) (S : List Value) (k : Nat) : Option (jv_L × List Value) := match S with
  | .int x :: r => if k < L.length then some (L.set k (some (.int x)), r) else none
  | _ => none
def jv_sa (L : jv_L) (S : List Value) (k : Nat) : Option (jv_L × List Value) := match S with
  | .null :: r => if k < L.length then some (L.set k (some .null), r) else none
  | .ref a :: r => if k < L.length then some (L.set k (some (.ref a)), r) else none
  | _ => none
def jv_go (pc : Nat) (L : jv_L) (h : jv_H) (o : Option (List Value)) : Option (jv_R ⊕ jv_S) := match o with
  | some S => some (.inr (pc, L, S, h))
  | none => none
def jv_gol (pc : Nat) (h : jv_H) (o : Option (jv_L × List Value)) : Option (jv_R ⊕ jv_S) := match o with
  | some q => some (.inr (pc, q.1, q.2, h))
  | none => none
def jv_goh (pc : Nat) (L : jv_L) (S : List Value) (o : Option jv_H) : Option (jv_R ⊕ jv_S) := match o with
  | some h => some (.inr (pc, L, S, h))
  | none => none
def jv_jmp (pc : Nat) (off : Int) (L : jv_L) (S : List Value) (h : jv_H) : Option (jv_R ⊕ jv_S) := if 0 ≤ (pc : Int) + off then some (.inr (((pc : Int) + off).toNat, L, S, h)) else none
def jv_br (b : Bool) (pc : Nat) (off : Int) (L : jv_L) (S : List Value) (h : jv_H) : Option (jv_R ⊕ jv_S) := if 0 ≤ (pc : Int) + off then some (.inr (if b then ((pc : Int) + off).toNat else pc + 3, L, S, h)) else none
def jv_c2 (c : Jvm.ClassFile.Cond) (x y : Int32) : Bool := match c with
  | .eq => decide (x = y)
  | .ne => decide (¬ x = y)
  | .lt => decide (x < y)
  | .ge => decide (y ≤ x)
  | .gt => decide (y < x)
  | .le => decide (x ≤ y)
def jv_cat1 (v : Value) : Bool := decide (v.category = 1)
def jv_fit (ty : FieldType) (v : Value) : Bool := match ty, v with
  | .int, .int _ => true
  | .boolean, .int x => decide (x = 0 ∨ x = 1)
  | .object _, .null => true
  | .object _, .ref _ => true
  | .array _, .null => true
  | .array _, .ref _ => true
  | _, _ => false
def jv_done (pc : Nat) (L : jv_L) (rest : List Value) (o : Option jv_R) : Option (jv_R ⊕ jv_S) := match o with
  | some q => some (.inr (pc + 3, L, q.1.toList ++ rest, q.2))
  | none => none
def jv_cats (S : List Value) : Nat := (S.map fun v => v.category).sum
/-- calls: of an object's method, of a static one, of a constructor -/
def jv_cV (G : jv_G) (call : Nat → List Value → jv_H → Option jv_R) (pc : Nat) (L : jv_L) (S : List Value) (h : jv_H) (mi n : Nat) : Option (jv_R ⊕ jv_S) := match S.drop n with
  | .ref a :: rest => if jv_cats rest ≤ 8 ∧ jv_isC h (jg_mc G mi) (some a) = true then jv_done pc L rest (call mi (.ref a :: (S.take n).reverse) h) else none
  | _ => none
def jv_cS (call : Nat → List Value → jv_H → Option jv_R) (pc : Nat) (L : jv_L) (S : List Value) (h : jv_H) (mi n : Nat) : Option (jv_R ⊕ jv_S) :=
  if n ≤ S.length ∧ jv_cats (S.drop n) ≤ 8 then jv_done pc L (S.drop n) (call mi (S.take n).reverse h) else none
def jv_cI (call : Nat → List Value → jv_H → Option jv_R) (pc : Nat) (L : jv_L) (S : List Value) (h : jv_H) (mi n : Nat) : Option (jv_R ⊕ jv_S) := match S.drop n with
  | .ref a :: rest => if jv_cats rest ≤ 8 then jv_done pc L rest (call mi (.ref a :: (S.take n).reverse) h) else none
  | _ => none
def jv_c0 (pc : Nat) (L : jv_L) (S : List Value) (h : jv_H) : Option (jv_R ⊕ jv_S) := match S with
  | .ref _ :: rest => if jv_cats rest ≤ 8 then some (.inr (pc + 3, L, rest, h)) else none
  | _ => none
def jv_iret (ty : Option FieldType) (S : List Value) (h : jv_H) : Option (jv_R ⊕ jv_S) := match ty, S with
  | some .int, [.int v] => some (.inl (some (.int v), h))
  | some .boolean, [.int v] => if v = 0 ∨ v = 1 then some (.inl (some (.int v), h)) else none
  | _, _ => none
def jv_lret (ty : Option FieldType) (S : List Value) (h : jv_H) : Option (jv_R ⊕ jv_S) := match ty, S with
  | some .long, [.long v] => some (.inl (some (.long v), h))
  | _, _ => none
def jv_aret (ty : Option FieldType) (S : List Value) (h : jv_H) : Option (jv_R ⊕ jv_S) := match ty, S with
  | some (.object _), [.null] => some (.inl (some .null, h))
  | some (.object _), [.ref a] => some (.inl (some (.ref a), h))
  | _, _ => none
def jv_vret (ty : Option FieldType) (S : List Value) (h : jv_H) : Option (jv_R ⊕ jv_S) := match ty, S with
  | none, [] => some (.inl (none, h))
  | _, _ => none
def jv_sIalo (X : Nat × (Nat → Int32)) (h : jv_H) (S : List Value) : Option (List Value) := match S with
  | .int i :: .ref 0 :: r => if jv_out i X.1 = false then some (.int (X.2 i.toNatClampNeg) :: r) else none
  | .int i :: .ref (a + 1) :: r => match jv_ald h 0 (a + 1) i with
    | some x => some (.int x :: r)
    | none => none
  | _ => none
def jv_sBalo (h : jv_H) (S : List Value) : Option (List Value) := match S with
  | .int i :: .ref a :: r => match jv_ald h 1 a i with
    | some x => some (.int x :: r)
    | none => none
  | _ => none
def jv_sAalo (G : jv_G) (h : jv_H) (S : List Value) : Option (List Value) := match S with
  | .int i :: .ref a :: r => match jv_rld G h a i with
    | some v => some (va_rf v :: r)
    | none => none
  | _ => none
def jv_sIast (pc : Nat) (L : jv_L) (h : jv_H) (S : List Value) : Option (jv_R ⊕ jv_S) := match S with
  | .int x :: .int i :: .ref a :: r => jv_goh (pc + 1) L r (jv_ast h 0 a i x)
  | _ => none
def jv_sBast (pc : Nat) (L : jv_L) (h : jv_H) (S : List Value) : Option (jv_R ⊕ jv_S) := match S with
  | .int x :: .int i :: .ref a :: r => if x = 0 ∨ x = 1 then jv_goh (pc + 1) L r (jv_ast h 1 a i x) else none
  | _ => none
def jv_sAast (G : jv_G) (pc : Nat) (L : jv_L) (h : jv_H) (S : List Value) : Option (jv_R ⊕ jv_S) := match S with
  | .null :: .int i :: .ref a :: r => jv_goh (pc + 1) L r (jv_rst G h a i none)
  | .ref v :: .int i :: .ref a :: r => jv_goh (pc + 1) L r (jv_rst G h a i (some v))
  | _ => none
def jv_sGet (G : jv_G) (h : jv_H) (q : Option (Nat × Nat)) (S : List Value) : Option (List Value) := match q, S with
  | some (ci, k), .ref a :: r => match jv_get h a ci k with
    | some v => some (v :: r)
    | none => none
  | _, _ => none
/-- may v be put into field k of class ci, by method mi -/
def jv_fty (G : jv_G) (mi ci k : Nat) (v : Value) : Bool := match (jg_cls G)[ci]? with
  | some q => jv_fit (q.2 k) v && (!(q.1.2.1 k).2.2.2 || (decide ((jg_y G mi).name = "<init>") && decide ((q.1.2.1 k).1 = jg_own G mi)))
  | none => false
def jv_sPut (G : jv_G) (mi pc : Nat) (L : jv_L) (h : jv_H) (q : Option (Nat × Nat)) (S : List Value) : Option (jv_R ⊕ jv_S) := match q, S with
  | some (ci, k), v :: .ref a :: r => if jv_fty G mi ci k v = true then jv_goh (pc + 3) L r (jv_put h a ci k v) else none
  | _, _ => none
def jv_dup (S : List Value) : Option (List Value) := match S with
  | v :: r => if jv_cat1 v then some (v :: v :: r) else none
  | _ => none
def jv_pop (S : List Value) : Option (List Value) := match S with
  | v :: r => if jv_cat1 v then some r else none
  | _ => none
def jv_dupx1 (S : List Value) : Option (List Value) := match S with
  | v :: w :: r => if jv_cat1 v && jv_cat1 w then some (v :: w :: v :: r) else none
  | _ => none
def jv_dupx2 (S : List Value) : Option (List Value) := match S with
  | v :: w :: u :: r => if jv_cat1 v && jv_cat1 w && jv_cat1 u then some (v :: w :: u :: v :: r) else none
  | _ => none
def jv_dup2 (S : List Value) : Option (List Value) := match S with
  | v :: w :: r => if jv_cat1 v && jv_cat1 w then some (v :: w :: v :: w :: r) else none
  | _ => none
def jv_neg (S : List Value) : Option (List Value) := match S with
  | .int x :: r => some (.int (-x) :: r)
  | _ => none
def jv_i2l (S : List Value) : Option (List Value) := match S with
  | .int x :: r => some (.long x.toInt64 :: r)
  | _ => none
def jv_lcmp (S : List Value) : Option (List Value) := match S with
  | .long y :: .long x :: r => some (.int (lg_cmp x y) :: r)
  | _ => none
def jv_alen (G : jv_G) (X : Nat × (Nat → Int32)) (h : jv_H) (S : List Value) : Option (List Value) := match S with
  | .ref a :: r => match jv_len G X h a with
    | some v => some (.int v :: r)
    | none => none
  | _ => none
def jv_sIf (c : Jvm.ClassFile.Cond) (pc : Nat) (off : Int) (L : jv_L) (S : List Value) (h : jv_H) : Option (jv_R ⊕ jv_S) := match S with
  | .int x :: r => jv_br (jv_c2 c x 0) pc off L r h
  | _ => none
def jv_sIcmp (c : Jvm.ClassFile.Cond) (pc : Nat) (off : Int) (L : jv_L) (S : List Value) (h : jv_H) : Option (jv_R ⊕ jv_S) := match S with
  | .int y :: .int x :: r => jv_br (jv_c2 c x y) pc off L r h
  | _ => none
def jv_sNull (pc : Nat) (off : Int) (L : jv_L) (S : List Value) (h : jv_H) : Option (jv_R ⊕ jv_S) := match S with
  | .null :: r => jv_br true pc off L r h
  | .ref _ :: r => jv_br false pc off L r h
  | _ => none
def jv_sNonn (pc : Nat) (off : Int) (L : jv_L) (S : List Value) (h : jv_H) : Option (jv_R ⊕ jv_S) := match S with
  | .null :: r => jv_br false pc off L r h
  | .ref _ :: r => jv_br true pc off L r h
  | _ => none
def jv_sAcmp (c : Jvm.ClassFile.ACond) (pc : Nat) (off : Int) (L : jv_L) (S : List Value) (h : jv_H) : Option (jv_R ⊕ jv_S) := match S with
  | w :: v :: r => match jv_rv v, jv_rv w with
    | some x, some y => jv_br (match c with | .eq => decide (x = y) | .ne => decide (¬ x = y)) pc off L r h
    | _, _ => none
  | _ => none
def jv_sTab (dflt lo hi : Int) (offs : Array Int) (pc : Nat) (L : jv_L) (S : List Value) (h : jv_H) : Option (jv_R ⊕ jv_S) := match S with
  | .int x :: r => if x.toInt < lo ∨ hi < x.toInt then jv_jmp pc dflt L r h else match offs[(x.toInt - lo).toNat]? with
    | some off => jv_jmp pc off L r h
    | none => none
  | _ => none
def jv_sLook (dflt : Int) (ps : Array (Int × Int)) (pc : Nat) (L : jv_L) (S : List Value) (h : jv_H) : Option (jv_R ⊕ jv_S) := match S with
  | .int x :: r => if (ps.toList.zip (ps.toList.drop 1)).all (fun (a, next) => a.1 < next.1) = true then jv_jmp pc (Op.lookupswitch.offset ps.toList dflt x.toInt) L r h else none
  | _ => none
def jv_sNewi (pc : Nat) (L : jv_L) (h : jv_H) (t : Nat) (S : List Value) : Option (jv_R ⊕ jv_S) := match S with
  | .int n :: r => jv_goh (pc + 2) L (.ref (h.1 + 1) :: r) (jv_newi h t n)
  | _ => none
def jv_sNewr (pc : Nat) (L : jv_L) (h : jv_H) (t : Option Nat) (S : List Value) : Option (jv_R ⊕ jv_S) := match t, S with
  | some t, .int n :: r => jv_goh (pc + 3) L (.ref (h.1 + 1) :: r) (jv_newr h t n)
  | _, _ => none
def jv_sNew (G : jv_G) (pc : Nat) (L : jv_L) (h : jv_H) (q : Option Nat) (S : List Value) : Option (jv_R ⊕ jv_S) := match q with
  | some ci => jv_goh (pc + 3) L (.ref (h.1 + 1) :: S) (jv_newo G h ci)
  | none => none
def jv_ush (x y : Int32) : Int32 := (x.toUInt32 >>> (y.toUInt32 &&& Int32.toUInt32 31)).toInt32
/-- one instruction; what isn't named here, the small machine does not do -/
def jv_ins (G : jv_G) (X : Nat × (Nat → Int32)) (call : Nat → List Value → jv_H → Option jv_R) (mi pc : Nat) (L : jv_L) (S : List Value) (h : jv_H) (ins : Jvm.ClassFile.Instr) (len : Nat) : Option (jv_R ⊕ jv_S) := match ins with
  | .iconst n => if len = 1 then some (.inr (pc + 1, L, .int (Int32.ofInt n) :: S, h)) else none
  | .bipush n => if len = 2 then some (.inr (pc + 2, L, .int (Int8.ofInt n).toInt32 :: S, h)) else none
  | .sipush n => if len = 3 then some (.inr (pc + 3, L, .int (Int16.ofInt n).toInt32 :: S, h)) else none
  | .ldc i => if len = 2 then jv_go (pc + 2) L h ((jg_ldc G mi i).map (fun v => .int v :: S)) else none
  | .ldc_w i => if len = 3 then jv_go (pc + 3) L h ((jg_ldc G mi i).map (fun v => .int v :: S)) else none
  | .ldc2_w i => if len = 3 then jv_go (pc + 3) L h ((jg_ldl G mi i).map (fun v => .long v :: S)) else none
  | .aconst_null => if len = 1 then some (.inr (pc + 1, L, .null :: S, h)) else none
  | .iload_n i => if len = 1 then jv_go (pc + 1) L h (jv_pi L S i.val) else none
  | .iload i => if len = 2 then jv_go (pc + 2) L h (jv_pi L S i) else none
  | .aload_n i => if len = 1 then jv_go (pc + 1) L h (jv_pa L S i.val) else none
  | .aload i => if len = 2 then jv_go (pc + 2) L h (jv_pa L S i) else none
  | .istore_n i => if len = 1 then jv_gol (pc + 1) h (jv_si L S i.val) else none
  | .istore i => if len = 2 then jv_gol (pc + 2) h (jv_si L S i) else none
  | .astore_n i => if len = 1 then jv_gol (pc + 1) h (jv_sa L S i.val) else none
  | .astore i => if len = 2 then jv_gol (pc + 2) h (jv_sa L S i) else none
  | .iinc i n => if len = 3 then (match jv_ld L i with | some (.int x) => some (.inr (pc + 3, L.set i (some (.int (x + Int32.ofInt n))), S, h)) | _ => none) else none
  | .iadd => if len = 1 then jv_go (pc + 1) L h (jv_bin (fun x y => x + y) S) else none
  | .isub => if len = 1 then jv_go (pc + 1) L h (jv_bin (fun x y => x - y) S) else none
  | .imul => if len = 1 then jv_go (pc + 1) L h (jv_bin (fun x y => x * y) S) else none
  | .iand => if len = 1 then jv_go (pc + 1) L h (jv_bin (fun x y => x &&& y) S) else none
  | .ior => if len = 1 then jv_go (pc + 1) L h (jv_bin (fun x y => x ||| y) S) else none
  | .ishl => if len = 1 then jv_go (pc + 1) L h (jv_bin (fun x y => x <<< (y &&& 31)) S) else none
  | .ishr => if len = 1 then jv_go (pc + 1) L h (jv_bin (fun x y => x >>> (y &&& 31)) S) else none
  | .iushr => if len = 1 then jv_go (pc + 1) L h (jv_bin jv_ush S) else none
  | .idiv => if len = 1 then jv_go (pc + 1) L h (jv_dv (fun x y => x / y) S) else none
  | .irem => if len = 1 then jv_go (pc + 1) L h (jv_dv (fun x y => x - x / y * y) S) else none
  | .ineg => if len = 1 then jv_go (pc + 1) L h (jv_neg S) else none
  | .i2l => if len = 1 then jv_go (pc + 1) L h (jv_i2l S) else none
  | .lcmp => if len = 1 then jv_go (pc + 1) L h (jv_lcmp S) else none
  | .dup => if len = 1 then jv_go (pc + 1) L h (jv_dup S) else none
  | .pop => if len = 1 then jv_go (pc + 1) L h (jv_pop S) else none
  | .dup_x1 => if len = 1 then jv_go (pc + 1) L h (jv_dupx1 S) else none
  | .dup_x2 => if len = 1 then jv_go (pc + 1) L h (jv_dupx2 S) else none
  | .dup2 => if len = 1 then jv_go (pc + 1) L h (jv_dup2 S) else none
  | .ifCond c off => if len = 3 then jv_sIf c pc off L S h else none
  | .if_icmp c off => if len = 3 then jv_sIcmp c pc off L S h else none
  | .ifnull off => if len = 3 then jv_sNull pc off L S h else none
  | .ifnonnull off => if len = 3 then jv_sNonn pc off L S h else none
  | .if_acmp c off => if len = 3 then jv_sAcmp c pc off L S h else none
  | .goto off => if len = 3 then jv_jmp pc off L S h else none
  | .tableswitch dflt lo hi offs => jv_sTab dflt lo hi offs pc L S h
  | .lookupswitch dflt ps => jv_sLook dflt ps pc L S h
  | .getfield i => if len = 3 then jv_go (pc + 3) L h (jv_sGet G h (jg_fld G mi i) S) else none
  | .putfield i => if len = 3 then jv_sPut G mi pc L h (jg_fld G mi i) S else none
  | .arraylength => if len = 1 then jv_go (pc + 1) L h (jv_alen G X h S) else none
  | .iaload => if len = 1 then jv_go (pc + 1) L h (jv_sIalo X h S) else none
  | .baload => if len = 1 then jv_go (pc + 1) L h (jv_sBalo h S) else none
  | .aaload => if len = 1 then jv_go (pc + 1) L h (jv_sAalo G h S) else none
  | .iastore => if len = 1 then jv_sIast pc L h S else none
  | .bastore => if len = 1 then jv_sBast pc L h S else none
  | .aastore => if len = 1 then jv_sAast G pc L h S else none
  | .newarray .int => if len = 2 then jv_sNewi pc L h 0 S else none
  | .newarray .boolean => if len = 2 then jv_sNewi pc L h 1 S else none
  | .anewarray i => if len = 3 then jv_sNewr pc L h (jg_anw G mi i) S else none
  | .new i => if len = 3 then jv_sNew G pc L h (jg_new G mi i) S else none
  | .invokevirtual i => if len = 3 then (match jg_inv G mi i with | some (0, y, n) => jv_cV G call pc L S h y n | _ => none) else none
  | .invokestatic i => if len = 3 then (match jg_inv G mi i with | some (1, y, n) => jv_cS call pc L S h y n | _ => none) else none
  | .invokespecial i => if len = 3 then (match jg_inv G mi i with | some (2, y, n) => jv_cI call pc L S h y n | some (3, _, _) => jv_c0 pc L S h | _ => none) else none
  | .ireturn => if len = 1 then jv_iret (jg_ret G mi) S h else none
  | .lreturn => if len = 1 then jv_lret (jg_ret G mi) S h else none
  | .areturn => if len = 1 then jv_aret (jg_ret G mi) S h else none
  | .return_ => if len = 1 then jv_vret (jg_ret G mi) S h else none
  | _ => none
def jv_one (G : jv_G) (X : Nat × (Nat → Int32)) (call : Nat → List Value → jv_H → Option jv_R) (mi : Nat) (st : jv_S) : Option (jv_R ⊕ jv_S) := match decode (jg_code G mi) st.1 with
  | .ok q => jv_ins G X call mi st.1 st.2.1 st.2.2.1 st.2.2.2 q.1 q.2
  | .error _ => none
def jv_run (G : jv_G) (X : Nat × (Nat → Int32)) (call : Nat → List Value → jv_H → Option jv_R) (mi : Nat) : Nat → jv_S → Option jv_R
  | 0, _ => none
  | n + 1, st => match jv_one G X call mi st with
    | none => none
    | some (.inl r) => some r
    | some (.inr st') => jv_run G X call mi n st'
theorem jv_run_succ {G : jv_G} {X : Nat × (Nat → Int32)} {call : Nat → List Value → jv_H → Option jv_R} {mi : Nat} : ∀ (n : Nat) (st : jv_S) (r : jv_R), jv_run G X call mi n st = some r → jv_run G X call mi (n + 1) st = some r
  | 0, st, r, h => by simp [jv_run] at h
  | n + 1, st, r, h => by
    rw [jv_run] at h ⊢
    cases ho : jv_one G X call mi st with
    | none => rw [ho] at h; simp at h
    | some q =>
      rw [ho] at h
      cases q with
      | inl r' => simpa using h
      | inr st' => exact jv_run_succ n st' r (by simpa using h)
theorem jv_run_le {G : jv_G} {X : Nat × (Nat → Int32)} {call : Nat → List Value → jv_H → Option jv_R} {mi : Nat} {n k : Nat} {st : jv_S} {r : jv_R} (h : jv_run G X call mi n st = some r) : jv_run G X call mi (n + k) st = some r := by
  induction k with
  | zero => exact h
  | succ k ih => exact jv_run_succ _ _ _ ih
theorem jv_run_uniq {G : jv_G} {X : Nat × (Nat → Int32)} {call : Nat → List Value → jv_H → Option jv_R} {mi : Nat} {n k : Nat} {st : jv_S} {r r' : jv_R} (h : jv_run G X call mi n st = some r) (h' : jv_run G X call mi k st = some r') : r = r' := by
  have a := jv_run_le (k := k) h
  have b := jv_run_le (k := n) h'
  rw [Nat.add_comm] at b
  exact Option.some.inj (a.symm.trans b)
/-- the run to its end, of any length -/
noncomputable def jv_lim (G : jv_G) (X : Nat × (Nat → Int32)) (call : Nat → List Value → jv_H → Option jv_R) (mi : Nat) (st : jv_S) : Option jv_R :=
  @dite _ (∃ r : jv_R, ∃ n : Nat, jv_run G X call mi n st = some r) (Classical.propDecidable _) (fun h => some (Classical.choose h)) (fun _ => none)
theorem jv_lim_of {G : jv_G} {X : Nat × (Nat → Int32)} {call : Nat → List Value → jv_H → Option jv_R} {mi n : Nat} {st : jv_S} {r : jv_R} (h : jv_run G X call mi n st = some r) : jv_lim G X call mi st = some r := by
  have hx : ∃ r : jv_R, ∃ n : Nat, jv_run G X call mi n st = some r := ⟨r, n, h⟩
  unfold jv_lim
  rw [dif_pos hx]
  obtain ⟨k, hk⟩ := Classical.choose_spec hx
  rw [jv_run_uniq hk h]
theorem jv_lim_run {G : jv_G} {X : Nat × (Nat → Int32)} {call : Nat → List Value → jv_H → Option jv_R} {mi : Nat} {st : jv_S} {r : jv_R} (h : jv_lim G X call mi st = some r) : ∃ n, jv_run G X call mi n st = some r := by
  unfold jv_lim at h
  by_cases hx : ∃ r : jv_R, ∃ n : Nat, jv_run G X call mi n st = some r
  · rw [dif_pos hx] at h
    obtain ⟨k, hk⟩ := Classical.choose_spec hx
    exact ⟨k, by rw [hk]; exact h⟩
  · rw [dif_neg hx] at h
    cases h
theorem jv_lim_eq (G : jv_G) (X : Nat × (Nat → Int32)) (call : Nat → List Value → jv_H → Option jv_R) (mi : Nat) (st : jv_S) : jv_lim G X call mi st = match jv_one G X call mi st with
    | none => none
    | some (.inl r) => some r
    | some (.inr st') => jv_lim G X call mi st' := by
  have key : ∀ r, jv_lim G X call mi st = some r ↔ (match jv_one G X call mi st with
    | none => none
    | some (.inl r) => some r
    | some (.inr st') => jv_lim G X call mi st') = some r := by
    intro r
    constructor
    · intro h
      obtain ⟨n, hn⟩ := jv_lim_run h
      cases n with
      | zero => simp [jv_run] at hn
      | succ n =>
        rw [jv_run] at hn
        cases ho : jv_one G X call mi st with
        | none => rw [ho] at hn; simp at hn
        | some q =>
          rw [ho] at hn
          cases q with
          | inl r' => simpa using hn
          | inr st' => exact jv_lim_of (by simpa using hn)
    · intro h
      cases ho : jv_one G X call mi st with
      | none => rw [ho] at h; simp at h
      | some q =>
        rw [ho] at h
        cases q with
        | inl r' => exact jv_lim_of (n := 1) (by rw [jv_run, ho]; simpa using h)
        | inr st' =>
          obtain ⟨n, hn⟩ := jv_lim_run (by simpa using h)
          exact jv_lim_of (n := n + 1) (by rw [jv_run, ho]; exact hn)
  cases hl : jv_lim G X call mi st with
  | some r => exact ((key r).mp hl).symm
  | none =>
    cases hr : (match jv_one G X call mi st with
      | none => none
      | some (.inl r) => some r
      | some (.inr st') => jv_lim G X call mi st') with
    | none => rfl
    | some r =>
      have := (key r).mpr hr
      rw [hl] at this
      cases this
/-- a method from its entry, with calls nested less than d deep -/
noncomputable def jv_F (G : jv_G) (X : Nat × (Nat → Int32)) : Nat → Nat → List Value → jv_H → Option jv_R
  | 0, _, _, _ => none
  | d + 1, mi, as, h => if as.all jv_cat1 = true ∧ as.length ≤ jg_maxL G mi then jv_lim G X (jv_F G X d) mi (0, as.map some ++ List.replicate (jg_maxL G mi - as.length) none, [], h) else none
end
