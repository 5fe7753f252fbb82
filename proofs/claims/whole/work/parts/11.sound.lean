/-! ===== what the small machine does, the machine does ===== -/
def jv_ea (base b a : Nat) : Nat := match a with
  | 0 => b
  | k + 1 => base + k
def jv_ev (base b : Nat) (v : Value) : Value := match v with
  | .ref a => .ref (jv_ea base b a)
  | w => w
theorem jv_ev_int (base b : Nat) (x : Int32) : jv_ev base b (.int x) = .int x := rfl
theorem jv_ev_long (base b : Nat) (x : Int64) : jv_ev base b (.long x) = .long x := rfl
theorem jv_ev_null (base b : Nat) : jv_ev base b .null = .null := rfl
theorem jv_ev_ref (base b a : Nat) : jv_ev base b (.ref a) = .ref (jv_ea base b a) := rfl
theorem jv_ev_cat (base b : Nat) (v : Value) : (jv_ev base b v).category = v.category := by cases v <;> rfl
theorem jv_ev_rf (base b : Nat) (v : Option Nat) : jv_ev base b (va_rf v) = va_rf (v.map (jv_ea base b)) := by cases v <;> rfl
theorem jv_ea_inj {base b x y : Nat} (hb : b < base) (h : jv_ea base b x = jv_ea base b y) : x = y := by
  cases x <;> cases y <;> simp [jv_ea] at h ⊢ <;> omega
def jv_ce (base b : Nat) (cA : Nat → ClassId) (c : jv_C) : va_E := match c with
  | .inl (t, n, .inl f) => .inl (cA t, n, .inl f)
  | .inl (t, n, .inr f) => .inl (cA t, n, .inr (.inr (.inr (.inr (fun j => (f j).map (jv_ea base b))))))
  | .inr (ci, fs) => .inr (ci, fs.map (jv_ev base b))
def jv_ws (base b : Nat) (cA : Nat → ClassId) (h : jv_H) : va_W := (List.range h.1).map (fun k => (base + k, jv_ce base b cA (h.2.2 (k + 1))))
theorem jv_ws_at {base b : Nat} {cA : Nat → ClassId} {h : jv_H} {k : Nat} (hk : k < h.1) : (jv_ws base b cA h)[k]? = some (base + k, jv_ce base b cA (h.2.2 (k + 1))) := by
  simp [jv_ws, hk]
theorem jv_ws_out {base b : Nat} {cA : Nat → ClassId} {h : jv_H} {k : Nat} (hk : h.1 ≤ k) : (jv_ws base b cA h)[k]? = none := by
  simp [jv_ws, hk]
theorem jv_ws_put {base b : Nat} {cA : Nat → ClassId} {h : jv_H} {k : Nat} (hk : k < h.1) (x : jv_C) (w : Nat) : (jv_ws base b cA h).set k (base + k, jv_ce base b cA x) = jv_ws base b cA (h.1, w, va_up h.2.2 (k + 1) x) := by
  apply List.ext_getElem?
  intro i
  rw [List.getElem?_set]
  by_cases hi : k = i
  · subst hi
    rw [if_pos rfl, jv_ws_at (h := (h.1, w, va_up h.2.2 (k + 1) x)) hk]
    simp [jv_ws, hk, va_up]
  · rw [if_neg hi]
    by_cases hl : i < h.1
    · rw [jv_ws_at hl, jv_ws_at (h := (h.1, w, va_up h.2.2 (k + 1) x)) hl]
      have : ¬ i = k := by omega
      simp [va_up, this]
    · rw [jv_ws_out (by omega), jv_ws_out (h := (h.1, w, va_up h.2.2 (k + 1) x)) (by show h.1 ≤ i; omega)]
theorem jv_ws_push {base b : Nat} {cA : Nat → ClassId} {h : jv_H} (x : jv_C) (w : Nat) : jv_ws base b cA (h.1 + 1, w, va_up h.2.2 (h.1 + 1) x) = jv_ws base b cA h ++ [(base + h.1, jv_ce base b cA x)] := by
  apply List.ext_getElem?
  intro i
  by_cases hl : i < h.1
  · rw [List.getElem?_append_left (by simp [jv_ws, hl]), jv_ws_at hl, jv_ws_at (h := (h.1 + 1, w, va_up h.2.2 (h.1 + 1) x)) (by show i < h.1 + 1; omega)]
    have : ¬ i = h.1 := by omega
    simp [va_up, this]
  · rw [List.getElem?_append_right (by simp [jv_ws]; omega)]
    by_cases he : i = h.1
    · subst he
      rw [jv_ws_at (h := (h.1 + 1, w, va_up h.2.2 (h.1 + 1) x)) (by show h.1 < h.1 + 1; omega)]
      simp [va_up, jv_ws]
    · rw [jv_ws_out (h := (h.1 + 1, w, va_up h.2.2 (h.1 + 1) x)) (by show h.1 + 1 ≤ i; omega)]
      have : (jv_ws base b cA h).length = h.1 := by simp [jv_ws]
      rw [this]
      have h2 : ∃ j, i - h.1 = j + 1 := ⟨i - h.1 - 1, by omega⟩
      obtain ⟨j, hj⟩ := h2
      rw [hj]
      rfl
def jv_A (base : Nat) : Nat → Prop := fun q => base ≤ q
theorem jv_ws_D {base b : Nat} {cA : Nat → ClassId} {h : jv_H} : va_D (jv_A base) (jv_ws base b cA h) := by
  have key : ∀ (k : Nat) (q : Nat × va_E), (jv_ws base b cA h)[k]? = some q → q.1 = base + k := by
    intro k q hq
    by_cases hk : k < h.1
    · rw [jv_ws_at hk] at hq
      cases hq
      rfl
    · rw [jv_ws_out (by omega)] at hq
      cases hq
  refine ⟨fun i j x y hx hy hxy => ?_, fun k q hq => ?_⟩
  · rw [key i x hx, key j y hy] at hxy
    omega
  · show base ≤ q.1
    rw [key k q hq]
    omega
/-- the locals -/
def jv_asc (base b : Nat) (L : jv_L) : List (Nat × Value) := (List.range L.length).filterMap (fun k => (jv_ld L k).map (fun v => (k, jv_ev base b v)))
theorem jv_asc_mem {base b : Nat} {L : jv_L} {q : Nat × Value} : q ∈ jv_asc base b L ↔ ∃ v, jv_ld L q.1 = some v ∧ q.2 = jv_ev base b v := by
  unfold jv_asc
  rw [List.mem_filterMap]
  constructor
  · rintro ⟨k, -, hk⟩
    cases hv : jv_ld L k with
    | none => rw [hv] at hk; cases hk
    | some v => rw [hv] at hk; cases hk; exact ⟨v, hv, rfl⟩
  · rintro ⟨v, h1, h2⟩
    refine ⟨q.1, ?_, ?_⟩
    · rw [List.mem_range]
      unfold jv_ld at h1
      by_cases hl : q.1 < L.length
      · exact hl
      · rw [List.getElem?_eq_none (by omega)] at h1
        cases h1
    · rw [h1]
      show some (q.1, jv_ev base b v) = some q
      rw [← h2]
def jv_lv (base b nL : Nat) (L : jv_L) (ls : Array Slot) : Prop := lv_has ls nL (jv_asc base b L) ∧ L.length = nL ∧ ∀ k v, jv_ld L k = some v → v.category = 1
theorem jv_lv_at {base b nL : Nat} {L : jv_L} {ls : Array Slot} (h : jv_lv base b nL L ls) {k : Nat} {v : Value} (hv : jv_ld L k = some v) : ls[k]? = some (.val (jv_ev base b v)) := h.1.2.2 (k, jv_ev base b v) (jv_asc_mem.mpr ⟨v, hv, rfl⟩)
theorem jv_ld_set {L : jv_L} {i : Nat} (hi : i < L.length) (v : Value) (k : Nat) : jv_ld (L.set i (some v)) k = if k = i then some v else jv_ld L k := by
  unfold jv_ld
  rw [List.getElem?_set]
  by_cases h : i = k
  · subst h
    simp [hi]
  · have h2 : ¬ k = i := fun q => h q.symm
    simp [h, h2]
theorem jv_lv_set {base b nL : Nat} {L : jv_L} {ls ls' : Array Slot} {i : Nat} {v : Value} {w : Value} (h : jv_lv base b nL L ls) (hi : i < L.length) (hv : v.category = 1) (hw : w = jv_ev base b v)
    (hl : lv_has ls' nL ((i, w) :: (jv_asc base b L).filter (fun q => !(q.1 == i) && !(q.1 + 1 == i && q.2.category == 2)))) : jv_lv base b nL (L.set i (some v)) ls' := by
  refine ⟨⟨hl.1, hl.2.1, fun q hq => hl.2.2 q ?_⟩, by rw [List.length_set]; exact h.2.1, fun k u hk => ?_⟩
  · obtain ⟨u, h1, h2⟩ := jv_asc_mem.mp hq
    rw [jv_ld_set hi] at h1
    by_cases hk : q.1 = i
    · rw [if_pos hk] at h1
      cases h1
      have : q = (i, w) := Prod.ext hk (by rw [h2, hw])
      rw [this]
      exact List.mem_cons_self
    · rw [if_neg hk] at h1
      refine List.mem_cons_of_mem _ (List.mem_filter.mpr ⟨jv_asc_mem.mpr ⟨u, h1, h2⟩, ?_⟩)
      have hc : q.2.category = 1 := by rw [h2, jv_ev_cat]; exact h.2.2 _ _ h1
      simp [hk, hc]
  · rw [jv_ld_set hi] at hk
    by_cases hki : k = i
    · rw [if_pos hki] at hk; cases hk; exact hv
    · rw [if_neg hki] at hk; exact h.2.2 k u hk
theorem jv_args_mem : ∀ (vs : List Value), (∀ v ∈ vs, v.category = 1) → ∀ (i k : Nat) (v : Value), vs[k]? = some v → (i + k, v) ∈ lv_args i vs
  | [], _, _, _, _, h => by simp at h
  | u :: us, hc, i, 0, v, h => by
    simp at h
    subst h
    simp [lv_args]
  | u :: us, hc, i, k + 1, v, h => by
    have hu : u.category = 1 := hc u List.mem_cons_self
    have h2 := jv_args_mem us (fun w hw => hc w (List.mem_cons_of_mem _ hw)) (i + 1) k v (by simpa using h)
    unfold lv_args
    rw [if_neg (by omega)]
    refine List.mem_cons_of_mem _ ?_
    rw [show i + (k + 1) = i + 1 + k by omega]
    exact h2
theorem jv_sl_len : ∀ (vs : List Value), (∀ v ∈ vs, v.category = 1) → (lg_sl vs).length = vs.length
  | [], _ => rfl
  | u :: us, hc => by
    have hu : u.category = 1 := hc u List.mem_cons_self
    have h2 := jv_sl_len us (fun w hw => hc w (List.mem_cons_of_mem _ hw))
    unfold lg_sl at h2 ⊢
    rw [List.flatMap_cons, if_neg (by omega)]
    simp [h2]
theorem jv_lv_entry {base b n : Nat} {as : List Value} (hc : ∀ v ∈ as, v.category = 1) (hn : as.length ≤ n) : jv_lv base b n (as.map some ++ List.replicate (n - as.length) none) ((lg_sl (as.map (jv_ev base b)) ++ List.replicate (n - (lg_sl (as.map (jv_ev base b))).length) Slot.unset).toArray) := by
  have hc2 : ∀ v ∈ as.map (jv_ev base b), v.category = 1 := by
    intro v hv
    obtain ⟨u, hu, rfl⟩ := List.mem_map.mp hv
    rw [jv_ev_cat]
    exact hc u hu
  have hle : (lg_sl (as.map (jv_ev base b))).length ≤ n := by rw [jv_sl_len _ hc2, List.length_map]; exact hn
  have hld : ∀ k v, jv_ld (as.map some ++ List.replicate (n - as.length) none) k = some v → as[k]? = some v := by
    intro k v h
    unfold jv_ld at h
    by_cases hk : k < as.length
    · rw [List.getElem?_append_left (by simpa using hk)] at h
      simp [hk] at h
      simp [hk, h]
    · rw [List.getElem?_append_right (by simpa using hk)] at h
      by_cases hj : k - (as.map some).length < n - as.length
      · rw [List.getElem?_replicate, if_pos hj] at h
        cases h
      · rw [List.getElem?_replicate, if_neg hj] at h
        cases h
  have he := lv_entry (as.map (jv_ev base b)) (n := n) hle
  refine ⟨⟨he.1, he.2.1, fun q hq => he.2.2 q ?_⟩, by simp; omega, fun k v h => hc v (List.mem_of_getElem? (hld k v h))⟩
  obtain ⟨v, h1, h2⟩ := jv_asc_mem.mp hq
  have h3 := jv_args_mem (as.map (jv_ev base b)) hc2 0 q.1 (jv_ev base b v) (by rw [List.getElem?_map, hld _ _ h1]; rfl)
  rw [Nat.zero_add, ← h2] at h3
  exact h3
/-! what a program's tables must be -/
def jg_mws (G : jv_G) (mi : Nat) : List Cond := Cond.code (jg_y G mi) (jg_code G mi) (jg_maxL G mi) (jg_ret G mi) :: jg_ws G
def jg_mok (G : jv_G) (mi : Nat) : Prop := plainName (jg_y G mi).cls = true ∧ jg_maxL G mi ≤ 1000 ∧ Cond.code (jg_y G mi) (jg_code G mi) (jg_maxL G mi) (jg_ret G mi) ∈ jg_ws G ∧ Cond.initialized (jg_y G mi).cls ∈ jg_ws G ∧ (jg_y G mi).cls ≠ "java/lang/invoke/MethodHandle" ∧ (jg_y G mi).cls ≠ "java/lang/invoke/VarHandle"
def jg_lok (G : jv_G) (mi i y : Nat) : Prop := Cond.methodLink (jg_own G mi) i (jg_y G y) ∈ jg_ws G ∨ ∃ host, Cond.methodLinkNest (jg_own G mi) i (jg_y G y) host ∈ jg_nw G
def jg_eok (G : jv_G) (mi y : Nat) : Prop := jg_fr G y + 1 ≤ jg_fr G mi ∧ 8 + (jg_maxL G y + 11) + jg_lo G y ≤ jg_lo G mi
def jg_cok (G : jv_G) (mi i k y n : Nat) : Prop := match k with
  | 0 => jg_mok G y ∧ jg_eok G mi y ∧ jg_lok G mi i y ∧ (parseMethodDescriptor (jg_y G y).desc).map (fun d => d.parameters.length) = some n ∧ Cond.instanceMethod (jg_y G y) ∈ jg_ws G ∧ Cond.selects (jg_y G y).cls (jg_y G y) (jg_y G y) ∈ jg_ws G ∧ ∃ q, (jg_cls G)[jg_mc G y]? = some q ∧ q.1.1 = (jg_y G y).cls
  | 1 => jg_mok G y ∧ jg_eok G mi y ∧ jg_lok G mi i y ∧ (parseMethodDescriptor (jg_y G y).desc).map (fun d => d.parameters.length) = some n ∧ Cond.static (jg_y G y) ∈ jg_ws G
  | 2 => jg_mok G y ∧ jg_eok G mi y ∧ jg_lok G mi i y ∧ (parseMethodDescriptor (jg_y G y).desc).map (fun d => d.parameters.length) = some n ∧ Cond.instanceMethod (jg_y G y) ∈ jg_ws G ∧ (jg_y G y).name = "<init>" ∧ jg_ret G y = none
  | 3 => Cond.methodLink (jg_own G mi) i objectInit ∈ jg_ws G ∧ Cond.instanceMethod objectInit ∈ jg_ws G ∧ Cond.code objectInit ⟨#[0xb1]⟩ 1 none ∈ jg_ws G ∧ 1 ≤ jg_fr G mi ∧ 20 ≤ jg_lo G mi
  | _ => True
def jg_nf (w : Cond) : Prop := (∃ a i b n d h, w = Cond.fieldLinkNest a i b n d h) ∨ ∃ a i x h, w = Cond.methodLinkNest a i x h
def jg_clok (G : jv_G) (q : vw_C × (Nat → FieldType)) : Prop := (∀ w ∈ u_ws q.1.1 q.1.2.1 q.1.2.2, w ∈ jg_ws G) ∧ (∀ k, k < q.1.2.2 → parseFieldDescriptor (q.1.2.1 k).2.2.1 = some (q.2 k)) ∧ (∀ a, a < q.1.2.2 → ∀ b, b < q.1.2.2 → a ≠ b → (q.1.2.1 a).2.1 ≠ (q.1.2.1 b).2.1)
def jg_flok (G : jv_G) (mi i ci k : Nat) : Prop := ∃ q, (jg_cls G)[ci]? = some q ∧ k < q.1.2.2 ∧ (Cond.fieldLink (jg_own G mi) i (q.1.2.1 k).1 (q.1.2.1 k).2.1 (q.1.2.1 k).2.2.1 ∈ jg_ws G ∨ ((q.1.2.1 k).1 ≠ jg_own G mi ∧ ∃ host, Cond.fieldLinkNest (jg_own G mi) i (q.1.2.1 k).1 (q.1.2.1 k).2.1 (q.1.2.1 k).2.2.1 host ∈ jg_nw G))
def jg_nwok (G : jv_G) (mi i ci : Nat) : Prop := ∃ q, (jg_cls G)[ci]? = some q ∧ Cond.classLink (jg_own G mi) i q.1.1 ∈ jg_ws G ∧ Cond.instantiable q.1.1 q.1.2.2 ∈ jg_ws G ∧ Cond.initialized q.1.1 ∈ jg_ws G
def jg_anok (G : jv_G) (mi i t : Nat) : Prop := ∃ C ci, (jg_tys G)[t]? = some (.object C, ci) ∧ Cond.classLink (jg_own G mi) i C ∈ jg_ws G
def jg_ok (G : jv_G) : Prop :=
  (jg_cls G).length ≤ 999 ∧ (∀ w ∈ jg_nw G, jg_nf w) ∧ (∀ w ∈ jg_ws G, (w.onTables && w.keeps) = true ∨ ∃ ty, w = .arrayClass ty) ∧ (∀ q ∈ jg_cls G, jg_clok G q) ∧
  (∀ mi i ci k, jg_fld G mi i = some (ci, k) → jg_flok G mi i ci k) ∧ (∀ mi i k y n, jg_inv G mi i = some (k, y, n) → jg_cok G mi i k y n) ∧
  (∀ mi i ci, jg_new G mi i = some ci → jg_nwok G mi i ci) ∧ (∀ mi i t, jg_anw G mi i = some t → jg_anok G mi i t) ∧
  (∀ mi i v, jg_ldc G mi i = some v → Cond.constant (jg_own G mi) i v ∈ jg_ws G) ∧ (∀ mi i v, jg_ldl G mi i = some v → Cond.constantLong (jg_own G mi) i v ∈ jg_ws G) ∧
  (jg_tys G)[0]? = some (.int, 999) ∧ (jg_tys G)[1]? = some (.boolean, 999) ∧ Cond.arrayClass .int ∈ jg_ws G ∧ Cond.arrayClass .boolean ∈ jg_ws G ∧
  (∀ (t : Nat) (ty : FieldType) (ci : Nat), (jg_tys G)[t]? = some (ty, ci) → 2 ≤ t → ∃ C q, ty = .object C ∧ (jg_cls G)[ci]? = some q ∧ q.1.1 = C)
