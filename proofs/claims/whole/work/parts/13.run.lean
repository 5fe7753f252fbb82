/-! ===== a step of the small machine is a step of the machine ===== -/
def jv_tyl (G : jv_G) (cA : Nat → ClassId) : List (ClassId × FieldType) := (List.range (jg_tys G).length).map (fun t => (cA t, ((jg_tys G).getD t (.int, 0)).1))
theorem jv_tyl_at {G : jv_G} {cA : Nat → ClassId} {t : Nat} {q : FieldType × Nat} (h : (jg_tys G)[t]? = some q) : (jv_tyl G cA)[t]? = some (cA t, q.1) := by
  have hl := (List.getElem?_eq_some_iff.mp h).1
  have h2 := (List.getElem?_eq_some_iff.mp h).2
  simp [jv_tyl, hl, List.getD, h2]
def jv_K (G : jv_G) (D : va_G) (cA : Nat → ClassId) (U : State) : Prop := va_K D (jg_cl G) (jv_tyl G cA) U ∧ (∀ w ∈ jg_nw G, va_Nw w U) ∧ ∀ (t : Nat) (C : String) (ci : Nat), (jg_tys G)[t]? = some (FieldType.object C, ci) → va_AO C U
theorem jv_K.warm {G : jv_G} {D : va_G} {cA : Nat → ClassId} {s U : State} (hn : ∀ w ∈ jg_nw G, jg_nf w) (hW : s.WarmedH U.vm) (h : jv_K G D cA s) : jv_K G D cA U := by
  refine ⟨va_K.moved hW.alike h.1, fun w hw => ?_, fun t C ci ht => (h.2.2 t C ci ht).moved hW.alike⟩
  have hz := h.2.1 w hw
  rcases hn w hw with ⟨a, i, b, n, d, k, rfl⟩ | ⟨a, i, x, k, rfl⟩
  · exact va_Nw.warmF hW hz
  · exact va_Nw.warmM hW hz
theorem jv_K.same {G : jv_G} {D : va_G} {cA : Nat → ClassId} {s U : State} (hn : ∀ w ∈ jg_nw G, jg_nf w) (hv : s.vm = U.vm) (h : jv_K G D cA s) : jv_K G D cA U := by
  have ha : s.vm.Alike U.vm := by rw [hv]; exact Vm.Alike.refl _
  refine ⟨va_K.moved ha h.1, fun w hw => ?_, fun t C ci ht => (h.2.2 t C ci ht).moved ha⟩
  have hz := h.2.1 w hw
  rcases hn w hw with ⟨a, i, b, n, d, k, rfl⟩ | ⟨a, i, x, k, rfl⟩
  · exact va_Nw.same rfl hv hz
  · exact va_Nw.same rfl hv hz
def jv_Wd (G : jv_G) (X : Nat × (Nat → Int32)) (D : va_G) (base b : Nat) (cA : Nat → ClassId) (h : jv_H) (U : State) (H : Heap) : Prop := H.size = base + h.1 ∧ va_P D (jg_cl G) (jv_ws base b cA h) H ∧ va_X b X.1 X.2 U H
theorem jv_Wd.moved {G : jv_G} {X : Nat × (Nat → Int32)} {D : va_G} {base b : Nat} {cA : Nat → ClassId} {h : jv_H} {u U : State} {H : Heap} (hvm : u.vm.Alike U.vm) (hw : jv_Wd G X D base b cA h u H) : jv_Wd G X D base b cA h U H := ⟨hw.1, hw.2.1, hw.2.2.moved hvm⟩
def jv_Pc (G : jv_G) (X : Nat × (Nat → Int32)) (D : va_G) (base b : Nat) (cA : Nat → ClassId) (as : List Value) (h : jv_H) : Array Value → State → Prop := va_Pc (as.map (jv_ev base b)) (fun U => jv_Wd G X D base b cA h U U.heap ∧ jv_K G D cA U)
def jv_Qc (G : jv_G) (X : Nat × (Nat → Int32)) (D : va_G) (base b : Nat) (cA : Nat → ClassId) (r : Option Value) (h : jv_H) : Array Value → State → Outcome → State → Prop := fun _ st o t => o = .returned (r.map (jv_ev base b)) ∧ jv_Wd G X D base b cA h t t.heap ∧ va_F (jv_A base) st t
def jv_room (G : jv_G) (mi mc ms : Nat) : Room := { frames := jg_fr G mi, cells := mc, slots := ms, locals := jg_lo G mi }
def jv_Met (G : jv_G) (X : Nat × (Nat → Int32)) (D : va_G) (base b : Nat) (cA : Nat → ClassId) (l : Launch) (mi : Nat) (as : List Value) (h : jv_H) (r : Option Value) (h' : jv_H) : Prop :=
  Met l (jg_y G mi) (jg_mws G mi) (jv_room G mi (h'.1 - h.1) (h'.2.1 - h.2.1)) (jv_Pc G X D base b cA as h) (jv_Qc G X D base b cA r h') (h'.1 - h.1) (h'.2.1 - h.2.1) (jv_A base)
/-- a table of calls that the machine can do -/
def jv_cal (G : jv_G) (X : Nat × (Nat → Int32)) (D : va_G) (base b : Nat) (cA : Nat → ClassId) (l : Launch) (call : Nat → List Value → jv_H → Option jv_R) : Prop :=
  ∀ mi as h r h', call mi as h = some (r, h') → jv_wf h → jg_mok G mi → h.1 ≤ h'.1 ∧ h.2.1 ≤ h'.2.1 ∧ jv_wf h' ∧ jv_Met G X D base b cA l mi as h r h'
/-! inversions -/
theorem jv_if {α : Type} {c : Prop} [Decidable c] {x : Option α} {y : α} (h : (if c then x else none) = some y) : c ∧ x = some y := by
  by_cases hc : c
  · rw [if_pos hc] at h; exact ⟨hc, h⟩
  · rw [if_neg hc] at h; cases h
theorem jv_go_inv {pc pc' : Nat} {L L' : jv_L} {S' : List Value} {h h' : jv_H} {o : Option (List Value)} (q : jv_go pc L h o = some (.inr (pc', L', S', h'))) : o = some S' ∧ pc' = pc ∧ L' = L ∧ h' = h := by
  cases o with
  | none => cases q
  | some S => cases q; exact ⟨rfl, rfl, rfl, rfl⟩
theorem jv_gol_inv {pc pc' : Nat} {L' : jv_L} {S' : List Value} {h h' : jv_H} {o : Option (jv_L × List Value)} (q : jv_gol pc h o = some (.inr (pc', L', S', h'))) : o = some (L', S') ∧ pc' = pc ∧ h' = h := by
  cases o with
  | none => cases q
  | some S => cases q; exact ⟨rfl, rfl, rfl⟩
theorem jv_goh_inv {pc pc' : Nat} {L L' : jv_L} {S S' : List Value} {h' : jv_H} {o : Option jv_H} (q : jv_goh pc L S o = some (.inr (pc', L', S', h'))) : o = some h' ∧ pc' = pc ∧ L' = L ∧ S' = S := by
  cases o with
  | none => cases q
  | some S => cases q; exact ⟨rfl, rfl, rfl, rfl⟩
theorem jv_bin_inv {f : Int32 → Int32 → Int32} {S S' : List Value} (q : jv_bin f S = some S') : ∃ x y r, S = .int y :: .int x :: r ∧ S' = .int (f x y) :: r := by
  unfold jv_bin at q
  split at q
  · cases q; exact ⟨_, _, _, rfl, rfl⟩
  · cases q
theorem jv_dv_inv {f : Int32 → Int32 → Int32} {S S' : List Value} (q : jv_dv f S = some S') : ∃ x y r, S = .int y :: .int x :: r ∧ S' = .int (f x y) :: r ∧ ¬ y = 0 := by
  unfold jv_dv at q
  split at q
  · split at q
    · cases q
    · cases q; exact ⟨_, _, _, rfl, rfl, by assumption⟩
  · cases q
theorem jv_pi_inv {L : jv_L} {S S' : List Value} {k : Nat} (q : jv_pi L S k = some S') : ∃ x, jv_ld L k = some (.int x) ∧ S' = .int x :: S := by
  unfold jv_pi at q
  split at q
  · cases q; exact ⟨_, by assumption, rfl⟩
  · cases q
theorem jv_pa_inv {L : jv_L} {S S' : List Value} {k : Nat} (q : jv_pa L S k = some S') : (jv_ld L k = some .null ∧ S' = .null :: S) ∨ ∃ a, jv_ld L k = some (.ref a) ∧ S' = .ref a :: S := by
  unfold jv_pa at q
  split at q
  · cases q; exact Or.inl ⟨by assumption, rfl⟩
  · cases q; exact Or.inr ⟨_, by assumption, rfl⟩
  · cases q
theorem jv_si_inv {L L' : jv_L} {S S' : List Value} {k : Nat} (q : jv_si L S k = some (L', S')) : ∃ x, S = .int x :: S' ∧ k < L.length ∧ L' = L.set k (some (.int x)) := by
  unfold jv_si at q
  split at q
  · obtain ⟨hk, q⟩ := jv_if q
    cases q; exact ⟨_, rfl, hk, rfl⟩
  · cases q
theorem jv_sa_inv {L L' : jv_L} {S S' : List Value} {k : Nat} (q : jv_sa L S k = some (L', S')) : k < L.length ∧ ((S = .null :: S' ∧ L' = L.set k (some .null)) ∨ ∃ a, S = .ref a :: S' ∧ L' = L.set k (some (.ref a))) := by
  unfold jv_sa at q
  split at q
  · obtain ⟨hk, q⟩ := jv_if q
    cases q; exact ⟨hk, Or.inl ⟨rfl, rfl⟩⟩
  · obtain ⟨hk, q⟩ := jv_if q
    cases q; exact ⟨hk, Or.inr ⟨_, rfl, rfl⟩⟩
  · cases q
theorem jv_ld_lt {L : jv_L} {k : Nat} {v : Value} (h : jv_ld L k = some v) : k < L.length := by
  unfold jv_ld at h
  by_cases hl : k < L.length
  · exact hl
  · rw [List.getElem?_eq_none (by omega)] at h
    cases h
theorem jv_jmp_inv {pc pc' : Nat} {off : Int} {L L' : jv_L} {S S' : List Value} {h h' : jv_H} (q : jv_jmp pc off L S h = some (.inr (pc', L', S', h'))) : (pc : Int) + off = (pc' : Int) ∧ L' = L ∧ S' = S ∧ h' = h := by
  unfold jv_jmp at q
  obtain ⟨h0, q⟩ := jv_if q
  cases q
  exact ⟨(Int.toNat_of_nonneg h0).symm, rfl, rfl, rfl⟩
theorem jv_br_inv {b : Bool} {pc pc' : Nat} {off : Int} {L L' : jv_L} {S S' : List Value} {h h' : jv_H} (q : jv_br b pc off L S h = some (.inr (pc', L', S', h'))) : ∃ tgt : Nat, (pc : Int) + off = (tgt : Int) ∧ pc' = (if b then tgt else pc + 3) ∧ L' = L ∧ S' = S ∧ h' = h := by
  unfold jv_br at q
  obtain ⟨h0, q⟩ := jv_if q
  cases q
  exact ⟨_, (Int.toNat_of_nonneg h0).symm, rfl, rfl, rfl, rfl⟩
theorem jv_get_inv {h : jv_H} {a ci k : Nat} {v : Value} (q : jv_get h a ci k = some v) : ∃ fs, h.2.2 a = .inr (ci, fs) ∧ fs[k]? = some v := by
  unfold jv_get at q
  split at q
  · replace q := jv_if q; obtain ⟨rfl, q⟩ := q
    exact ⟨_, by assumption, q⟩
  · cases q
theorem jv_put_inv {h h' : jv_H} {a ci k : Nat} {v : Value} (q : jv_put h a ci k v = some h') : ∃ fs, h.2.2 a = .inr (ci, fs) ∧ k < fs.length ∧ h' = (h.1, h.2.1, va_up h.2.2 a (.inr (ci, fs.set k v))) := by
  unfold jv_put at q
  split at q
  · replace q := jv_if q; obtain ⟨⟨rfl, hk⟩, q⟩ := q
    cases q
    exact ⟨_, by assumption, hk, rfl⟩
  · cases q
theorem jv_out_in {i : Int32} {n : Nat} (h : jv_out i n = false) : vp_in i n := by
  unfold jv_out at h
  exact of_decide_eq_false h
theorem jv_ald_inv {h : jv_H} {t a : Nat} {i x : Int32} (q : jv_ald h t a i = some x) : ∃ n f, h.2.2 a = .inl (t, n, .inl f) ∧ vp_in i n ∧ x = f i.toNatClampNeg := by
  unfold jv_ald at q
  split at q
  · replace q := jv_if q; obtain ⟨⟨rfl, hk⟩, q⟩ := q
    cases q
    exact ⟨_, _, by assumption, jv_out_in hk, rfl⟩
  · cases q
theorem jv_ast_inv {h h' : jv_H} {t a : Nat} {i x : Int32} (q : jv_ast h t a i x = some h') : ∃ n f, h.2.2 a = .inl (t, n, .inl f) ∧ vp_in i n ∧ h' = (h.1, h.2.1, va_up h.2.2 a (.inl (t, n, .inl (va_up f i.toNatClampNeg x)))) := by
  unfold jv_ast at q
  split at q
  · replace q := jv_if q; obtain ⟨⟨rfl, hk⟩, q⟩ := q
    cases q
    exact ⟨_, _, by assumption, jv_out_in hk, rfl⟩
  · cases q
theorem jv_rld_inv {G : jv_G} {h : jv_H} {a : Nat} {i : Int32} {v : Option Nat} (q : jv_rld G h a i = some v) : ∃ t n f, h.2.2 a = .inl (t, n, .inr f) ∧ vp_in i n ∧ 2 ≤ t ∧ t < (jg_tys G).length ∧ v = f i.toNatClampNeg := by
  unfold jv_rld at q
  split at q
  · obtain ⟨⟨hk, h1, h2⟩, q⟩ := jv_if q
    cases q
    exact ⟨_, _, _, by assumption, jv_out_in hk, h1, h2, rfl⟩
  · cases q
theorem jv_rst_inv {G : jv_G} {h h' : jv_H} {a : Nat} {i : Int32} {v : Option Nat} (q : jv_rst G h a i v = some h') : ∃ t n f w, h.2.2 a = .inl (t, n, .inr f) ∧ vp_in i n ∧ 2 ≤ t ∧ (jg_tys G)[t]? = some w ∧ jv_isC h w.2 v = true ∧ h' = (h.1, h.2.1, va_up h.2.2 a (.inl (t, n, .inr (va_up f i.toNatClampNeg v)))) := by
  unfold jv_rst at q
  split at q
  · obtain ⟨⟨hk, h2, hw⟩, q⟩ := jv_if q
    cases q
    split at hw
    · exact ⟨_, _, _, _, by assumption, jv_out_in hk, h2, by assumption, hw, rfl⟩
    · cases hw
  · cases q
theorem jv_isC_inv {h : jv_H} {ci a : Nat} (q : jv_isC h ci (some a) = true) : ∃ fs, h.2.2 a = .inr (ci, fs) := by
  unfold jv_isC at q
  simp only at q
  split at q
  · have := of_decide_eq_true q
    subst this
    exact ⟨_, by assumption⟩
  · cases q
/-- a cell that isn't the empty one is made -/
theorem jv_place {h : jv_H} (hw : jv_wf h) {a : Nat} {x : jv_C} (hx : h.2.2 a = x) (hn : x ≠ jv_no) : ∃ k, a = k + 1 ∧ k < h.1 := by
  cases a with
  | zero => exact absurd (hx.symm.trans (hw 0 (Or.inl rfl))) hn
  | succ k =>
    by_cases hk : k < h.1
    · exact ⟨k, rfl, hk⟩
    · exact absurd (hx.symm.trans (hw (k + 1) (Or.inr (by omega)))) hn
theorem jv_wf_put {h : jv_H} (hw : jv_wf h) {k : Nat} (hk : k < h.1) (x : jv_C) (w : Nat) : jv_wf (h.1, w, va_up h.2.2 (k + 1) x) := by
  intro a ha
  have : ¬ a = k + 1 := by
    rcases ha with ha | ha
    · omega
    · have : h.1 < a := ha
      omega
  show va_up h.2.2 (k + 1) x a = jv_no
  simp only [va_up, if_neg this]
  exact hw a ha
theorem jv_wf_push {h : jv_H} (hw : jv_wf h) (x : jv_C) (w : Nat) : jv_wf (h.1 + 1, w, va_up h.2.2 (h.1 + 1) x) := by
  intro a ha
  have hn : ¬ a = h.1 + 1 := by
    rcases ha with ha | ha
    · omega
    · have : h.1 + 1 < a := ha
      omega
  show va_up h.2.2 (h.1 + 1) x a = jv_no
  simp only [va_up, if_neg hn]
  refine hw a ?_
  rcases ha with ha | ha
  · exact Or.inl ha
  · have : h.1 + 1 < a := ha
    exact Or.inr (by omega)
