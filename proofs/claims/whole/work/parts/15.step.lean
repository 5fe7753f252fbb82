/-! ===== one step of the small machine is one of the machine ===== -/
theorem jv_ne_no {ci : Nat} {fs : List Value} (h : ci < 999) : (Sum.inr (ci, fs) : jv_C) ≠ jv_no := by
  intro z
  simp only [jv_no, Sum.inr.injEq, Prod.mk.injEq] at z
  omega
theorem jg_cl_at {G : jv_G} {ci : Nat} {w : vw_C × (Nat → FieldType)} (h : (jg_cls G)[ci]? = some w) : (jg_cl G)[ci]? = some (w.1.1, w.1.2.1, w.1.2.2) := by
  simp [jg_cl, h]
theorem jv_cats_ev (base b : Nat) (S : List Value) : ((S.map (jv_ev base b)).map fun v => v.category).sum = jv_cats S := by
  unfold jv_cats
  rw [List.map_map]
  congr 1
  apply List.map_congr_left
  intro v _
  exact jv_ev_cat base b v
theorem jv_fit_spec {base b : Nat} {ty : FieldType} {v : Value} (h : jv_fit ty v = true) : narrow ty (jv_ev base b v) = jv_ev base b v ∧ fits ty (jv_ev base b v) = true := by
  unfold jv_fit at h
  split at h
  · exact ⟨rfl, rfl⟩
  · rcases of_decide_eq_true h with rfl | rfl <;> exact ⟨rfl, rfl⟩
  · exact ⟨rfl, rfl⟩
  · exact ⟨rfl, rfl⟩
  · exact ⟨rfl, rfl⟩
  · exact ⟨rfl, rfl⟩
  · cases h
theorem jv_ret_map (base b : Nat) (r : Option Value) (rest : List Value) : (r.toList ++ rest).map (jv_ev base b) = (r.map (jv_ev base b)).toList ++ rest.map (jv_ev base b) := by
  cases r <;> simp
theorem jv_blind {G : jv_G} (hn : ∀ w ∈ jg_nw G, jg_nf w) {X : Nat × (Nat → Int32)} {D : va_G} {base b : Nat} {cA : Nat → ClassId} {as : List Value} {h : jv_H} : FrameBlind (jv_Pc G X D base b cA as h) := by
  intro a U g mk q
  obtain ⟨q0, q1, q2⟩ := q
  exact ⟨q0, jv_Wd.moved (u := U) (U := U.calling g mk a) (Vm.Alike.refl U.vm) q1, jv_K.same (s := U) (U := U.calling g mk a) hn rfl q2⟩
theorem jg_good {G : jv_G} (hG : jg_ok G) {y : Nat} (hm : jg_mok G y) : GoodIn (jg_ws G) (jg_mws G y) := by
  intro w hw
  have hw' : w ∈ jg_ws G := by
    rcases List.mem_cons.mp hw with rfl | hw
    · exact hm.2.2.1
    · exact hw
  exact ⟨hw', hG.2.2.1 w hw'⟩
theorem jg_tyO {G : jv_G} (hG : jg_ok G) {t : Nat} (h2 : 2 ≤ t) (hl : t < (jg_tys G).length) : ∃ C ci w, (jg_tys G)[t]? = some (.object C, ci) ∧ (jg_cls G)[ci]? = some w ∧ w.1.1 = C := by
  have he : (jg_tys G)[t]? = some (jg_tys G)[t] := List.getElem?_eq_getElem hl
  obtain ⟨C, w, h3, h4, h5⟩ := hG.2.2.2.2.2.2.2.2.2.2.2.2.2.2 t (jg_tys G)[t].1 (jg_tys G)[t].2 he h2
  exact ⟨C, (jg_tys G)[t].2, w, by rw [he, ← h3], h4, h5⟩
section JvStep
variable {p : Program} {l : Launch} {e : Env} {R : Room} {s : State} {m : MethodId} {args : Array Value} {below : List Frame} {meth : Method} {c : Code} {Q : State → Prop}
variable {G : jv_G} {X : Nat × (Nat → Int32)} {D : va_G} {base b : Nat} {cA : Nat → ClassId} {mi : Nat}
def jv_Cx (p : Program) (s : State) (m : MethodId) (args : Array Value) (meth : Method) (c : Code) (G : jv_G) (D : va_G) (cA : Nat → ClassId) (mi : Nat) : Prop :=
  p.tables.exec = Jvm.exec ∧ c.code = jg_code G mi ∧ c.maxLocals = jg_maxL G mi ∧ s.vm.findClass (jg_own G mi) = some m.cls ∧ (∀ w ∈ jg_ws G, w.before args s = true) ∧ ((jg_y G mi).name = "<init>" → meth.name = "<init>") ∧ jv_K G D cA s
theorem jv_goOn {H : Heap} {locs : List Loc} {cells slots mc ms pc : Nat} {ls : Array Slot} {st0 rest : List Value} {aa : Array Value} {r : Option Value} {h' : jv_H} (hr : va_Run p l e R s m args below meth c H locs cells slots mc ms (F0 m pc ls st0) rest (jv_Qc G X D base b cA r h' aa) (jv_A base)) (hS : va_S (jv_A base) s.heap H locs)
    (kk : ∀ (H1 : Heap) (locs1 : List Loc), jv_Wd G X D base b cA h' s H1 → va_S (jv_A base) s.heap H1 locs1 → W p l e R s m args below meth c H1 locs1 (cells + mc) (slots + ms) Q (F0 m (pc + 3) ls ((r.map (jv_ev base b)).toList ++ rest))) : W p l e R s m args below meth c H locs cells slots Q (F0 m pc ls st0) := by
  intro T hT X0
  obtain ⟨v, st₀, t, T', L, h0, X', hL, e1, e2, ⟨hv, hw, hz, hk⟩, st⟩ := hr T hT X0
  cases hv
  rw [h0] at hz hk
  have hal : t.vm.Alike s.vm := by rw [← e2]; exact X'.warmed.alike.symm
  obtain ⟨t2, a1, b1⟩ := kk T'.heap (locs ++ L) (by rw [e1]; exact hw.moved hal)
    ⟨Nat.le_trans hS.1 (by rw [e1]; exact hz), fun q h1 h2 => by rw [e1, hk q (Nat.lt_of_lt_of_le h1 hS.1) h2]; exact hS.2.1 q h1 h2, fun q hq => by
      rcases List.mem_append.mp hq with h | h
      · exact hS.2.2 q h
      · exact hL q h⟩ T' rfl X'
  exact ⟨t2, st t2 a1, b1⟩
set_option maxHeartbeats 16000000 in
set_option maxRecDepth 20000 in
theorem jv_step (hG : jg_ok G) (hbb : b < base) (CX : jv_Cx p s m args meth c G D cA mi) (hR : jg_fr G mi ≤ R.frames ∧ jg_lo G mi ≤ R.locals) {call : Nat → List Value → jv_H → Option jv_R} (hcal : jv_cal G X D base b cA l call)
    {pc pc' : Nat} {L L' : jv_L} {S S' : List Value} {h h' : jv_H} (hwf : jv_wf h) (q : jv_one G X call mi (pc, L, S, h) = some (.inr (pc', L', S', h'))) {n0 s0 : Nat} (hn0 : n0 ≤ h.1) (hs0 : s0 ≤ h.2.1) (hrc : h'.1 - n0 ≤ R.cells) (hrs : h'.2.1 - s0 ≤ R.slots)
    {H : Heap} {locs : List Loc} {ls : Array Slot} (hWd : jv_Wd G X D base b cA h s H) (hlv : jv_lv base b (jg_maxL G mi) L ls) (hS : va_S (jv_A base) s.heap H locs)
    (kk : ∀ (H1 : Heap) (locs1 : List Loc) (ls1 : Array Slot), jv_Wd G X D base b cA h' s H1 → jv_lv base b (jg_maxL G mi) L' ls1 → va_S (jv_A base) s.heap H1 locs1 → W p l e R s m args below meth c H1 locs1 (h'.1 - n0) (h'.2.1 - s0) Q (F0 m pc' ls1 (S'.map (jv_ev base b)))) :
    W p l e R s m args below meth c H locs (h.1 - n0) (h.2.1 - s0) Q (F0 m pc ls (S.map (jv_ev base b))) := by
  obtain ⟨hx, hb, hml, hown, hws, hnm, hKK⟩ := CX
  have hts : ∀ w ∈ jg_ws G, w.before args s = true := hws
  have hD : va_D (jv_A base) (jv_ws base b cA h) := jv_ws_D
  have hsz : H.size = base + h.1 := hWd.1
  unfold jv_one at q
  split at q
  case h_2 => cases q
  case h_1 w hd =>
    obtain ⟨ins, len⟩ := w
    dsimp only at q hd
    unfold jv_ins at q
    cases ins with
    | iconst n =>
      try dsimp only at q
      replace q := jv_if q; obtain ⟨rfl, q⟩ := q
      cases q
      exact lv_iconst hx hb hd rfl (kk H locs ls hWd hlv hS)
    | bipush n =>
      try dsimp only at q
      replace q := jv_if q; obtain ⟨rfl, q⟩ := q
      cases q
      exact lv_bipush hx hb hd rfl (kk H locs ls hWd hlv hS)
    | sipush n =>
      try dsimp only at q
      replace q := jv_if q; obtain ⟨rfl, q⟩ := q
      cases q
      exact lv_sipush hx hb hd rfl (kk H locs ls hWd hlv hS)
    | aconst_null  =>
      try dsimp only at q
      replace q := jv_if q; obtain ⟨rfl, q⟩ := q
      cases q
      exact lv_null hx hb hd (kk H locs ls hWd hlv hS)
    | ldc i =>
      try dsimp only at q
      replace q := jv_if q; obtain ⟨rfl, q⟩ := q
      obtain ⟨ho, rfl, rfl, rfl⟩ := jv_go_inv q
      cases hl : jg_ldc G mi i with
      | none => rw [hl] at ho; cases ho
      | some v =>
        rw [hl] at ho
        cases ho
        exact lv_ldc hx hb hown (hws _ (hG.2.2.2.2.2.2.2.2.1 _ _ _ hl)) hd (kk H locs ls hWd hlv hS)
    | ldc_w i =>
      try dsimp only at q
      replace q := jv_if q; obtain ⟨rfl, q⟩ := q
      obtain ⟨ho, rfl, rfl, rfl⟩ := jv_go_inv q
      cases hl : jg_ldc G mi i with
      | none => rw [hl] at ho; cases ho
      | some v =>
        rw [hl] at ho
        cases ho
        exact lv_ldcw hx hb hown (hws _ (hG.2.2.2.2.2.2.2.2.1 _ _ _ hl)) hd (kk H locs ls hWd hlv hS)
    | ldc2_w i =>
      try dsimp only at q
      replace q := jv_if q; obtain ⟨rfl, q⟩ := q
      obtain ⟨ho, rfl, rfl, rfl⟩ := jv_go_inv q
      cases hl : jg_ldl G mi i with
      | none => rw [hl] at ho; cases ho
      | some v =>
        rw [hl] at ho
        cases ho
        exact lv_ldc2 hx hb hown (hws _ (hG.2.2.2.2.2.2.2.2.2.1 _ _ _ hl)) hd (kk H locs ls hWd hlv hS)
    | iload_n i =>
      try dsimp only at q
      replace q := jv_if q; obtain ⟨rfl, q⟩ := q
      obtain ⟨ho, rfl, rfl, rfl⟩ := jv_go_inv q
      obtain ⟨x, hv, rfl⟩ := jv_pi_inv ho
      exact lv_iload_n hx hb hd rfl (jv_lv_at hlv hv) (kk H locs ls hWd hlv hS)
    | iload i =>
      try dsimp only at q
      replace q := jv_if q; obtain ⟨rfl, q⟩ := q
      obtain ⟨ho, rfl, rfl, rfl⟩ := jv_go_inv q
      obtain ⟨x, hv, rfl⟩ := jv_pi_inv ho
      exact lv_iload hx hb hd (jv_lv_at hlv hv) (kk H locs ls hWd hlv hS)
    | aload_n i =>
      try dsimp only at q
      replace q := jv_if q; obtain ⟨rfl, q⟩ := q
      obtain ⟨ho, rfl, rfl, rfl⟩ := jv_go_inv q
      rcases jv_pa_inv ho with ⟨hv, rfl⟩ | ⟨a, hv, rfl⟩
      · exact lv_aload_nN hx hb hd rfl (jv_lv_at hlv hv) (kk H locs ls hWd hlv hS)
      · exact lv_aload_n hx hb hd rfl (jv_lv_at hlv hv) (kk H locs ls hWd hlv hS)
    | aload i =>
      try dsimp only at q
      replace q := jv_if q; obtain ⟨rfl, q⟩ := q
      obtain ⟨ho, rfl, rfl, rfl⟩ := jv_go_inv q
      rcases jv_pa_inv ho with ⟨hv, rfl⟩ | ⟨a, hv, rfl⟩
      · exact lv_aloadN hx hb hd (jv_lv_at hlv hv) (kk H locs ls hWd hlv hS)
      · exact lv_aload hx hb hd (jv_lv_at hlv hv) (kk H locs ls hWd hlv hS)
    | iadd  =>
      try dsimp only at q
      replace q := jv_if q; obtain ⟨rfl, q⟩ := q
      obtain ⟨ho, rfl, rfl, rfl⟩ := jv_go_inv q
      obtain ⟨x, y, r, rfl, rfl⟩ := jv_bin_inv ho
      exact lv_iadd hx hb hd (kk H locs ls hWd hlv hS)
    | isub  =>
      try dsimp only at q
      replace q := jv_if q; obtain ⟨rfl, q⟩ := q
      obtain ⟨ho, rfl, rfl, rfl⟩ := jv_go_inv q
      obtain ⟨x, y, r, rfl, rfl⟩ := jv_bin_inv ho
      exact lv_isub hx hb hd (kk H locs ls hWd hlv hS)
    | imul  =>
      try dsimp only at q
      replace q := jv_if q; obtain ⟨rfl, q⟩ := q
      obtain ⟨ho, rfl, rfl, rfl⟩ := jv_go_inv q
      obtain ⟨x, y, r, rfl, rfl⟩ := jv_bin_inv ho
      exact lv_imul hx hb hd (kk H locs ls hWd hlv hS)
    | iand  =>
      try dsimp only at q
      replace q := jv_if q; obtain ⟨rfl, q⟩ := q
      obtain ⟨ho, rfl, rfl, rfl⟩ := jv_go_inv q
      obtain ⟨x, y, r, rfl, rfl⟩ := jv_bin_inv ho
      exact lv_iand hx hb hd (kk H locs ls hWd hlv hS)
    | ior  =>
      try dsimp only at q
      replace q := jv_if q; obtain ⟨rfl, q⟩ := q
      obtain ⟨ho, rfl, rfl, rfl⟩ := jv_go_inv q
      obtain ⟨x, y, r, rfl, rfl⟩ := jv_bin_inv ho
      exact lv_ior hx hb hd (kk H locs ls hWd hlv hS)
    | ishl  =>
      try dsimp only at q
      replace q := jv_if q; obtain ⟨rfl, q⟩ := q
      obtain ⟨ho, rfl, rfl, rfl⟩ := jv_go_inv q
      obtain ⟨x, y, r, rfl, rfl⟩ := jv_bin_inv ho
      exact lv_ishl hx hb hd (kk H locs ls hWd hlv hS)
    | ishr  =>
      try dsimp only at q
      replace q := jv_if q; obtain ⟨rfl, q⟩ := q
      obtain ⟨ho, rfl, rfl, rfl⟩ := jv_go_inv q
      obtain ⟨x, y, r, rfl, rfl⟩ := jv_bin_inv ho
      exact lv_ishr hx hb hd (kk H locs ls hWd hlv hS)
    | iushr  =>
      try dsimp only at q
      replace q := jv_if q; obtain ⟨rfl, q⟩ := q
      obtain ⟨ho, rfl, rfl, rfl⟩ := jv_go_inv q
      obtain ⟨x, y, r, rfl, rfl⟩ := jv_bin_inv ho
      exact lv_iushr hx hb hd rfl (kk H locs ls hWd hlv hS)
    | idiv  =>
      try dsimp only at q
      replace q := jv_if q; obtain ⟨rfl, q⟩ := q
      obtain ⟨ho, rfl, rfl, rfl⟩ := jv_go_inv q
      obtain ⟨x, y, r, rfl, rfl, hy⟩ := jv_dv_inv ho
      exact lv_idiv hx hb hd hy (kk H locs ls hWd hlv hS)
    | irem  =>
      try dsimp only at q
      replace q := jv_if q; obtain ⟨rfl, q⟩ := q
      obtain ⟨ho, rfl, rfl, rfl⟩ := jv_go_inv q
      obtain ⟨x, y, r, rfl, rfl, hy⟩ := jv_dv_inv ho
      exact lv_irem hx hb hd hy (kk H locs ls hWd hlv hS)
    | ineg  =>
      try dsimp only at q
      replace q := jv_if q; obtain ⟨rfl, q⟩ := q
      obtain ⟨ho, rfl, rfl, rfl⟩ := jv_go_inv q
      obtain ⟨x, r, rfl, rfl⟩ := jv_neg_inv ho
      exact lv_ineg hx hb hd (kk H locs ls hWd hlv hS)
    | i2l  =>
      try dsimp only at q
      replace q := jv_if q; obtain ⟨rfl, q⟩ := q
      obtain ⟨ho, rfl, rfl, rfl⟩ := jv_go_inv q
      obtain ⟨x, r, rfl, rfl⟩ := jv_i2l_inv ho
      exact lv_i2l hx hb hd rfl (kk H locs ls hWd hlv hS)
    | lcmp  =>
      try dsimp only at q
      replace q := jv_if q; obtain ⟨rfl, q⟩ := q
      obtain ⟨ho, rfl, rfl, rfl⟩ := jv_go_inv q
      obtain ⟨x, y, r, rfl, rfl⟩ := jv_lcmp_inv ho
      exact W.lcmp hx hb hd (kk H locs ls hWd hlv hS)
    | dup  =>
      try dsimp only at q
      replace q := jv_if q; obtain ⟨rfl, q⟩ := q
      obtain ⟨ho, rfl, rfl, rfl⟩ := jv_go_inv q
      obtain ⟨v, r, rfl, rfl, h1⟩ := jv_dup_inv ho
      exact lv_dup hx hb hd (by rw [jv_ev_cat]; exact h1) (kk H locs ls hWd hlv hS)
    | pop  =>
      try dsimp only at q
      replace q := jv_if q; obtain ⟨rfl, q⟩ := q
      obtain ⟨ho, rfl, rfl, rfl⟩ := jv_go_inv q
      obtain ⟨v, rfl, h1⟩ := jv_pop_inv ho
      exact lv_pop hx hb hd (by rw [jv_ev_cat]; exact h1) (kk H locs ls hWd hlv hS)
    | dup_x1  =>
      try dsimp only at q
      replace q := jv_if q; obtain ⟨rfl, q⟩ := q
      obtain ⟨ho, rfl, rfl, rfl⟩ := jv_go_inv q
      obtain ⟨v, w, r, rfl, rfl, h1, h2⟩ := jv_dupx1_inv ho
      exact lv_dup_x1 hx hb hd (by rw [jv_ev_cat]; exact h1) (by rw [jv_ev_cat]; exact h2) (kk H locs ls hWd hlv hS)
    | dup_x2  =>
      try dsimp only at q
      replace q := jv_if q; obtain ⟨rfl, q⟩ := q
      obtain ⟨ho, rfl, rfl, rfl⟩ := jv_go_inv q
      obtain ⟨v, w, u, r, rfl, rfl, h1, h2, h3⟩ := jv_dupx2_inv ho
      exact lv_dup_x2 hx hb hd (by rw [jv_ev_cat]; exact h1) (by rw [jv_ev_cat]; exact h2) (by rw [jv_ev_cat]; exact h3) (kk H locs ls hWd hlv hS)
    | dup2  =>
      try dsimp only at q
      replace q := jv_if q; obtain ⟨rfl, q⟩ := q
      obtain ⟨ho, rfl, rfl, rfl⟩ := jv_go_inv q
      obtain ⟨v, w, r, rfl, rfl, h1, h2⟩ := jv_dup2_inv ho
      exact lv_dup2_11 hx hb hd (by rw [jv_ev_cat]; exact h1) (by rw [jv_ev_cat]; exact h2) (kk H locs ls hWd hlv hS)
    | getfield i =>
      try dsimp only at q
      replace q := jv_if q; obtain ⟨rfl, q⟩ := q
      obtain ⟨ho, rfl, rfl, rfl⟩ := jv_go_inv q
      obtain ⟨ci, k, a, r, v, hf, rfl, hg, rfl⟩ := jv_sGet_inv ho
      obtain ⟨fs, hc1, hv⟩ := jv_get_inv hg
      obtain ⟨w, hw1, hk, hlk⟩ := hG.2.2.2.2.1 _ _ _ _ hf
      have hci : ci < 999 := Nat.lt_of_lt_of_le (List.getElem?_eq_some_iff.mp hw1).1 hG.1
      obtain ⟨a', rfl, ha⟩ := jv_place hwf hc1 (jv_ne_no hci)
      have he : (jv_ws base b cA h')[a']? = some (base + a', .inr (ci, fs.map (jv_ev base b))) := by rw [jv_ws_at ha, hc1]; rfl
      have hcl := jg_cl_at hw1
      obtain ⟨hin, hty0, hnms⟩ := hG.2.2.2.1 w (List.mem_of_getElem? hw1)
      rcases hlk with hlk | ⟨-, host, hlk⟩
      · exact va_get (D := D) hx hb hws hin hown hKK.1 hWd.2.1 a' he hcl k hk (hws _ hlk) (fun _ z => z) (by rw [List.getElem?_map, hv]; rfl) hd (kk H locs ls hWd hlv hS)
      · exact va_getN (D := D) hx hb hws hin hown hKK.1 hWd.2.1 a' he hcl k hk (va_Nw.use rfl (hKK.2.1 _ hlk)) (fun _ z => z) (by rw [List.getElem?_map, hv]; rfl) hd (kk H locs ls hWd hlv hS)
    | arraylength  =>
      try dsimp only at q
      replace q := jv_if q; obtain ⟨rfl, q⟩ := q
      obtain ⟨ho, rfl, rfl, rfl⟩ := jv_go_inv q
      obtain ⟨a, r, v, rfl, rfl, hlen⟩ := jv_alen_inv ho
      cases a with
      | zero =>
        cases hlen
        obtain ⟨scr, h1, h2, h3, h4, h5⟩ := hWd.2.2
        exact W.alen (n := Int32.ofNat X.1) hx hb h1 h2 (by rw [h4] <;> rfl) rfl rfl hd (kk H locs ls hWd hlv hS)
      | succ a =>
        simp only [jv_len] at hlen
        split at hlen
        · rename_i t n arr hc1
          obtain ⟨hlt, hlen⟩ := jv_if hlen
          cases hlen
          obtain ⟨a', ha1, ha⟩ := jv_place hwf hc1 (by intro z; cases z)
          cases ha1
          have hty := jv_tyl_at (cA := cA) (List.getElem?_eq_getElem hlt)
          cases arr with
          | inl f =>
            have he : (jv_ws base b cA h')[a]? = some (base + a, .inl (cA t, n, .inl f)) := by rw [jv_ws_at ha, hc1]; rfl
            exact va_alen (D := D) hx hb hKK.1 hWd.2.1 a t he hty rfl hd (kk H locs ls hWd hlv hS)
          | inr f =>
            have he : (jv_ws base b cA h')[a]? = some (base + a, .inl (cA t, n, .inr (.inr (.inr (.inr (fun j => (f j).map (jv_ea base b))))))) := by rw [jv_ws_at ha, hc1]; rfl
            exact va_alen (D := D) hx hb hKK.1 hWd.2.1 a t he hty rfl hd (kk H locs ls hWd hlv hS)
        · cases hlen
    | iaload  =>
      try dsimp only at q
      replace q := jv_if q; obtain ⟨rfl, q⟩ := q
      obtain ⟨ho, rfl, rfl, rfl⟩ := jv_go_inv q
      obtain ⟨i, r, ho⟩ := jv_sIalo_inv ho
      rcases ho with ⟨rfl, hin, rfl⟩ | ⟨a, x, rfl, ha1, rfl⟩
      · obtain ⟨scr, h1, h2, h3, h4, h5⟩ := hWd.2.2
        have hlt : i.toNatClampNeg < X.1 := Nat.not_le.mp fun z => hin (Or.inr z)
        exact W.iald (v := .int (X.2 i.toNatClampNeg)) hx hb h1 h2 h3 (by rw [h4]; exact hin) (h5 _ hlt) rfl rfl hd (kk H locs ls hWd hlv hS)
      · obtain ⟨n, f, hc1, hin, rfl⟩ := jv_ald_inv ha1
        obtain ⟨a', ha2, ha⟩ := jv_place hwf hc1 (by intro z; cases z)
        cases ha2
        have he : (jv_ws base b cA h')[a]? = some (base + a, .inl (cA 0, n, .inl f)) := by rw [jv_ws_at ha, hc1]; rfl
        exact va_iald (D := D) hx hb hKK.1 hWd.2.1 a 0 he (jv_tyl_at hG.2.2.2.2.2.2.2.2.2.2.1) hin hd (kk H locs ls hWd hlv hS)
    | baload  =>
      try dsimp only at q
      replace q := jv_if q; obtain ⟨rfl, q⟩ := q
      obtain ⟨ho, rfl, rfl, rfl⟩ := jv_go_inv q
      obtain ⟨i, r, a, x, rfl, ha1, rfl⟩ := jv_sBalo_inv ho
      obtain ⟨n, f, hc1, hin, rfl⟩ := jv_ald_inv ha1
      obtain ⟨a', rfl, ha⟩ := jv_place hwf hc1 (by intro z; cases z)
      have he : (jv_ws base b cA h')[a']? = some (base + a', .inl (cA 1, n, .inl f)) := by rw [jv_ws_at ha, hc1]; rfl
      exact va_zald (D := D) hx hb hKK.1 hWd.2.1 a' 1 he (jv_tyl_at hG.2.2.2.2.2.2.2.2.2.2.2.1) hin hd (kk H locs ls hWd hlv hS)
    | aaload  =>
      try dsimp only at q
      replace q := jv_if q; obtain ⟨rfl, q⟩ := q
      obtain ⟨ho, rfl, rfl, rfl⟩ := jv_go_inv q
      obtain ⟨i, r, a, x, rfl, ha1, rfl⟩ := jv_sAalo_inv ho
      obtain ⟨t, n, f, hc1, hin, ht2, htl, rfl⟩ := jv_rld_inv ha1
      obtain ⟨a', rfl, ha⟩ := jv_place hwf hc1 (by intro z; cases z)
      obtain ⟨C, ci, wq, hty, -, -⟩ := jg_tyO hG ht2 htl
      have hty := jv_tyl_at (cA := cA) hty
      have he : (jv_ws base b cA h')[a']? = some (base + a', .inl (cA t, n, .inr (.inr (.inr (.inr (fun j => (f j).map (jv_ea base b))))))) := by rw [jv_ws_at ha, hc1]; rfl
      refine va_aldq (D := D) hx hb hKK.1 hWd.2.1 a' t he hty hin hd ?_
      have := (kk H locs ls hWd hlv hS)
      rwa [List.map_cons, jv_ev_rf] at this
    | istore_n i =>
      try dsimp only at q
      replace q := jv_if q; obtain ⟨rfl, q⟩ := q
      obtain ⟨ho, rfl, rfl⟩ := jv_gol_inv q
      obtain ⟨x, rfl, hk, rfl⟩ := jv_si_inv ho
      exact lv_istore_n hx hb hd rfl hlv.1 (by rw [← hlv.2.1]; exact hk) rfl (fun ls1 hl1 => kk H locs ls1 hWd (jv_lv_set hlv hk rfl rfl hl1) hS)
    | istore i =>
      try dsimp only at q
      replace q := jv_if q; obtain ⟨rfl, q⟩ := q
      obtain ⟨ho, rfl, rfl⟩ := jv_gol_inv q
      obtain ⟨x, rfl, hk, rfl⟩ := jv_si_inv ho
      exact lv_istore hx hb hd hlv.1 (by rw [← hlv.2.1]; exact hk) rfl (fun ls1 hl1 => kk H locs ls1 hWd (jv_lv_set hlv hk rfl rfl hl1) hS)
    | astore_n i =>
      try dsimp only at q
      replace q := jv_if q; obtain ⟨rfl, q⟩ := q
      obtain ⟨ho, rfl, rfl⟩ := jv_gol_inv q
      obtain ⟨hk, ho⟩ := jv_sa_inv ho
      rcases ho with ⟨rfl, rfl⟩ | ⟨a, rfl, rfl⟩
      · exact lv_astore_nN hx hb hd rfl hlv.1 (by rw [← hlv.2.1]; exact hk) rfl (fun ls1 hl1 => kk H locs ls1 hWd (jv_lv_set hlv hk rfl rfl hl1) hS)
      · exact lv_astore_n hx hb hd rfl hlv.1 (by rw [← hlv.2.1]; exact hk) rfl (fun ls1 hl1 => kk H locs ls1 hWd (jv_lv_set hlv hk rfl rfl hl1) hS)
    | astore i =>
      try dsimp only at q
      replace q := jv_if q; obtain ⟨rfl, q⟩ := q
      obtain ⟨ho, rfl, rfl⟩ := jv_gol_inv q
      obtain ⟨hk, ho⟩ := jv_sa_inv ho
      rcases ho with ⟨rfl, rfl⟩ | ⟨a, rfl, rfl⟩
      · exact lv_astoreN hx hb hd hlv.1 (by rw [← hlv.2.1]; exact hk) rfl (fun ls1 hl1 => kk H locs ls1 hWd (jv_lv_set hlv hk rfl rfl hl1) hS)
      · exact lv_astore hx hb hd hlv.1 (by rw [← hlv.2.1]; exact hk) rfl (fun ls1 hl1 => kk H locs ls1 hWd (jv_lv_set hlv hk rfl rfl hl1) hS)
    | iinc i n =>
      try dsimp only at q
      replace q := jv_if q; obtain ⟨rfl, q⟩ := q
      split at q
      · rename_i x hv
        cases q
        have hk := jv_ld_lt hv
        obtain ⟨k, hk2⟩ := List.getElem?_of_mem (jv_asc_mem (base := base) (b := b) (q := (i, .int x)).mpr ⟨_, hv, rfl⟩)
        exact lv_iinc (k := k) hx hb hd hlv.1 hk2 rfl (by rw [← hlv.2.1]; exact hk) rfl (fun ls1 hl1 => kk H locs ls1 hWd (jv_lv_set hlv hk rfl rfl hl1) hS)
      · cases q
    | ifCond cd off =>
      try dsimp only at q
      replace q := jv_if q; obtain ⟨rfl, q⟩ := q
      obtain ⟨x, tgt, rfl, ht, rfl, rfl, rfl⟩ := jv_sIf_inv q
      have kt : jv_c2 cd x 0 = true → W p l e R s m args below meth c H locs (h'.1 - n0) (h'.2.1 - s0) Q (F0 m tgt ls (S'.map (jv_ev base b))) := by
        intro z
        have := (kk H locs ls hWd hlv hS)
        rwa [z, if_pos rfl] at this
      have kf : jv_c2 cd x 0 = false → W p l e R s m args below meth c H locs (h'.1 - n0) (h'.2.1 - s0) Q (F0 m (pc + 3) ls (S'.map (jv_ev base b))) := by
        intro z
        have := (kk H locs ls hWd hlv hS)
        rwa [z, if_neg (by decide)] at this
      cases cd with
      | eq => exact lv_if_eq hx hb hd ht (fun z => kt (by simp [jv_c2, z])) (fun z => kf (by simp [jv_c2, z]))
      | ne => exact lv_if_ne hx hb hd ht (fun z => kt (by simp [jv_c2, z])) (fun z => kf (by simp [jv_c2, z]))
      | lt => exact lv_if_lt hx hb hd ht (fun z => kt (by simp [jv_c2, z])) (fun z => kf (by simp [jv_c2, z]))
      | ge => exact lv_if_ge hx hb hd ht (fun z => kt (by simp [jv_c2, z])) (fun z => kf (by simp [jv_c2, z]))
      | gt => exact lv_if_gt hx hb hd ht (fun z => kt (by simp [jv_c2, z])) (fun z => kf (by simp [jv_c2, z]))
      | le => exact lv_if_le hx hb hd ht (fun z => kt (by simp [jv_c2, z])) (fun z => kf (by simp [jv_c2, z]))
    | if_icmp cd off =>
      try dsimp only at q
      replace q := jv_if q; obtain ⟨rfl, q⟩ := q
      obtain ⟨x, y, tgt, rfl, ht, rfl, rfl, rfl⟩ := jv_sIcmp_inv q
      have kt : jv_c2 cd x y = true → W p l e R s m args below meth c H locs (h'.1 - n0) (h'.2.1 - s0) Q (F0 m tgt ls (S'.map (jv_ev base b))) := by
        intro z
        have := (kk H locs ls hWd hlv hS)
        rwa [z, if_pos rfl] at this
      have kf : jv_c2 cd x y = false → W p l e R s m args below meth c H locs (h'.1 - n0) (h'.2.1 - s0) Q (F0 m (pc + 3) ls (S'.map (jv_ev base b))) := by
        intro z
        have := (kk H locs ls hWd hlv hS)
        rwa [z, if_neg (by decide)] at this
      cases cd with
      | eq => exact lv_icmp_eq hx hb hd ht (fun z => kt (by simp [jv_c2, z])) (fun z => kf (by simp [jv_c2, z]))
      | ne => exact lv_icmp_ne hx hb hd ht (fun z => kt (by simp [jv_c2, z])) (fun z => kf (by simp [jv_c2, z]))
      | lt => exact lv_icmp_lt hx hb hd ht (fun z => kt (by simp [jv_c2, z])) (fun z => kf (by simp [jv_c2, z]))
      | ge => exact lv_icmp_ge hx hb hd ht (fun z => kt (by simp [jv_c2, z])) (fun z => kf (by simp [jv_c2, z]))
      | gt => exact lv_icmp_gt hx hb hd ht (fun z => kt (by simp [jv_c2, z])) (fun z => kf (by simp [jv_c2, z]))
      | le => exact lv_icmp_le hx hb hd ht (fun z => kt (by simp [jv_c2, z])) (fun z => kf (by simp [jv_c2, z]))
    | ifnull off =>
      try dsimp only at q
      replace q := jv_if q; obtain ⟨rfl, q⟩ := q
      obtain ⟨v, tgt, rfl, ht, rfl, rfl, rfl⟩ := jv_sNull_inv q
      cases v with
      | none => exact lv_ifnullN hx hb hd ht (kk H locs ls hWd hlv hS)
      | some a => exact lv_ifnull hx hb hd (kk H locs ls hWd hlv hS)
    | ifnonnull off =>
      try dsimp only at q
      replace q := jv_if q; obtain ⟨rfl, q⟩ := q
      obtain ⟨v, tgt, rfl, ht, rfl, rfl, rfl⟩ := jv_sNonn_inv q
      cases v with
      | none => exact lv_ifnonnullN hx hb hd (kk H locs ls hWd hlv hS)
      | some a => exact lv_ifnonnull hx hb hd ht (kk H locs ls hWd hlv hS)
    | if_acmp cd off =>
      try dsimp only at q
      replace q := jv_if q; obtain ⟨rfl, q⟩ := q
      obtain ⟨x, y, tgt, rfl, ht, rfl, rfl, rfl⟩ := jv_sAcmp_inv q
      have hi : x.map (jv_ea base b) = y.map (jv_ea base b) ↔ x = y := by
        constructor
        · intro z
          cases x <;> cases y <;> first | rfl | (cases z) | (have z2 := jv_ea_inj hbb (Option.some.inj z); rw [z2])
        · intro z; rw [z]
      have hk := (kk H locs ls hWd hlv hS)
      simp only [List.map_cons, jv_ev_rf]
      cases cd with
      | eq =>
        refine lv_acmp_eq hx hb hd ht (fun z => ?_) (fun z => ?_)
        · have z2 := hi.mp z
          simpa [z2] using hk
        · have z2 : ¬ x = y := fun w => z (hi.mpr w)
          simpa [z2] using hk
      | ne =>
        refine lv_acmp_ne hx hb hd ht (fun z => ?_) (fun z => ?_)
        · have z2 : ¬ x = y := fun w => z (hi.mpr w)
          simpa [z2] using hk
        · have z2 := hi.mp z
          simpa [z2] using hk
    | goto off =>
      try dsimp only at q
      replace q := jv_if q; obtain ⟨rfl, q⟩ := q
      obtain ⟨ht, rfl, rfl, rfl⟩ := jv_jmp_inv q
      exact lv_goto hx hb hd ht (kk H locs ls hWd hlv hS)
    | tableswitch dflt lo hi offs =>
      try dsimp only at q
      obtain ⟨x, rfl, rfl, rfl, hx2⟩ := jv_sTab_inv q
      rcases hx2 with ⟨ho, ht⟩ | ⟨ho, off, hof, ht⟩
      · exact lv_tableOut hx hb hd ho ht (kk H locs ls hWd hlv hS)
      · exact lv_tableIn hx hb hd (fun z => ho (Or.inl z)) (fun z => ho (Or.inr z)) hof ht (kk H locs ls hWd hlv hS)
    | lookupswitch dflt ps =>
      try dsimp only at q
      obtain ⟨x, rfl, rfl, rfl, hp, ht⟩ := jv_sLook_inv q
      exact lv_lookup hx hb hd hp rfl ht (kk H locs ls hWd hlv hS)
    | putfield i =>
      try dsimp only at q
      replace q := jv_if q; obtain ⟨rfl, q⟩ := q
      obtain ⟨ci, k, v, a, hf, rfl, hty, hp, rfl, rfl⟩ := jv_sPut_inv q
      obtain ⟨fs, hc1, hl, rfl⟩ := jv_put_inv hp
      obtain ⟨w, hw1, hk, hlk⟩ := hG.2.2.2.2.1 _ _ _ _ hf
      have hci : ci < 999 := Nat.lt_of_lt_of_le (List.getElem?_eq_some_iff.mp hw1).1 hG.1
      obtain ⟨a', rfl, ha⟩ := jv_place hwf hc1 (jv_ne_no hci)
      have he : (jv_ws base b cA h)[a']? = some (base + a', .inr (ci, fs.map (jv_ev base b))) := by rw [jv_ws_at ha, hc1]; rfl
      have hcl := jg_cl_at hw1
      obtain ⟨hin, hty0, hnms⟩ := hG.2.2.2.1 w (List.mem_of_getElem? hw1)
      unfold jv_fty at hty
      rw [hw1] at hty
      simp only [Bool.and_eq_true, Bool.or_eq_true, Bool.not_eq_true', decide_eq_true_eq] at hty
      obtain ⟨hft, hfin⟩ := hty
      obtain ⟨hnr, hfi⟩ := jv_fit_spec (base := base) (b := b) hft
      have hl2 : k < (fs.map (jv_ev base b)).length := by rw [List.length_map]; exact hl
      have hset : (fs.map (jv_ev base b)).set k (jv_ev base b v) = (fs.set k v).map (jv_ev base b) := (List.map_set ..).symm
      have kk2 : jw_K p l e R s m args below meth c H (h.1 - n0) (h.2.1 - s0) Q D (jg_cl G) (jv_A base) s.heap (base + a') ((jv_ws base b cA h).set a' (base + a', .inr (ci, (fs.map (jv_ev base b)).set k (jv_ev base b v)))) (F0 m (pc + 3) ls (S'.map (jv_ev base b))) := by
        rw [hset]
        exact fun H1 locs1 z oq hP1 hS1 => kk H1 locs1 ls ⟨by rw [z]; exact hsz, by rw [← jv_ws_put ha (.inr (ci, fs.set k v))]; exact hP1, hWd.2.2.kept (oq b (by omega))⟩ hlv hS1
      cases hfl : (w.1.2.1 k).2.2.2 with
      | false =>
        refine jw_put (D := D) hx hb hws hin w.2 hty0 hnms hown hKK.1 hWd.2.1 hD hS a' he hcl k hk ?_ hfl hnr hfi hl2 hd kk2
        rcases hlk with hlk | ⟨-, host, hlk⟩
        · exact Or.inl (hws _ hlk)
        · exact Or.inr ⟨host, va_Nw.use rfl (hKK.2.1 _ hlk)⟩
      | true =>
        rw [hfl] at hfin
        rcases hfin with hfin | ⟨hi1, hi2⟩
        · cases hfin
        rcases hlk with hlk | ⟨hne, -⟩
        · exact jw_putF (D := D) hx hb hws hin w.2 hty0 hnms hown hKK.1 hWd.2.1 hD hS a' he hcl k hk (hws _ hlk) hfl (hnm hi1) hi2 hnr hfi hl2 hd kk2
        · exact absurd hi2 hne
    | iastore  =>
      try dsimp only at q
      replace q := jv_if q; obtain ⟨rfl, q⟩ := q
      obtain ⟨x, i, a, rfl, ha1, rfl, rfl⟩ := jv_sIast_inv q
      obtain ⟨n, f, hc1, hin, rfl⟩ := jv_ast_inv ha1
      obtain ⟨a', rfl, ha⟩ := jv_place hwf hc1 (by intro z; cases z)
      have he : (jv_ws base b cA h)[a']? = some (base + a', .inl (cA 0, n, .inl f)) := by rw [jv_ws_at ha, hc1]; rfl
      exact jw_iast (D := D) hx hb hKK.1 hWd.2.1 hD hS a' 0 he (jv_tyl_at hG.2.2.2.2.2.2.2.2.2.2.1) hin hd (fun H1 locs1 z oq hP1 hS1 => kk H1 locs1 ls ⟨by rw [z]; exact hsz, by rw [← jv_ws_put ha (.inl (0, n, .inl (va_up f i.toNatClampNeg x)))]; exact hP1, hWd.2.2.kept (oq b (by omega))⟩ hlv hS1)
    | bastore  =>
      try dsimp only at q
      replace q := jv_if q; obtain ⟨rfl, q⟩ := q
      obtain ⟨x, i, a, rfl, hx01, ha1, rfl, rfl⟩ := jv_sBast_inv q
      obtain ⟨n, f, hc1, hin, rfl⟩ := jv_ast_inv ha1
      obtain ⟨a', rfl, ha⟩ := jv_place hwf hc1 (by intro z; cases z)
      have he : (jv_ws base b cA h)[a']? = some (base + a', .inl (cA 1, n, .inl f)) := by rw [jv_ws_at ha, hc1]; rfl
      exact jw_zast (D := D) hx hb hKK.1 hWd.2.1 hD hS a' 1 he (jv_tyl_at hG.2.2.2.2.2.2.2.2.2.2.2.1) hx01 hin hd (fun H1 locs1 z oq hP1 hS1 => kk H1 locs1 ls ⟨by rw [z]; exact hsz, by rw [← jv_ws_put ha (.inl (1, n, .inl (va_up f i.toNatClampNeg x)))]; exact hP1, hWd.2.2.kept (oq b (by omega))⟩ hlv hS1)
    | aastore  =>
      try dsimp only at q
      replace q := jv_if q; obtain ⟨rfl, q⟩ := q
      obtain ⟨v, i, a, rfl, ha1, rfl, rfl⟩ := jv_sAast_inv q
      obtain ⟨t, n, f, w, hc1, hin, ht2, ht, hisc, rfl⟩ := jv_rst_inv ha1
      obtain ⟨a', rfl, ha⟩ := jv_place hwf hc1 (by intro z; cases z)
      have he : (jv_ws base b cA h)[a']? = some (base + a', .inl (cA t, n, .inr (.inr (.inr (.inr (fun j => (f j).map (jv_ea base b))))))) := by rw [jv_ws_at ha, hc1]; rfl
      have hup : va_up (fun j => (f j).map (jv_ea base b)) i.toNatClampNeg (v.map (jv_ea base b)) = (fun j => (va_up f i.toNatClampNeg v j).map (jv_ea base b)) := by
        funext j
        by_cases hj : j = i.toNatClampNeg <;> simp [va_up, hj]
      have kk2 : jw_K p l e R s m args below meth c H (h.1 - n0) (h.2.1 - s0) Q D (jg_cl G) (jv_A base) s.heap (base + a') ((jv_ws base b cA h).set a' (base + a', .inl (cA t, n, .inr (.inr (.inr (.inr (va_up (fun j => (f j).map (jv_ea base b)) i.toNatClampNeg (v.map (jv_ea base b))))))))) (F0 m (pc + 1) ls (S'.map (jv_ev base b))) := by
        rw [hup]
        exact fun H1 locs1 z oq hP1 hS1 => kk H1 locs1 ls ⟨by rw [z]; exact hsz, by rw [← jv_ws_put ha (.inl (t, n, .inr (va_up f i.toNatClampNeg v)))]; exact hP1, hWd.2.2.kept (oq b (by omega))⟩ hlv hS1
      obtain ⟨C, ci, wq, hty, hw1, hw2⟩ := jg_tyO hG ht2 (List.getElem?_eq_some_iff.mp ht).1
      have hwe : w = (.object C, ci) := Option.some.inj (ht.symm.trans hty)
      subst hwe
      have hty := jv_tyl_at (cA := cA) hty
      cases v with
      | none => exact jw_astqN (D := D) hx hb hKK.1 hWd.2.1 hD hS a' t he hty hin hd kk2
      | some a2 =>
        obtain ⟨fs, hc2⟩ := jv_isC_inv hisc
        have hci : ci < 999 := Nat.lt_of_lt_of_le (List.getElem?_eq_some_iff.mp hw1).1 hG.1
        obtain ⟨a3, rfl, ha3⟩ := jv_place hwf hc2 (jv_ne_no hci)
        have he2 : (jv_ws base b cA h)[a3]? = some (base + a3, .inr (ci, fs.map (jv_ev base b))) := by rw [jv_ws_at ha3, hc2]; rfl
        have hty2 : (jv_tyl G cA)[t]? = some (cA t, .object wq.1.1) := by rw [hw2]; exact hty
        exact jw_astq (D := D) (r := wq.1) hx hb hKK.1 hWd.2.1 hD hS a' t a3 ci he hty2 he2 (jg_cl_at hw1) hin hd kk2
    | newarray atype =>
      try dsimp only at q
      cases atype with
      | int =>
        replace q := jv_if q; obtain ⟨rfl, q⟩ := q
        obtain ⟨n, r, rfl, rfl, q2, rfl, rfl⟩ := jv_sNewi_inv q
        obtain ⟨hn, hN, rfl⟩ := jv_newi_inv q2
        have hc1 : h.1 - n0 + 1 ≤ R.cells := by have : h.1 + 1 - n0 ≤ R.cells := hrc; omega
        have hs1 : h.2.1 - s0 + n.toNatClampNeg ≤ R.slots := by have : h.2.1 + n.toNatClampNeg - s0 ≤ R.slots := hrs; omega
        refine jw_newa (D := D) (A := jv_A base) (H0 := s.heap) (atype := .int) (ty := .int) hx hb (hws _ hG.2.2.2.2.2.2.2.2.2.2.2.2.1) rfl rfl hKK.1 hWd.2.1 hS (t0 := 0) (jv_tyl_at hG.2.2.2.2.2.2.2.2.2.2.1) (fun C z => by cases z) hn rfl (Nat.le_trans (Nat.mul_le_mul_right _ hN) (by decide)) hc1 hs1 hd ?_
        rw [hsz]
        exact fun H1 z oq hP1 hS1 => W.cs (cells' := h.1 + 1 - n0) (slots' := h.2.1 + n.toNatClampNeg - s0) (by omega) (by omega) (kk H1 locs ls ⟨by rw [z, hsz]; rfl, by rw [jv_ws_push]; exact hP1, hWd.2.2.kept (oq b (by omega))⟩ hlv hS1)
      | boolean =>
        replace q := jv_if q; obtain ⟨rfl, q⟩ := q
        obtain ⟨n, r, rfl, rfl, q2, rfl, rfl⟩ := jv_sNewi_inv q
        obtain ⟨hn, hN, rfl⟩ := jv_newi_inv q2
        have hc1 : h.1 - n0 + 1 ≤ R.cells := by have : h.1 + 1 - n0 ≤ R.cells := hrc; omega
        have hs1 : h.2.1 - s0 + n.toNatClampNeg ≤ R.slots := by have : h.2.1 + n.toNatClampNeg - s0 ≤ R.slots := hrs; omega
        refine jw_newa (D := D) (A := jv_A base) (H0 := s.heap) (atype := .boolean) (ty := .boolean) hx hb (hws _ hG.2.2.2.2.2.2.2.2.2.2.2.2.2.1) rfl rfl hKK.1 hWd.2.1 hS (t0 := 1) (jv_tyl_at hG.2.2.2.2.2.2.2.2.2.2.2.1) (fun C z => by cases z) hn rfl (Nat.le_trans (Nat.mul_le_mul_right _ hN) (by decide)) hc1 hs1 hd ?_
        rw [hsz]
        exact fun H1 z oq hP1 hS1 => W.cs (cells' := h.1 + 1 - n0) (slots' := h.2.1 + n.toNatClampNeg - s0) (by omega) (by omega) (kk H1 locs ls ⟨by rw [z, hsz]; rfl, by rw [jv_ws_push]; exact hP1, hWd.2.2.kept (oq b (by omega))⟩ hlv hS1)
      | _ => cases q
    | anewarray i =>
      try dsimp only at q
      replace q := jv_if q; obtain ⟨rfl, q⟩ := q
      obtain ⟨t, n, r, ht, rfl, rfl, q2, rfl, rfl⟩ := jv_sNewr_inv q
      obtain ⟨hn, hN, rfl⟩ := jv_newr_inv q2
      obtain ⟨C, ci, hty, hlk⟩ := hG.2.2.2.2.2.2.2.1 _ _ _ ht
      have hc1 : h.1 - n0 + 1 ≤ R.cells := by have : h.1 + 1 - n0 ≤ R.cells := hrc; omega
      have hs1 : h.2.1 - s0 + n.toNatClampNeg ≤ R.slots := by have : h.2.1 + n.toNatClampNeg - s0 ≤ R.slots := hrs; omega
      refine jw_newq (D := D) (A := jv_A base) (H0 := s.heap) hx hb hown (hws _ hlk) (hKK.2.2 _ _ _ hty) hKK.1 hWd.2.1 hS (t0 := t) (jv_tyl_at hty) hn rfl (by omega) hc1 hs1 hd ?_
      rw [hsz]
      exact fun H1 z oq hP1 hS1 => W.cs (cells' := h.1 + 1 - n0) (slots' := h.2.1 + n.toNatClampNeg - s0) (by omega) (by omega) (kk H1 locs ls ⟨by rw [z, hsz]; rfl, by rw [jv_ws_push]; exact hP1, hWd.2.2.kept (oq b (by omega))⟩ hlv hS1)
    | new i =>
      try dsimp only at q
      replace q := jv_if q; obtain ⟨rfl, q⟩ := q
      obtain ⟨ci, ht, rfl, q2, rfl, rfl⟩ := jv_sNew_inv q
      obtain ⟨w, hw1, rfl⟩ := jv_newo_inv q2
      obtain ⟨w', hw2, hlk, hins, hini⟩ := hG.2.2.2.2.2.2.1 _ _ _ ht
      cases hw1.symm.trans hw2
      obtain ⟨hin, hty0, hnms⟩ := hG.2.2.2.1 w (List.mem_of_getElem? hw1)
      have hc1 : h.1 - n0 + 1 ≤ R.cells := by have : h.1 + 1 - n0 ≤ R.cells := hrc; omega
      have hs1 : h.2.1 - s0 + w.1.2.2 ≤ R.slots := by have : h.2.1 + w.1.2.2 - s0 ≤ R.slots := hrs; omega
      have hfs : ∀ j, j < w.1.2.2 → defaultValue (w.2 j) = vp_V (((List.range w.1.2.2).map (fun k => jv_def (w.2 k))).map (jv_ev base b)) j := by
        intro j hj
        have hdv : jv_ev base b (jv_def (w.2 j)) = defaultValue (w.2 j) := by unfold jv_def; cases w.2 j <;> rfl
        simp [vp_V, hj, hdv]
      refine jw_new (D := D) (A := jv_A base) (H0 := s.heap) hx hb hws hin w.2 hty0 hown (hws _ hlk) (hws _ hins) (hws _ hini) hKK.1 hWd.2.1 hS (jg_cl_at hw1) hfs hc1 hs1 hd ?_
      rw [hsz]
      exact fun H1 z oq hP1 hS1 => W.cs (cells' := h.1 + 1 - n0) (slots' := h.2.1 + w.1.2.2 - s0) (by omega) (by omega) (kk H1 locs ls ⟨by rw [z, hsz]; rfl, by rw [jv_ws_push]; exact hP1, hWd.2.2.kept (oq b (by omega))⟩ hlv hS1)
    | invokevirtual i =>
      try dsimp only at q
      replace q := jv_if q; obtain ⟨rfl, q⟩ := q
      split at q
      · rename_i y n hi
        obtain ⟨a, rest, r, hdr, hcats, hisc, hcl, rfl, rfl, rfl⟩ := jv_cV_inv q
        obtain ⟨hmok, heok, hlk, hdesc, hinst, hsel, w, hw1, hwn⟩ := hG.2.2.2.2.2.1 _ _ _ _ _ hi
        obtain ⟨hle1, hle2, hwf', hmet⟩ := hcal _ _ _ _ _ hcl hwf hmok
        have hlt : n < S.length := by
          rcases Nat.lt_or_ge n S.length with z | z
          · exact z
          · rw [List.drop_eq_nil_of_le z] at hdr; cases hdr
        have hstk : S.map (jv_ev base b) = ((S.take n).reverse.map (jv_ev base b)).reverse ++ .ref (jv_ea base b a) :: rest.map (jv_ev base b) := by
          rw [← List.map_reverse, List.reverse_reverse, ← jv_ev_ref, ← List.map_cons, ← hdr, ← List.map_append, List.take_append_drop]
        have hlen2 : ((S.take n).reverse.map (jv_ev base b)).length = n := by simp; omega
        have hroom : (jv_room G y (h'.1 - h.1) (h'.2.1 - h.2.1)).frames + 1 ≤ R.frames ∧ 8 + (jg_maxL G y + 11) + (jv_room G y (h'.1 - h.1) (h'.2.1 - h.2.1)).locals ≤ R.locals := ⟨Nat.le_trans heok.1 hR.1, Nat.le_trans heok.2 hR.2⟩
        have hroom2 : h.1 - n0 + (h'.1 - h.1) ≤ R.cells ∧ h.2.1 - s0 + (h'.2.1 - h.2.1) ≤ R.slots := ⟨by omega, by omega⟩
        obtain ⟨fs, hc1⟩ := jv_isC_inv hisc
        have hci : jg_mc G y < 999 := Nat.lt_of_lt_of_le (List.getElem?_eq_some_iff.mp hw1).1 hG.1
        obtain ⟨a', rfl, ha⟩ := jv_place hwf hc1 (jv_ne_no hci)
        have he : (jv_ws base b cA h)[a']? = some (base + a', .inr (jg_mc G y, fs.map (jv_ev base b))) := by rw [jv_ws_at ha, hc1]; rfl
        have hpre : PreV s H (jg_y G y).cls (base + a') (jv_Pc G X D base b cA (.ref (a' + 1) :: (S.take n).reverse) h) ((S.take n).reverse.map (jv_ev base b)) := ⟨jv_blind hG.2.1, by rw [← hwn]; exact va_recv hKK.1 hWd.2.1 (jg_cl_at hw1) he, fun U hU hW => ⟨rfl, ⟨by rw [hU]; exact hWd.1, by rw [hU]; exact hWd.2.1, by rw [hU]; exact hWd.2.2.moved hW.alike⟩, hKK.warm hG.2.1 hW⟩⟩
        have hrun : va_Run p l e R s m args below meth c H locs (h.1 - n0) (h.2.1 - s0) (h'.1 - h.1) (h'.2.1 - h.2.1) (F0 m pc ls (S.map (jv_ev base b))) (rest.map (jv_ev base b)) (jv_Qc G X D base b cA r h' (Value.ref (base + a') :: (S.take n).reverse.map (jv_ev base b)).toArray) (jv_A base) := by
          rcases hlk with hlk | ⟨host, hlk⟩
          · exact va_runV ⟨hx, hb, hml, hown, hts⟩ hmet ⟨callB_of n hts (jg_good hG hmok) rfl rfl rfl (hws _ hmok.2.2.2.1) (hws _ hlk) ⟨hmok.2.2.2.2.1, hmok.2.2.2.2.2, hdesc⟩ hroom, hws _ hinst, hws _ hsel⟩ hpre rfl hlen2 hlv.1.1 hstk (lv_room (by rw [jv_cats_ev]; exact hcats)) hd hroom2
          · exact va_runVN ⟨hx, hb, hml, hown, hts⟩ hmet ⟨va_cnB n hts (jg_good hG hmok) rfl rfl rfl (hKK.2.1 _ hlk) (hws _ hmok.2.2.2.1) ⟨hmok.2.2.2.2.1, hmok.2.2.2.2.2, hdesc⟩ hroom, hws _ hinst, hws _ hsel⟩ hpre rfl hlen2 hlv.1.1 hstk (lv_room (by rw [jv_cats_ev]; exact hcats)) hd hroom2
        refine jv_goOn hrun hS (fun H1 locs1 hWd1 hS1 => W.cs (cells' := h'.1 - n0) (slots' := h'.2.1 - s0) (by omega) (by omega) ?_)
        have := kk H1 locs1 ls hWd1 hlv hS1
        rwa [jv_ret_map] at this
      · cases q
    | invokestatic i =>
      try dsimp only at q
      replace q := jv_if q; obtain ⟨rfl, q⟩ := q
      split at q
      · rename_i y n hi
        obtain ⟨r, hle, hcats, hcl, rfl, rfl, rfl⟩ := jv_cS_inv q
        obtain ⟨hmok, heok, hlk, hdesc, hstat⟩ := hG.2.2.2.2.2.1 _ _ _ _ _ hi
        obtain ⟨hle1, hle2, hwf', hmet⟩ := hcal _ _ _ _ _ hcl hwf hmok
        have hroom : (jv_room G y (h'.1 - h.1) (h'.2.1 - h.2.1)).frames + 1 ≤ R.frames ∧ 8 + (jg_maxL G y + 11) + (jv_room G y (h'.1 - h.1) (h'.2.1 - h.2.1)).locals ≤ R.locals := ⟨Nat.le_trans heok.1 hR.1, Nat.le_trans heok.2 hR.2⟩
        have hroom2 : h.1 - n0 + (h'.1 - h.1) ≤ R.cells ∧ h.2.1 - s0 + (h'.2.1 - h.2.1) ≤ R.slots := ⟨by omega, by omega⟩
        have hstk : S.map (jv_ev base b) = ((S.take n).reverse.map (jv_ev base b)).reverse ++ (S.drop n).map (jv_ev base b) := by
          rw [← List.map_reverse, List.reverse_reverse, ← List.map_append, List.take_append_drop]
        have hlen2 : ((S.take n).reverse.map (jv_ev base b)).length = n := by simp; omega
        have hpre : PreS s H (jv_Pc G X D base b cA (S.take n).reverse h) ((S.take n).reverse.map (jv_ev base b)) := ⟨jv_blind hG.2.1, fun U hU hW => ⟨rfl, ⟨by rw [hU]; exact hWd.1, by rw [hU]; exact hWd.2.1, by rw [hU]; exact hWd.2.2.moved hW.alike⟩, hKK.warm hG.2.1 hW⟩⟩
        have hrun : va_Run p l e R s m args below meth c H locs (h.1 - n0) (h.2.1 - s0) (h'.1 - h.1) (h'.2.1 - h.2.1) (F0 m pc ls (S.map (jv_ev base b))) ((S.drop n).map (jv_ev base b)) (jv_Qc G X D base b cA r h' ((S.take n).reverse.map (jv_ev base b)).toArray) (jv_A base) := by
          rcases hlk with hlk | ⟨host, hlk⟩
          · exact va_runS ⟨hx, hb, hml, hown, hts⟩ hmet ⟨callB_of n hts (jg_good hG hmok) rfl rfl rfl (hws _ hmok.2.2.2.1) (hws _ hlk) ⟨hmok.2.2.2.2.1, hmok.2.2.2.2.2, hdesc⟩ hroom, hws _ hstat⟩ hpre rfl hlen2 hlv.1.1 hstk (lv_room (by rw [jv_cats_ev]; exact hcats)) hd hroom2
          · exact va_runSN ⟨hx, hb, hml, hown, hts⟩ hmet ⟨va_cnB n hts (jg_good hG hmok) rfl rfl rfl (hKK.2.1 _ hlk) (hws _ hmok.2.2.2.1) ⟨hmok.2.2.2.2.1, hmok.2.2.2.2.2, hdesc⟩ hroom, hws _ hstat, trivial⟩ hpre rfl hlen2 hlv.1.1 hstk (lv_room (by rw [jv_cats_ev]; exact hcats)) hd hroom2
        refine jv_goOn hrun hS (fun H1 locs1 hWd1 hS1 => W.cs (cells' := h'.1 - n0) (slots' := h'.2.1 - s0) (by omega) (by omega) ?_)
        have := kk H1 locs1 ls hWd1 hlv hS1
        rwa [jv_ret_map] at this
      · cases q
    | invokespecial i =>
      try dsimp only at q
      replace q := jv_if q; obtain ⟨rfl, q⟩ := q
      split at q
      · rename_i y n hi
        obtain ⟨a, rest, r, hdr, hcats, hcl, rfl, rfl, rfl⟩ := jv_cI_inv q
        obtain ⟨hmok, heok, hlk, hdesc, hinst, hnam, hrt⟩ := hG.2.2.2.2.2.1 _ _ _ _ _ hi
        obtain ⟨hle1, hle2, hwf', hmet⟩ := hcal _ _ _ _ _ hcl hwf hmok
        have hlt : n < S.length := by
          rcases Nat.lt_or_ge n S.length with z | z
          · exact z
          · rw [List.drop_eq_nil_of_le z] at hdr; cases hdr
        have hstk : S.map (jv_ev base b) = ((S.take n).reverse.map (jv_ev base b)).reverse ++ .ref (jv_ea base b a) :: rest.map (jv_ev base b) := by
          rw [← List.map_reverse, List.reverse_reverse, ← jv_ev_ref, ← List.map_cons, ← hdr, ← List.map_append, List.take_append_drop]
        have hlen2 : ((S.take n).reverse.map (jv_ev base b)).length = n := by simp; omega
        have hroom : (jv_room G y (h'.1 - h.1) (h'.2.1 - h.2.1)).frames + 1 ≤ R.frames ∧ 8 + (jg_maxL G y + 11) + (jv_room G y (h'.1 - h.1) (h'.2.1 - h.2.1)).locals ≤ R.locals := ⟨Nat.le_trans heok.1 hR.1, Nat.le_trans heok.2 hR.2⟩
        have hroom2 : h.1 - n0 + (h'.1 - h.1) ≤ R.cells ∧ h.2.1 - s0 + (h'.2.1 - h.2.1) ≤ R.slots := ⟨by omega, by omega⟩
        have hpre : PreS s H (jv_Pc G X D base b cA (.ref a :: (S.take n).reverse) h) (.ref (jv_ea base b a) :: (S.take n).reverse.map (jv_ev base b)) := ⟨jv_blind hG.2.1, fun U hU hW => ⟨rfl, ⟨by rw [hU]; exact hWd.1, by rw [hU]; exact hWd.2.1, by rw [hU]; exact hWd.2.2.moved hW.alike⟩, hKK.warm hG.2.1 hW⟩⟩
        unfold jv_Met jg_mws at hmet
        rw [hrt] at hmet
        have hgood : GoodIn (jg_ws G) (Cond.code (jg_y G y) (jg_code G y) (jg_maxL G y) none :: jg_ws G) := by rw [← hrt]; exact jg_good hG hmok
        have hrun : va_Run p l e R s m args below meth c H locs (h.1 - n0) (h.2.1 - s0) (h'.1 - h.1) (h'.2.1 - h.2.1) (F0 m pc ls (S.map (jv_ev base b))) (rest.map (jv_ev base b)) (jv_Qc G X D base b cA r h' (Value.ref (jv_ea base b a) :: (S.take n).reverse.map (jv_ev base b)).toArray) (jv_A base) := by
          rcases hlk with hlk | ⟨host, hlk⟩
          · exact va_runI ⟨hx, hb, hml, hown, hts⟩ hmet ⟨callB_of n hts hgood rfl rfl rfl (hws _ hmok.2.2.2.1) (hws _ hlk) ⟨hmok.2.2.2.2.1, hmok.2.2.2.2.2, hdesc⟩ hroom, hnam, hws _ hinst⟩ hpre rfl hlen2 hlv.1.1 hstk (lv_room (by rw [jv_cats_ev]; exact hcats)) hd hroom2
          · exact va_runIN ⟨hx, hb, hml, hown, hts⟩ hmet ⟨va_cnB n hts hgood rfl rfl rfl (hKK.2.1 _ hlk) (hws _ hmok.2.2.2.1) ⟨hmok.2.2.2.2.1, hmok.2.2.2.2.2, hdesc⟩ hroom, hnam, hws _ hinst⟩ hpre rfl hlen2 hlv.1.1 hstk (lv_room (by rw [jv_cats_ev]; exact hcats)) hd hroom2
        refine jv_goOn hrun hS (fun H1 locs1 hWd1 hS1 => W.cs (cells' := h'.1 - n0) (slots' := h'.2.1 - s0) (by omega) (by omega) ?_)
        have := kk H1 locs1 ls hWd1 hlv hS1
        rwa [jv_ret_map] at this
      · rename_i y n hi
        obtain ⟨a, rfl, hcats, rfl, rfl, rfl⟩ := jv_c0_inv q
        obtain ⟨hlk, hinst, hcode, hfr1, hlo20⟩ := hG.2.2.2.2.2.1 _ _ _ _ _ hi
        refine W.objInit hx hb hown (hws _ hlk) (hws _ hinst) (hws _ hcode) rfl (by rw [hml]; exact hlv.1.1) rfl hd (Nat.le_trans hfr1 hR.1) ?_ (kk H locs ls hWd hlv hS)
        have h8 := lv_room (m := m) (pc := pc) (ls := ls) (rest := (Value.ref a :: S').map (jv_ev base b)) (st := S'.map (jv_ev base b)) (by rw [jv_cats_ev]; exact hcats)
        have h40 := hR.2
        omega
      · cases q
    | ireturn  =>
      try dsimp only at q
      obtain ⟨-, q⟩ := jv_if q
      unfold jv_iret at q
      split at q <;> first | (cases q) | (obtain ⟨-, q⟩ := jv_if q; cases q)
    | lreturn  =>
      try dsimp only at q
      obtain ⟨-, q⟩ := jv_if q
      unfold jv_lret at q
      split at q <;> first | (cases q) | (obtain ⟨-, q⟩ := jv_if q; cases q)
    | areturn  =>
      try dsimp only at q
      obtain ⟨-, q⟩ := jv_if q
      unfold jv_aret at q
      split at q <;> first | (cases q) | (obtain ⟨-, q⟩ := jv_if q; cases q)
    | return_  =>
      try dsimp only at q
      obtain ⟨-, q⟩ := jv_if q
      unfold jv_vret at q
      split at q <;> first | (cases q) | (obtain ⟨-, q⟩ := jv_if q; cases q)
    | _ => cases q
end JvStep
