/-! ===== a run of the small machine is a run of the machine ===== -/
theorem jv_go_inl {pc : Nat} {L : jv_L} {h : jv_H} {o : Option (List Value)} {r : jv_R} (q : jv_go pc L h o = some (.inl r)) : False := by cases o <;> cases q
theorem jv_gol_inl {pc : Nat} {h : jv_H} {o : Option (jv_L × List Value)} {r : jv_R} (q : jv_gol pc h o = some (.inl r)) : False := by cases o <;> cases q
theorem jv_goh_inl {pc : Nat} {L : jv_L} {S : List Value} {o : Option jv_H} {r : jv_R} (q : jv_goh pc L S o = some (.inl r)) : False := by cases o <;> cases q
theorem jv_done_inl {pc : Nat} {L : jv_L} {S : List Value} {o : Option jv_R} {r : jv_R} (q : jv_done pc L S o = some (.inl r)) : False := by cases o <;> cases q
theorem jv_jmp_inl {pc : Nat} {off : Int} {L : jv_L} {S : List Value} {h : jv_H} {r : jv_R} (q : jv_jmp pc off L S h = some (.inl r)) : False := by
  unfold jv_jmp at q
  obtain ⟨-, q⟩ := jv_if q
  cases q
theorem jv_br_inl {b : Bool} {pc : Nat} {off : Int} {L : jv_L} {S : List Value} {h : jv_H} {r : jv_R} (q : jv_br b pc off L S h = some (.inl r)) : False := by
  unfold jv_br at q
  obtain ⟨-, q⟩ := jv_if q
  cases q
def jv_rets (G : jv_G) (mi pc : Nat) (S : List Value) (r : Option Value) : Prop :=
  (decode (jg_code G mi) pc = .ok (.ireturn, 1) ∧ ∃ v, S = [.int v] ∧ r = some (.int v) ∧ (jg_ret G mi = some .int ∨ (jg_ret G mi = some .boolean ∧ (v = 0 ∨ v = 1)))) ∨
  (decode (jg_code G mi) pc = .ok (.lreturn, 1) ∧ ∃ v, S = [.long v] ∧ r = some (.long v) ∧ jg_ret G mi = some .long) ∨
  (decode (jg_code G mi) pc = .ok (.areturn, 1) ∧ ∃ x C, S = [va_rf x] ∧ r = some (va_rf x) ∧ jg_ret G mi = some (.object C)) ∨
  (decode (jg_code G mi) pc = .ok (.return_, 1) ∧ S = [] ∧ r = none ∧ jg_ret G mi = none)
set_option maxHeartbeats 4000000 in
theorem jv_one_ret {G : jv_G} {X : Nat × (Nat → Int32)} {call : Nat → List Value → jv_H → Option jv_R} {mi pc : Nat} {L : jv_L} {S : List Value} {h hf : jv_H} {r : Option Value} (q : jv_one G X call mi (pc, L, S, h) = some (.inl (r, hf))) : hf = h ∧ jv_rets G mi pc S r := by
  unfold jv_one at q
  split at q
  case h_2 => cases q
  case h_1 w hd =>
    obtain ⟨ins, len⟩ := w
    dsimp only at q hd
    unfold jv_ins at q
    cases ins with
    | iconst n =>
      try dsimp only at q
      obtain ⟨-, q⟩ := jv_if q
      cases q
    | bipush n =>
      try dsimp only at q
      obtain ⟨-, q⟩ := jv_if q
      cases q
    | sipush n =>
      try dsimp only at q
      obtain ⟨-, q⟩ := jv_if q
      cases q
    | aconst_null  =>
      try dsimp only at q
      obtain ⟨-, q⟩ := jv_if q
      cases q
    | ldc i =>
      try dsimp only at q
      obtain ⟨-, q⟩ := jv_if q
      exact (jv_go_inl q).elim
    | ldc_w i =>
      try dsimp only at q
      obtain ⟨-, q⟩ := jv_if q
      exact (jv_go_inl q).elim
    | ldc2_w i =>
      try dsimp only at q
      obtain ⟨-, q⟩ := jv_if q
      exact (jv_go_inl q).elim
    | iload_n i =>
      try dsimp only at q
      obtain ⟨-, q⟩ := jv_if q
      exact (jv_go_inl q).elim
    | iload i =>
      try dsimp only at q
      obtain ⟨-, q⟩ := jv_if q
      exact (jv_go_inl q).elim
    | aload_n i =>
      try dsimp only at q
      obtain ⟨-, q⟩ := jv_if q
      exact (jv_go_inl q).elim
    | aload i =>
      try dsimp only at q
      obtain ⟨-, q⟩ := jv_if q
      exact (jv_go_inl q).elim
    | iadd  =>
      try dsimp only at q
      obtain ⟨-, q⟩ := jv_if q
      exact (jv_go_inl q).elim
    | isub  =>
      try dsimp only at q
      obtain ⟨-, q⟩ := jv_if q
      exact (jv_go_inl q).elim
    | imul  =>
      try dsimp only at q
      obtain ⟨-, q⟩ := jv_if q
      exact (jv_go_inl q).elim
    | iand  =>
      try dsimp only at q
      obtain ⟨-, q⟩ := jv_if q
      exact (jv_go_inl q).elim
    | ior  =>
      try dsimp only at q
      obtain ⟨-, q⟩ := jv_if q
      exact (jv_go_inl q).elim
    | ishl  =>
      try dsimp only at q
      obtain ⟨-, q⟩ := jv_if q
      exact (jv_go_inl q).elim
    | ishr  =>
      try dsimp only at q
      obtain ⟨-, q⟩ := jv_if q
      exact (jv_go_inl q).elim
    | iushr  =>
      try dsimp only at q
      obtain ⟨-, q⟩ := jv_if q
      exact (jv_go_inl q).elim
    | idiv  =>
      try dsimp only at q
      obtain ⟨-, q⟩ := jv_if q
      exact (jv_go_inl q).elim
    | irem  =>
      try dsimp only at q
      obtain ⟨-, q⟩ := jv_if q
      exact (jv_go_inl q).elim
    | ineg  =>
      try dsimp only at q
      obtain ⟨-, q⟩ := jv_if q
      exact (jv_go_inl q).elim
    | i2l  =>
      try dsimp only at q
      obtain ⟨-, q⟩ := jv_if q
      exact (jv_go_inl q).elim
    | lcmp  =>
      try dsimp only at q
      obtain ⟨-, q⟩ := jv_if q
      exact (jv_go_inl q).elim
    | dup  =>
      try dsimp only at q
      obtain ⟨-, q⟩ := jv_if q
      exact (jv_go_inl q).elim
    | pop  =>
      try dsimp only at q
      obtain ⟨-, q⟩ := jv_if q
      exact (jv_go_inl q).elim
    | dup_x1  =>
      try dsimp only at q
      obtain ⟨-, q⟩ := jv_if q
      exact (jv_go_inl q).elim
    | dup_x2  =>
      try dsimp only at q
      obtain ⟨-, q⟩ := jv_if q
      exact (jv_go_inl q).elim
    | dup2  =>
      try dsimp only at q
      obtain ⟨-, q⟩ := jv_if q
      exact (jv_go_inl q).elim
    | getfield i =>
      try dsimp only at q
      obtain ⟨-, q⟩ := jv_if q
      exact (jv_go_inl q).elim
    | arraylength  =>
      try dsimp only at q
      obtain ⟨-, q⟩ := jv_if q
      exact (jv_go_inl q).elim
    | iaload  =>
      try dsimp only at q
      obtain ⟨-, q⟩ := jv_if q
      exact (jv_go_inl q).elim
    | baload  =>
      try dsimp only at q
      obtain ⟨-, q⟩ := jv_if q
      exact (jv_go_inl q).elim
    | aaload  =>
      try dsimp only at q
      obtain ⟨-, q⟩ := jv_if q
      exact (jv_go_inl q).elim
    | istore_n i =>
      try dsimp only at q
      obtain ⟨-, q⟩ := jv_if q
      exact (jv_gol_inl q).elim
    | istore i =>
      try dsimp only at q
      obtain ⟨-, q⟩ := jv_if q
      exact (jv_gol_inl q).elim
    | astore_n i =>
      try dsimp only at q
      obtain ⟨-, q⟩ := jv_if q
      exact (jv_gol_inl q).elim
    | astore i =>
      try dsimp only at q
      obtain ⟨-, q⟩ := jv_if q
      exact (jv_gol_inl q).elim
    | iinc i n =>
      try dsimp only at q
      obtain ⟨-, q⟩ := jv_if q
      split at q <;> cases q
    | ifCond cd off =>
      try dsimp only at q
      obtain ⟨-, q⟩ := jv_if q
      unfold jv_sIf at q
      repeat' split at q
      all_goals first | (cases q; done) | exact (jv_br_inl q).elim | (obtain ⟨-, q⟩ := jv_if q; exact (jv_br_inl q).elim)
    | if_icmp cd off =>
      try dsimp only at q
      obtain ⟨-, q⟩ := jv_if q
      unfold jv_sIcmp at q
      repeat' split at q
      all_goals first | (cases q; done) | exact (jv_br_inl q).elim | (obtain ⟨-, q⟩ := jv_if q; exact (jv_br_inl q).elim)
    | ifnull off =>
      try dsimp only at q
      obtain ⟨-, q⟩ := jv_if q
      unfold jv_sNull at q
      repeat' split at q
      all_goals first | (cases q; done) | exact (jv_br_inl q).elim | (obtain ⟨-, q⟩ := jv_if q; exact (jv_br_inl q).elim)
    | ifnonnull off =>
      try dsimp only at q
      obtain ⟨-, q⟩ := jv_if q
      unfold jv_sNonn at q
      repeat' split at q
      all_goals first | (cases q; done) | exact (jv_br_inl q).elim | (obtain ⟨-, q⟩ := jv_if q; exact (jv_br_inl q).elim)
    | if_acmp cd off =>
      try dsimp only at q
      obtain ⟨-, q⟩ := jv_if q
      unfold jv_sAcmp at q
      repeat' split at q
      all_goals first | (cases q; done) | exact (jv_br_inl q).elim | (obtain ⟨-, q⟩ := jv_if q; exact (jv_br_inl q).elim)
    | goto off =>
      try dsimp only at q
      obtain ⟨-, q⟩ := jv_if q
      exact (jv_jmp_inl q).elim
    | tableswitch dflt lo hi offs =>
      try dsimp only at q
      unfold jv_sTab at q
      repeat' split at q
      all_goals first | (cases q; done) | exact (jv_jmp_inl q).elim | (obtain ⟨-, q⟩ := jv_if q; exact (jv_jmp_inl q).elim)
    | lookupswitch dflt ps =>
      try dsimp only at q
      unfold jv_sLook at q
      repeat' split at q
      all_goals first | (cases q; done) | exact (jv_jmp_inl q).elim | (obtain ⟨-, q⟩ := jv_if q; exact (jv_jmp_inl q).elim)
    | putfield i =>
      try dsimp only at q
      obtain ⟨-, q⟩ := jv_if q
      unfold jv_sPut at q
      repeat' split at q
      all_goals first | (cases q; done) | exact (jv_goh_inl q).elim | (obtain ⟨-, q⟩ := jv_if q; exact (jv_goh_inl q).elim)
    | iastore  =>
      try dsimp only at q
      obtain ⟨-, q⟩ := jv_if q
      unfold jv_sIast at q
      repeat' split at q
      all_goals first | (cases q; done) | exact (jv_goh_inl q).elim | (obtain ⟨-, q⟩ := jv_if q; exact (jv_goh_inl q).elim)
    | bastore  =>
      try dsimp only at q
      obtain ⟨-, q⟩ := jv_if q
      unfold jv_sBast at q
      repeat' split at q
      all_goals first | (cases q; done) | exact (jv_goh_inl q).elim | (obtain ⟨-, q⟩ := jv_if q; exact (jv_goh_inl q).elim)
    | aastore  =>
      try dsimp only at q
      obtain ⟨-, q⟩ := jv_if q
      unfold jv_sAast at q
      repeat' split at q
      all_goals first | (cases q; done) | exact (jv_goh_inl q).elim | (obtain ⟨-, q⟩ := jv_if q; exact (jv_goh_inl q).elim)
    | newarray atype =>
      try dsimp only at q
      cases atype <;> first
        | (obtain ⟨-, q⟩ := jv_if q
           unfold jv_sNewi at q
           split at q
           · exact (jv_goh_inl q).elim
           · cases q)
        | (cases q)
    | anewarray i =>
      try dsimp only at q
      obtain ⟨-, q⟩ := jv_if q
      unfold jv_sNewr at q
      repeat' split at q
      all_goals first | (cases q; done) | exact (jv_goh_inl q).elim | (obtain ⟨-, q⟩ := jv_if q; exact (jv_goh_inl q).elim)
    | new i =>
      try dsimp only at q
      obtain ⟨-, q⟩ := jv_if q
      unfold jv_sNew at q
      repeat' split at q
      all_goals first | (cases q; done) | exact (jv_goh_inl q).elim | (obtain ⟨-, q⟩ := jv_if q; exact (jv_goh_inl q).elim)
    | invokevirtual i =>
      try dsimp only at q
      obtain ⟨-, q⟩ := jv_if q
      split at q
      · unfold jv_cV at q
        split at q
        · obtain ⟨-, q⟩ := jv_if q
          exact (jv_done_inl q).elim
        · cases q
      · cases q
    | invokestatic i =>
      try dsimp only at q
      obtain ⟨-, q⟩ := jv_if q
      split at q
      · unfold jv_cS at q
        obtain ⟨-, q⟩ := jv_if q
        exact (jv_done_inl q).elim
      · cases q
    | invokespecial i =>
      try dsimp only at q
      obtain ⟨-, q⟩ := jv_if q
      split at q
      · unfold jv_cI at q
        split at q
        · obtain ⟨-, q⟩ := jv_if q
          exact (jv_done_inl q).elim
        · cases q
      · unfold jv_c0 at q
        split at q
        · obtain ⟨-, q⟩ := jv_if q
          cases q
        · cases q
      · cases q
    | ireturn  =>
      try dsimp only at q
      replace q := jv_if q; obtain ⟨rfl, q⟩ := q
      unfold jv_iret at q
      split at q
      · rename_i v hr
        cases q
        exact ⟨rfl, Or.inl ⟨hd, _, rfl, rfl, Or.inl (by assumption)⟩⟩
      · obtain ⟨h1, q⟩ := jv_if q
        cases q
        exact ⟨rfl, Or.inl ⟨hd, _, rfl, rfl, Or.inr ⟨by assumption, h1⟩⟩⟩
      · cases q
    | lreturn  =>
      try dsimp only at q
      replace q := jv_if q; obtain ⟨rfl, q⟩ := q
      unfold jv_lret at q
      split at q
      · cases q
        exact ⟨rfl, Or.inr (Or.inl ⟨hd, _, rfl, rfl, by assumption⟩)⟩
      · cases q
    | areturn  =>
      try dsimp only at q
      replace q := jv_if q; obtain ⟨rfl, q⟩ := q
      unfold jv_aret at q
      split at q
      · cases q
        exact ⟨rfl, Or.inr (Or.inr (Or.inl ⟨hd, none, _, rfl, rfl, by assumption⟩))⟩
      · cases q
        exact ⟨rfl, Or.inr (Or.inr (Or.inl ⟨hd, some _, _, rfl, rfl, by assumption⟩))⟩
      · cases q
    | return_  =>
      try dsimp only at q
      replace q := jv_if q; obtain ⟨rfl, q⟩ := q
      unfold jv_vret at q
      split at q
      · cases q
        exact ⟨rfl, Or.inr (Or.inr (Or.inr ⟨hd, rfl, rfl, by assumption⟩))⟩
      · cases q
    | _ => cases q
theorem jv_run_grow {G : jv_G} (hG : jg_ok G) {X : Nat × (Nat → Int32)} {call : Nat → List Value → jv_H → Option jv_R} (hcal : jv_mcal G call) {mi : Nat} : ∀ (n : Nat) (st : jv_S) (r : Option Value) (hf : jv_H), jv_wf st.2.2.2 → jv_run G X call mi n st = some (r, hf) → jv_grow st.2.2.2 hf
  | 0, _, _, _, _, q => by simp [jv_run] at q
  | n + 1, st, r, hf, hw, q => by
    rw [jv_run] at q
    obtain ⟨pc, L, S, h⟩ := st
    cases ho : jv_one G X call mi (pc, L, S, h) with
    | none => rw [ho] at q; cases q
    | some w =>
      rw [ho] at q
      cases w with
      | inl r' =>
        cases q
        obtain ⟨rfl, -⟩ := jv_one_ret ho
        exact jv_grow_rfl hw
      | inr st' =>
        obtain ⟨pc', L', S', h'⟩ := st'
        have h1 : jv_grow h h' := jv_mono hG hcal hw ho
        have h2 := jv_run_grow hG hcal n _ r hf h1.2.2 q
        exact ⟨Nat.le_trans h1.1 h2.1, Nat.le_trans h1.2.1 h2.2.1, h2.2.2⟩
section JvRun
variable {p : Program} {l : Launch} {e : Env} {R : Room} {s : State} {m : MethodId} {args : Array Value} {below : List Frame} {meth : Method} {c : Code} {Q : State → Prop}
variable {G : jv_G} {X : Nat × (Nat → Int32)} {D : va_G} {base b : Nat} {cA : Nat → ClassId} {mi : Nat}
theorem jv_cal.mono {call : Nat → List Value → jv_H → Option jv_R} (h : jv_cal G X D base b cA l call) : jv_mcal G call := fun mi as h0 r h' q hw hm => ⟨(h mi as h0 r h' q hw hm).1, (h mi as h0 r h' q hw hm).2.1, (h mi as h0 r h' q hw hm).2.2.1⟩
theorem jv_run_sound (hG : jg_ok G) (hbb : b < base) (CX : jv_Cx p s m args meth c G D cA mi) (hR : jg_fr G mi ≤ R.frames ∧ jg_lo G mi ≤ R.locals) {call : Nat → List Value → jv_H → Option jv_R} (hcal : jv_cal G X D base b cA l call) {n0 s0 : Nat} {r : Option Value} {hf : jv_H} (hrc : hf.1 - n0 ≤ R.cells) (hrs : hf.2.1 - s0 ≤ R.slots)
    (hend : ∀ (pc : Nat) (S : List Value), jv_rets G mi pc S r → ∀ (H : Heap) (locs : List Loc) (ls : Array Slot), jv_Wd G X D base b cA hf s H → va_S (jv_A base) s.heap H locs → W p l e R s m args below meth c H locs (hf.1 - n0) (hf.2.1 - s0) Q (F0 m pc ls (S.map (jv_ev base b)))) :
    ∀ (n : Nat) (pc : Nat) (L : jv_L) (S : List Value) (h : jv_H), jv_wf h → jv_run G X call mi n (pc, L, S, h) = some (r, hf) → n0 ≤ h.1 → s0 ≤ h.2.1 → ∀ (H : Heap) (locs : List Loc) (ls : Array Slot), jv_Wd G X D base b cA h s H → jv_lv base b (jg_maxL G mi) L ls → va_S (jv_A base) s.heap H locs → W p l e R s m args below meth c H locs (h.1 - n0) (h.2.1 - s0) Q (F0 m pc ls (S.map (jv_ev base b))) := by
  intro n
  induction n with
  | zero => intro pc L S h hw q; simp [jv_run] at q
  | succ n ih =>
    intro pc L S h hw q hn0 hs0 H locs ls hWd hlv hS
    rw [jv_run] at q
    cases ho : jv_one G X call mi (pc, L, S, h) with
    | none => rw [ho] at q; cases q
    | some w =>
      rw [ho] at q
      cases w with
      | inl r' =>
        cases q
        obtain ⟨rfl, hret⟩ := jv_one_ret ho
        exact hend pc S hret H locs ls hWd hS
      | inr st' =>
        obtain ⟨pc', L', S', h'⟩ := st'
        have h1 : jv_grow h h' := jv_mono hG hcal.mono hw ho
        have h2 : jv_grow h' hf := jv_run_grow hG hcal.mono n _ r hf h1.2.2 q
        have g1 := h1.1
        have g2 := h1.2.1
        have g3 := h2.1
        have g4 := h2.2.1
        exact jv_step hG hbb CX hR hcal hw ho hn0 hs0 (by omega) (by omega) hWd hlv hS (fun H1 locs1 ls1 hWd1 hlv1 hS1 => ih pc' L' S' h' h1.2.2 q (by omega) (by omega) H1 locs1 ls1 hWd1 hlv1 hS1)
end JvRun
theorem jv_cat1_all {as : List Value} (h : as.all jv_cat1 = true) : ∀ v ∈ as, v.category = 1 := by
  intro v hv
  exact of_decide_eq_true (List.all_eq_true.mp h v hv)
set_option maxHeartbeats 4000000 in
theorem jv_sound {G : jv_G} (hG : jg_ok G) {X : Nat × (Nat → Int32)} {D : va_G} {base b : Nat} (hbb : b < base) {cA : Nat → ClassId} {l : Launch} : ∀ d, jv_cal G X D base b cA l (jv_F G X d) := by
  intro d
  induction d with
  | zero => intro mi as h r h' q; cases q
  | succ d ih =>
    intro mi as h r h' q hw hm
    unfold jv_F at q
    obtain ⟨⟨hc, hn⟩, q⟩ := jv_if q
    obtain ⟨n, q⟩ := jv_lim_run q
    have hgr : jv_grow h h' := jv_run_grow hG ih.mono n _ r h' hw q
    refine ⟨hgr.1, hgr.2.1, hgr.2.2, ?_⟩
    have hc1 := jv_cat1_all hc
    refine Met.ofW (cc := jg_code G mi) (maxL := jg_maxL G mi) (ret := jg_ret G mi) hm.1 rfl ?_
    intro p e s m args below meth c s₁ B hml hv
    obtain ⟨rfl, hWd, hK⟩ := hv
    have hlocks := B.notSynchronized
    have hx := B.exec
    have hb := B.bytes
    have hrt := B.returns
    have CX : jv_Cx p s m (as.map (jv_ev base b)).toArray meth c G D cA mi := ⟨hx, hb, hml, findClass_of_methodNamed B.named, fun w hw => atoms_spec (ws := jg_mws G mi) B.pre w (List.mem_cons_of_mem _ hw), fun z => by rw [(name_of_methodNamed B.named B.method).1]; exact z, hK⟩
    rw [lg_entry_eq]
    have hrun := jv_run_sound (p := p) (l := l) (e := e) (R := (headSpec (jg_mws G mi) (jv_room G mi (h'.1 - h.1) (h'.2.1 - h.2.1))).room) (s := s) (m := m) (below := below) (meth := meth) (c := c) (Q := MQ below (jv_Qc G X D base b cA r h') (as.map (jv_ev base b)).toArray s (h'.1 - h.1) (h'.2.1 - h.2.1) (jv_A base)) hG hbb CX ⟨Nat.le_refl _, Nat.le_refl _⟩ ih (n0 := h.1) (s0 := h.2.1) (r := r) (hf := h') (Nat.le_refl _) (Nat.le_refl _) ?_ n 0 _ [] h hw q (Nat.le_refl _) (Nat.le_refl _) s.heap [] _ hWd (jv_lv_entry hc1 hn) va_S.rf
    · rw [Nat.sub_self, Nat.sub_self] at hrun
      exact hrun
    · intro pc S hret H locs ls hWd1 hS1
      have hq : ∀ (t : State), t.heap = H → s.WarmedH t.vm → jv_Qc G X D base b cA r h' (as.map (jv_ev base b)).toArray s (.returned (r.map (jv_ev base b))) t := by
        intro t ht hW
        refine ⟨rfl, ?_, hS1.F ht⟩
        rw [ht]
        exact hWd1.moved hW.alike
      rcases hret with ⟨hd, v, rfl, rfl, hty⟩ | ⟨hd, v, rfl, rfl, hty⟩ | ⟨hd, x, C, rfl, rfl, hty⟩ | ⟨hd, rfl, rfl, hty⟩
      · rcases hty with hty | ⟨hty, hv01⟩
        · exact W.zret (ty := .int) hx hb (by rw [hrt, hty]) rfl hq hS1.2.2 hd
        · exact W.zret (ty := .boolean) hx hb (by rw [hrt, hty]) (by rcases hv01 with rfl | rfl <;> rfl) hq hS1.2.2 hd
      · exact W.lret hx hb (by rw [hrt, hty]) hq hS1.2.2 hd
      · have hv : jv_ev base b (va_rf x) = .null ∨ ∃ a, jv_ev base b (va_rf x) = .ref a := by cases x with
          | none => exact Or.inl rfl
          | some a => exact Or.inr ⟨_, rfl⟩
        exact W.aret (rt := .object C) hx hb (by rw [hrt, hty]) (Or.inl ⟨C, rfl⟩) hv hq hS1.2.2 hd
      · exact W.vret hx hb (by rw [hrt, hty]) hq hS1.2.2 hd
