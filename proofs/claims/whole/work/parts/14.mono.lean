/-! ===== one step: sizes, and soundness ===== -/
def jv_mcal (G : jv_G) (call : Nat → List Value → jv_H → Option jv_R) : Prop := ∀ mi as h r h', call mi as h = some (r, h') → jv_wf h → jg_mok G mi → h.1 ≤ h'.1 ∧ h.2.1 ≤ h'.2.1 ∧ jv_wf h'
def jv_grow (h h' : jv_H) : Prop := h.1 ≤ h'.1 ∧ h.2.1 ≤ h'.2.1 ∧ jv_wf h'
theorem jv_grow_rfl {h : jv_H} (hw : jv_wf h) : jv_grow h h := ⟨Nat.le_refl _, Nat.le_refl _, hw⟩
theorem jv_put_grow {h h' : jv_H} {a ci k : Nat} {v : Value} (hw : jv_wf h) (q : jv_put h a ci k v = some h') : jv_grow h h' := by
  obtain ⟨fs, h1, h2, rfl⟩ := jv_put_inv q
  have hn : jv_C := .inr (ci, fs)
  obtain ⟨k', rfl, hk⟩ := jv_place hw h1 (by intro z; simp only [jv_no, Sum.inr.injEq, Prod.mk.injEq] at z; rw [z.2] at h2; simp at h2)
  exact ⟨Nat.le_refl _, Nat.le_refl _, jv_wf_put hw hk _ _⟩
theorem jv_ast_grow {h h' : jv_H} {t a : Nat} {i x : Int32} (hw : jv_wf h) (q : jv_ast h t a i x = some h') : jv_grow h h' := by
  obtain ⟨n, f, h1, h2, rfl⟩ := jv_ast_inv q
  obtain ⟨k', rfl, hk⟩ := jv_place hw h1 (by intro z; cases z)
  exact ⟨Nat.le_refl _, Nat.le_refl _, jv_wf_put hw hk _ _⟩
theorem jv_rst_grow {G : jv_G} {h h' : jv_H} {a : Nat} {i : Int32} {v : Option Nat} (hw : jv_wf h) (q : jv_rst G h a i v = some h') : jv_grow h h' := by
  obtain ⟨t, n, f, w, h1, h2, h3, h4, h5, rfl⟩ := jv_rst_inv q
  obtain ⟨k', rfl, hk⟩ := jv_place hw h1 (by intro z; cases z)
  exact ⟨Nat.le_refl _, Nat.le_refl _, jv_wf_put hw hk _ _⟩
theorem jv_newo_inv {G : jv_G} {h h' : jv_H} {ci : Nat} (q : jv_newo G h ci = some h') : ∃ w, (jg_cls G)[ci]? = some w ∧ h' = (h.1 + 1, h.2.1 + w.1.2.2, va_up h.2.2 (h.1 + 1) (.inr (ci, (List.range w.1.2.2).map (fun k => jv_def (w.2 k))))) := by
  unfold jv_newo at q
  split at q
  · cases q; exact ⟨_, by assumption, rfl⟩
  · cases q
theorem jv_newi_inv {h h' : jv_H} {t : Nat} {n : Int32} (q : jv_newi h t n = some h') : ¬ n < 0 ∧ n.toNatClampNeg ≤ 1000 ∧ h' = (h.1 + 1, h.2.1 + n.toNatClampNeg, va_up h.2.2 (h.1 + 1) (.inl (t, n.toNatClampNeg, .inl (fun _ => 0)))) := by
  unfold jv_newi at q
  split at q
  · cases q
  · rename_i hc
    cases q
    exact ⟨fun z => hc (Or.inl z), Nat.not_lt.mp (fun z => hc (Or.inr z)), rfl⟩
theorem jv_newr_inv {h h' : jv_H} {t : Nat} {n : Int32} (q : jv_newr h t n = some h') : ¬ n < 0 ∧ n.toNatClampNeg ≤ 1000 ∧ h' = (h.1 + 1, h.2.1 + n.toNatClampNeg, va_up h.2.2 (h.1 + 1) (.inl (t, n.toNatClampNeg, .inr (fun _ => none)))) := by
  unfold jv_newr at q
  split at q
  · cases q
  · rename_i hc
    cases q
    exact ⟨fun z => hc (Or.inl z), Nat.not_lt.mp (fun z => hc (Or.inr z)), rfl⟩
theorem jv_done_inv {pc pc' : Nat} {L L' : jv_L} {rest S' : List Value} {h' : jv_H} {o : Option jv_R} (q : jv_done pc L rest o = some (.inr (pc', L', S', h'))) : ∃ r, o = some (r, h') ∧ pc' = pc + 3 ∧ L' = L ∧ S' = r.toList ++ rest := by
  cases o with
  | none => cases q
  | some w => cases q; exact ⟨_, rfl, rfl, rfl, rfl⟩
theorem jv_cV_inv {G : jv_G} {call : Nat → List Value → jv_H → Option jv_R} {pc pc' : Nat} {L L' : jv_L} {S S' : List Value} {h h' : jv_H} {y n : Nat} (q : jv_cV G call pc L S h y n = some (.inr (pc', L', S', h'))) : ∃ a rest r, S.drop n = .ref a :: rest ∧ jv_cats rest ≤ 8 ∧ jv_isC h (jg_mc G y) (some a) = true ∧ call y (.ref a :: (S.take n).reverse) h = some (r, h') ∧ pc' = pc + 3 ∧ L' = L ∧ S' = r.toList ++ rest := by
  unfold jv_cV at q
  split at q
  · obtain ⟨⟨h1, h2⟩, q⟩ := jv_if q
    obtain ⟨r, h3, h4, h5, h6⟩ := jv_done_inv q
    exact ⟨_, _, r, by assumption, h1, h2, h3, h4, h5, h6⟩
  · cases q
theorem jv_cI_inv {call : Nat → List Value → jv_H → Option jv_R} {pc pc' : Nat} {L L' : jv_L} {S S' : List Value} {h h' : jv_H} {y n : Nat} (q : jv_cI call pc L S h y n = some (.inr (pc', L', S', h'))) : ∃ a rest r, S.drop n = .ref a :: rest ∧ jv_cats rest ≤ 8 ∧ call y (.ref a :: (S.take n).reverse) h = some (r, h') ∧ pc' = pc + 3 ∧ L' = L ∧ S' = r.toList ++ rest := by
  unfold jv_cI at q
  split at q
  · obtain ⟨h1, q⟩ := jv_if q
    obtain ⟨r, h3, h4, h5, h6⟩ := jv_done_inv q
    exact ⟨_, _, r, by assumption, h1, h3, h4, h5, h6⟩
  · cases q
theorem jv_cS_inv {call : Nat → List Value → jv_H → Option jv_R} {pc pc' : Nat} {L L' : jv_L} {S S' : List Value} {h h' : jv_H} {y n : Nat} (q : jv_cS call pc L S h y n = some (.inr (pc', L', S', h'))) : ∃ r, n ≤ S.length ∧ jv_cats (S.drop n) ≤ 8 ∧ call y (S.take n).reverse h = some (r, h') ∧ pc' = pc + 3 ∧ L' = L ∧ S' = r.toList ++ S.drop n := by
  unfold jv_cS at q
  obtain ⟨⟨h1, h2⟩, q⟩ := jv_if q
  obtain ⟨r, h3, h4, h5, h6⟩ := jv_done_inv q
  exact ⟨r, h1, h2, h3, h4, h5, h6⟩
theorem jv_c0_inv {pc pc' : Nat} {L L' : jv_L} {S S' : List Value} {h h' : jv_H} (q : jv_c0 pc L S h = some (.inr (pc', L', S', h'))) : ∃ a, S = .ref a :: S' ∧ jv_cats S' ≤ 8 ∧ pc' = pc + 3 ∧ L' = L ∧ h' = h := by
  unfold jv_c0 at q
  split at q
  · obtain ⟨h1, q⟩ := jv_if q
    cases q
    exact ⟨_, rfl, h1, rfl, rfl, rfl⟩
  · cases q
theorem jv_sPut_inv {G : jv_G} {mi pc pc' : Nat} {L L' : jv_L} {S S' : List Value} {h h' : jv_H} {w : Option (Nat × Nat)} (q : jv_sPut G mi pc L h w S = some (.inr (pc', L', S', h'))) : ∃ ci k v a, w = some (ci, k) ∧ S = v :: .ref a :: S' ∧ jv_fty G mi ci k v = true ∧ jv_put h a ci k v = some h' ∧ pc' = pc + 3 ∧ L' = L := by
  unfold jv_sPut at q
  split at q
  · obtain ⟨h1, q⟩ := jv_if q
    obtain ⟨h2, rfl, rfl, rfl⟩ := jv_goh_inv q
    exact ⟨_, _, _, _, rfl, rfl, h1, h2, rfl, rfl⟩
  · cases q
theorem jv_sGet_inv {G : jv_G} {S S' : List Value} {h : jv_H} {w : Option (Nat × Nat)} (q : jv_sGet G h w S = some S') : ∃ ci k a r v, w = some (ci, k) ∧ S = .ref a :: r ∧ jv_get h a ci k = some v ∧ S' = v :: r := by
  unfold jv_sGet at q
  split at q
  · split at q
    · cases q; exact ⟨_, _, _, _, _, rfl, rfl, by assumption, rfl⟩
    · cases q
  · cases q
theorem jv_sIast_inv {pc pc' : Nat} {L L' : jv_L} {S S' : List Value} {h h' : jv_H} (q : jv_sIast pc L h S = some (.inr (pc', L', S', h'))) : ∃ x i a, S = .int x :: .int i :: .ref a :: S' ∧ jv_ast h 0 a i x = some h' ∧ pc' = pc + 1 ∧ L' = L := by
  unfold jv_sIast at q
  split at q
  · obtain ⟨h2, rfl, rfl, rfl⟩ := jv_goh_inv q
    exact ⟨_, _, _, rfl, h2, rfl, rfl⟩
  · cases q
theorem jv_sBast_inv {pc pc' : Nat} {L L' : jv_L} {S S' : List Value} {h h' : jv_H} (q : jv_sBast pc L h S = some (.inr (pc', L', S', h'))) : ∃ x i a, S = .int x :: .int i :: .ref a :: S' ∧ (x = 0 ∨ x = 1) ∧ jv_ast h 1 a i x = some h' ∧ pc' = pc + 1 ∧ L' = L := by
  unfold jv_sBast at q
  split at q
  · obtain ⟨h1, q⟩ := jv_if q
    obtain ⟨h2, rfl, rfl, rfl⟩ := jv_goh_inv q
    exact ⟨_, _, _, rfl, h1, h2, rfl, rfl⟩
  · cases q
theorem jv_sAast_inv {G : jv_G} {pc pc' : Nat} {L L' : jv_L} {S S' : List Value} {h h' : jv_H} (q : jv_sAast G pc L h S = some (.inr (pc', L', S', h'))) : ∃ (v : Option Nat) (i : Int32) (a : Nat), S = va_rf v :: .int i :: .ref a :: S' ∧ jv_rst G h a i v = some h' ∧ pc' = pc + 1 ∧ L' = L := by
  unfold jv_sAast at q
  split at q
  · obtain ⟨h2, rfl, rfl, rfl⟩ := jv_goh_inv q
    exact ⟨none, _, _, rfl, h2, rfl, rfl⟩
  · obtain ⟨h2, rfl, rfl, rfl⟩ := jv_goh_inv q
    exact ⟨some _, _, _, rfl, h2, rfl, rfl⟩
  · cases q
theorem jv_sNewi_inv {pc pc' t : Nat} {L L' : jv_L} {S S' : List Value} {h h' : jv_H} (q : jv_sNewi pc L h t S = some (.inr (pc', L', S', h'))) : ∃ n r, S = .int n :: r ∧ S' = .ref (h.1 + 1) :: r ∧ jv_newi h t n = some h' ∧ pc' = pc + 2 ∧ L' = L := by
  unfold jv_sNewi at q
  split at q
  · obtain ⟨h2, rfl, rfl, rfl⟩ := jv_goh_inv q
    exact ⟨_, _, rfl, rfl, h2, rfl, rfl⟩
  · cases q
theorem jv_sNewr_inv {pc pc' : Nat} {t : Option Nat} {L L' : jv_L} {S S' : List Value} {h h' : jv_H} (q : jv_sNewr pc L h t S = some (.inr (pc', L', S', h'))) : ∃ t' n r, t = some t' ∧ S = .int n :: r ∧ S' = .ref (h.1 + 1) :: r ∧ jv_newr h t' n = some h' ∧ pc' = pc + 3 ∧ L' = L := by
  unfold jv_sNewr at q
  split at q
  · obtain ⟨h2, rfl, rfl, rfl⟩ := jv_goh_inv q
    exact ⟨_, _, _, rfl, rfl, rfl, h2, rfl, rfl⟩
  · cases q
theorem jv_sNew_inv {G : jv_G} {pc pc' : Nat} {t : Option Nat} {L L' : jv_L} {S S' : List Value} {h h' : jv_H} (q : jv_sNew G pc L h t S = some (.inr (pc', L', S', h'))) : ∃ ci, t = some ci ∧ S' = .ref (h.1 + 1) :: S ∧ jv_newo G h ci = some h' ∧ pc' = pc + 3 ∧ L' = L := by
  unfold jv_sNew at q
  split at q
  · obtain ⟨h2, rfl, rfl, rfl⟩ := jv_goh_inv q
    exact ⟨_, rfl, rfl, h2, rfl, rfl⟩
  · cases q
theorem jv_sIf_inv {c : Jvm.ClassFile.Cond} {pc pc' : Nat} {off : Int} {L L' : jv_L} {S S' : List Value} {h h' : jv_H} (q : jv_sIf c pc off L S h = some (.inr (pc', L', S', h'))) : ∃ (x : Int32) (tgt : Nat), S = .int x :: S' ∧ (pc : Int) + off = (tgt : Int) ∧ pc' = (if jv_c2 c x 0 then tgt else pc + 3) ∧ L' = L ∧ h' = h := by
  unfold jv_sIf at q
  split at q
  · obtain ⟨tgt, h1, h2, rfl, rfl, rfl⟩ := jv_br_inv q
    exact ⟨_, tgt, rfl, h1, h2, rfl, rfl⟩
  · cases q
theorem jv_sIcmp_inv {c : Jvm.ClassFile.Cond} {pc pc' : Nat} {off : Int} {L L' : jv_L} {S S' : List Value} {h h' : jv_H} (q : jv_sIcmp c pc off L S h = some (.inr (pc', L', S', h'))) : ∃ (x y : Int32) (tgt : Nat), S = .int y :: .int x :: S' ∧ (pc : Int) + off = (tgt : Int) ∧ pc' = (if jv_c2 c x y then tgt else pc + 3) ∧ L' = L ∧ h' = h := by
  unfold jv_sIcmp at q
  split at q
  · obtain ⟨tgt, h1, h2, rfl, rfl, rfl⟩ := jv_br_inv q
    exact ⟨_, _, tgt, rfl, h1, h2, rfl, rfl⟩
  · cases q
theorem jv_sNull_inv {pc pc' : Nat} {off : Int} {L L' : jv_L} {S S' : List Value} {h h' : jv_H} (q : jv_sNull pc off L S h = some (.inr (pc', L', S', h'))) : ∃ (v : Option Nat) (tgt : Nat), S = va_rf v :: S' ∧ (pc : Int) + off = (tgt : Int) ∧ pc' = (match v with | none => tgt | some _ => pc + 3) ∧ L' = L ∧ h' = h := by
  unfold jv_sNull at q
  split at q
  · obtain ⟨tgt, h1, h2, rfl, rfl, rfl⟩ := jv_br_inv q
    exact ⟨none, tgt, rfl, h1, h2, rfl, rfl⟩
  · obtain ⟨tgt, h1, h2, rfl, rfl, rfl⟩ := jv_br_inv q
    exact ⟨some _, tgt, rfl, h1, h2, rfl, rfl⟩
  · cases q
theorem jv_sNonn_inv {pc pc' : Nat} {off : Int} {L L' : jv_L} {S S' : List Value} {h h' : jv_H} (q : jv_sNonn pc off L S h = some (.inr (pc', L', S', h'))) : ∃ (v : Option Nat) (tgt : Nat), S = va_rf v :: S' ∧ (pc : Int) + off = (tgt : Int) ∧ pc' = (match v with | none => pc + 3 | some _ => tgt) ∧ L' = L ∧ h' = h := by
  unfold jv_sNonn at q
  split at q
  · obtain ⟨tgt, h1, h2, rfl, rfl, rfl⟩ := jv_br_inv q
    exact ⟨none, tgt, rfl, h1, h2, rfl, rfl⟩
  · obtain ⟨tgt, h1, h2, rfl, rfl, rfl⟩ := jv_br_inv q
    exact ⟨some _, tgt, rfl, h1, h2, rfl, rfl⟩
  · cases q
theorem jv_rv_inv {v : Value} {x : Option Nat} (q : jv_rv v = some x) : v = va_rf x := by
  unfold jv_rv at q
  split at q
  · cases q; rfl
  · cases q; rfl
  · cases q
theorem jv_sAcmp_inv {c : Jvm.ClassFile.ACond} {pc pc' : Nat} {off : Int} {L L' : jv_L} {S S' : List Value} {h h' : jv_H} (q : jv_sAcmp c pc off L S h = some (.inr (pc', L', S', h'))) : ∃ (x y : Option Nat) (tgt : Nat), S = va_rf y :: va_rf x :: S' ∧ (pc : Int) + off = (tgt : Int) ∧ pc' = (if (match c with | .eq => decide (x = y) | .ne => decide (¬ x = y)) then tgt else pc + 3) ∧ L' = L ∧ h' = h := by
  unfold jv_sAcmp at q
  split at q
  · split at q
    · rename_i x y hx hy
      obtain ⟨tgt, h1, h2, rfl, rfl, rfl⟩ := jv_br_inv q
      rw [jv_rv_inv hx, jv_rv_inv hy]
      exact ⟨_, _, tgt, rfl, h1, h2, rfl, rfl⟩
    · cases q
  · cases q
theorem jv_sTab_inv {dflt lo hi : Int} {offs : Array Int} {pc pc' : Nat} {L L' : jv_L} {S S' : List Value} {h h' : jv_H} (q : jv_sTab dflt lo hi offs pc L S h = some (.inr (pc', L', S', h'))) : ∃ x, S = .int x :: S' ∧ L' = L ∧ h' = h ∧ (((x.toInt < lo ∨ hi < x.toInt) ∧ (pc : Int) + dflt = (pc' : Int)) ∨ (¬ (x.toInt < lo ∨ hi < x.toInt) ∧ ∃ off, offs[(x.toInt - lo).toNat]? = some off ∧ (pc : Int) + off = (pc' : Int))) := by
  unfold jv_sTab at q
  split at q
  · split at q
    · obtain ⟨h1, rfl, rfl, rfl⟩ := jv_jmp_inv q
      exact ⟨_, rfl, rfl, rfl, Or.inl ⟨by assumption, h1⟩⟩
    · split at q
      · obtain ⟨h1, rfl, rfl, rfl⟩ := jv_jmp_inv q
        exact ⟨_, rfl, rfl, rfl, Or.inr ⟨by assumption, _, by assumption, h1⟩⟩
      · cases q
  · cases q
theorem jv_sLook_inv {dflt : Int} {ps : Array (Int × Int)} {pc pc' : Nat} {L L' : jv_L} {S S' : List Value} {h h' : jv_H} (q : jv_sLook dflt ps pc L S h = some (.inr (pc', L', S', h'))) : ∃ x, S = .int x :: S' ∧ L' = L ∧ h' = h ∧ (ps.toList.zip (ps.toList.drop 1)).all (fun (a, next) => a.1 < next.1) = true ∧ (pc : Int) + Op.lookupswitch.offset ps.toList dflt x.toInt = (pc' : Int) := by
  unfold jv_sLook at q
  split at q
  · obtain ⟨h0, q⟩ := jv_if q
    obtain ⟨h1, rfl, rfl, rfl⟩ := jv_jmp_inv q
    exact ⟨_, rfl, rfl, rfl, h0, h1⟩
  · cases q

theorem jv_neg_inv {S S' : List Value} (q : jv_neg S = some S') : ∃ x r, S = .int x :: r ∧ S' = .int (-x) :: r := by
  unfold jv_neg at q
  split at q
  · cases q; exact ⟨_, _, rfl, rfl⟩
  · cases q
theorem jv_i2l_inv {S S' : List Value} (q : jv_i2l S = some S') : ∃ x r, S = .int x :: r ∧ S' = .long x.toInt64 :: r := by
  unfold jv_i2l at q
  split at q
  · cases q; exact ⟨_, _, rfl, rfl⟩
  · cases q
theorem jv_lcmp_inv {S S' : List Value} (q : jv_lcmp S = some S') : ∃ x y r, S = .long y :: .long x :: r ∧ S' = .int (lg_cmp x y) :: r := by
  unfold jv_lcmp at q
  split at q
  · cases q; exact ⟨_, _, _, rfl, rfl⟩
  · cases q
theorem jv_dup_inv {S S' : List Value} (q : jv_dup S = some S') : ∃ v r, S = v :: r ∧ S' = v :: v :: r ∧ v.category = 1 := by
  unfold jv_dup at q
  split at q
  · obtain ⟨h1, q⟩ := jv_if q
    cases q; exact ⟨_, _, rfl, rfl, of_decide_eq_true h1⟩
  · cases q
theorem jv_pop_inv {S S' : List Value} (q : jv_pop S = some S') : ∃ v, S = v :: S' ∧ v.category = 1 := by
  unfold jv_pop at q
  split at q
  · obtain ⟨h1, q⟩ := jv_if q
    cases q; exact ⟨_, rfl, of_decide_eq_true h1⟩
  · cases q
theorem jv_dupx1_inv {S S' : List Value} (q : jv_dupx1 S = some S') : ∃ v w r, S = v :: w :: r ∧ S' = v :: w :: v :: r ∧ v.category = 1 ∧ w.category = 1 := by
  unfold jv_dupx1 at q
  split at q
  · obtain ⟨h1, q⟩ := jv_if q
    cases q
    rw [Bool.and_eq_true] at h1
    exact ⟨_, _, _, rfl, rfl, of_decide_eq_true h1.1, of_decide_eq_true h1.2⟩
  · cases q
theorem jv_dupx2_inv {S S' : List Value} (q : jv_dupx2 S = some S') : ∃ v w u r, S = v :: w :: u :: r ∧ S' = v :: w :: u :: v :: r ∧ v.category = 1 ∧ w.category = 1 ∧ u.category = 1 := by
  unfold jv_dupx2 at q
  split at q
  · obtain ⟨h1, q⟩ := jv_if q
    cases q
    rw [Bool.and_eq_true, Bool.and_eq_true] at h1
    exact ⟨_, _, _, _, rfl, rfl, of_decide_eq_true h1.1.1, of_decide_eq_true h1.1.2, of_decide_eq_true h1.2⟩
  · cases q
theorem jv_dup2_inv {S S' : List Value} (q : jv_dup2 S = some S') : ∃ v w r, S = v :: w :: r ∧ S' = v :: w :: v :: w :: r ∧ v.category = 1 ∧ w.category = 1 := by
  unfold jv_dup2 at q
  split at q
  · obtain ⟨h1, q⟩ := jv_if q
    cases q
    rw [Bool.and_eq_true] at h1
    exact ⟨_, _, _, rfl, rfl, of_decide_eq_true h1.1, of_decide_eq_true h1.2⟩
  · cases q
theorem jv_alen_inv {G : jv_G} {X : Nat × (Nat → Int32)} {h : jv_H} {S S' : List Value} (q : jv_alen G X h S = some S') : ∃ a r v, S = .ref a :: r ∧ S' = .int v :: r ∧ jv_len G X h a = some v := by
  unfold jv_alen at q
  split at q
  · split at q
    · cases q; exact ⟨_, _, _, rfl, rfl, by assumption⟩
    · cases q
  · cases q
theorem jv_sIalo_inv {X : Nat × (Nat → Int32)} {h : jv_H} {S S' : List Value} (q : jv_sIalo X h S = some S') : ∃ i r, (S = .int i :: .ref 0 :: r ∧ vp_in i X.1 ∧ S' = .int (X.2 i.toNatClampNeg) :: r) ∨ ∃ a x, S = .int i :: .ref (a + 1) :: r ∧ jv_ald h 0 (a + 1) i = some x ∧ S' = .int x :: r := by
  unfold jv_sIalo at q
  split at q
  · obtain ⟨h1, q⟩ := jv_if q
    cases q; exact ⟨_, _, Or.inl ⟨rfl, jv_out_in h1, rfl⟩⟩
  · split at q
    · cases q; exact ⟨_, _, Or.inr ⟨_, _, rfl, by assumption, rfl⟩⟩
    · cases q
  · cases q
theorem jv_sBalo_inv {h : jv_H} {S S' : List Value} (q : jv_sBalo h S = some S') : ∃ i r a x, S = .int i :: .ref a :: r ∧ jv_ald h 1 a i = some x ∧ S' = .int x :: r := by
  unfold jv_sBalo at q
  split at q
  · split at q
    · cases q; exact ⟨_, _, _, _, rfl, by assumption, rfl⟩
    · cases q
  · cases q
theorem jv_sAalo_inv {G : jv_G} {h : jv_H} {S S' : List Value} (q : jv_sAalo G h S = some S') : ∃ i r a x, S = .int i :: .ref a :: r ∧ jv_rld G h a i = some x ∧ S' = va_rf x :: r := by
  unfold jv_sAalo at q
  split at q
  · split at q
    · cases q; exact ⟨_, _, _, _, rfl, by assumption, rfl⟩
    · cases q
  · cases q
set_option maxHeartbeats 4000000 in
theorem jv_mono {G : jv_G} (hG : jg_ok G) {X : Nat × (Nat → Int32)} {call : Nat → List Value → jv_H → Option jv_R} (hcal : jv_mcal G call) {mi pc pc' : Nat} {L L' : jv_L} {S S' : List Value} {h h' : jv_H} (hw : jv_wf h) (q : jv_one G X call mi (pc, L, S, h) = some (.inr (pc', L', S', h'))) : jv_grow h h' := by
  unfold jv_one at q
  split at q
  case h_2 => cases q
  case h_1 w hd =>
    obtain ⟨ins, len⟩ := w
    dsimp only at q
    unfold jv_ins at q
    cases ins with
    | iconst n =>
      try dsimp only at q
      obtain ⟨-, q⟩ := jv_if q
      cases q
      exact jv_grow_rfl hw
    | bipush n =>
      try dsimp only at q
      obtain ⟨-, q⟩ := jv_if q
      cases q
      exact jv_grow_rfl hw
    | sipush n =>
      try dsimp only at q
      obtain ⟨-, q⟩ := jv_if q
      cases q
      exact jv_grow_rfl hw
    | aconst_null  =>
      try dsimp only at q
      obtain ⟨-, q⟩ := jv_if q
      cases q
      exact jv_grow_rfl hw
    | ldc i =>
      try dsimp only at q
      obtain ⟨-, q⟩ := jv_if q
      obtain ⟨-, -, -, rfl⟩ := jv_go_inv q
      exact jv_grow_rfl hw
    | ldc_w i =>
      try dsimp only at q
      obtain ⟨-, q⟩ := jv_if q
      obtain ⟨-, -, -, rfl⟩ := jv_go_inv q
      exact jv_grow_rfl hw
    | ldc2_w i =>
      try dsimp only at q
      obtain ⟨-, q⟩ := jv_if q
      obtain ⟨-, -, -, rfl⟩ := jv_go_inv q
      exact jv_grow_rfl hw
    | iload_n i =>
      try dsimp only at q
      obtain ⟨-, q⟩ := jv_if q
      obtain ⟨-, -, -, rfl⟩ := jv_go_inv q
      exact jv_grow_rfl hw
    | iload i =>
      try dsimp only at q
      obtain ⟨-, q⟩ := jv_if q
      obtain ⟨-, -, -, rfl⟩ := jv_go_inv q
      exact jv_grow_rfl hw
    | aload_n i =>
      try dsimp only at q
      obtain ⟨-, q⟩ := jv_if q
      obtain ⟨-, -, -, rfl⟩ := jv_go_inv q
      exact jv_grow_rfl hw
    | aload i =>
      try dsimp only at q
      obtain ⟨-, q⟩ := jv_if q
      obtain ⟨-, -, -, rfl⟩ := jv_go_inv q
      exact jv_grow_rfl hw
    | iadd  =>
      try dsimp only at q
      obtain ⟨-, q⟩ := jv_if q
      obtain ⟨-, -, -, rfl⟩ := jv_go_inv q
      exact jv_grow_rfl hw
    | isub  =>
      try dsimp only at q
      obtain ⟨-, q⟩ := jv_if q
      obtain ⟨-, -, -, rfl⟩ := jv_go_inv q
      exact jv_grow_rfl hw
    | imul  =>
      try dsimp only at q
      obtain ⟨-, q⟩ := jv_if q
      obtain ⟨-, -, -, rfl⟩ := jv_go_inv q
      exact jv_grow_rfl hw
    | iand  =>
      try dsimp only at q
      obtain ⟨-, q⟩ := jv_if q
      obtain ⟨-, -, -, rfl⟩ := jv_go_inv q
      exact jv_grow_rfl hw
    | ior  =>
      try dsimp only at q
      obtain ⟨-, q⟩ := jv_if q
      obtain ⟨-, -, -, rfl⟩ := jv_go_inv q
      exact jv_grow_rfl hw
    | ishl  =>
      try dsimp only at q
      obtain ⟨-, q⟩ := jv_if q
      obtain ⟨-, -, -, rfl⟩ := jv_go_inv q
      exact jv_grow_rfl hw
    | ishr  =>
      try dsimp only at q
      obtain ⟨-, q⟩ := jv_if q
      obtain ⟨-, -, -, rfl⟩ := jv_go_inv q
      exact jv_grow_rfl hw
    | iushr  =>
      try dsimp only at q
      obtain ⟨-, q⟩ := jv_if q
      obtain ⟨-, -, -, rfl⟩ := jv_go_inv q
      exact jv_grow_rfl hw
    | idiv  =>
      try dsimp only at q
      obtain ⟨-, q⟩ := jv_if q
      obtain ⟨-, -, -, rfl⟩ := jv_go_inv q
      exact jv_grow_rfl hw
    | irem  =>
      try dsimp only at q
      obtain ⟨-, q⟩ := jv_if q
      obtain ⟨-, -, -, rfl⟩ := jv_go_inv q
      exact jv_grow_rfl hw
    | ineg  =>
      try dsimp only at q
      obtain ⟨-, q⟩ := jv_if q
      obtain ⟨-, -, -, rfl⟩ := jv_go_inv q
      exact jv_grow_rfl hw
    | i2l  =>
      try dsimp only at q
      obtain ⟨-, q⟩ := jv_if q
      obtain ⟨-, -, -, rfl⟩ := jv_go_inv q
      exact jv_grow_rfl hw
    | lcmp  =>
      try dsimp only at q
      obtain ⟨-, q⟩ := jv_if q
      obtain ⟨-, -, -, rfl⟩ := jv_go_inv q
      exact jv_grow_rfl hw
    | dup  =>
      try dsimp only at q
      obtain ⟨-, q⟩ := jv_if q
      obtain ⟨-, -, -, rfl⟩ := jv_go_inv q
      exact jv_grow_rfl hw
    | pop  =>
      try dsimp only at q
      obtain ⟨-, q⟩ := jv_if q
      obtain ⟨-, -, -, rfl⟩ := jv_go_inv q
      exact jv_grow_rfl hw
    | dup_x1  =>
      try dsimp only at q
      obtain ⟨-, q⟩ := jv_if q
      obtain ⟨-, -, -, rfl⟩ := jv_go_inv q
      exact jv_grow_rfl hw
    | dup_x2  =>
      try dsimp only at q
      obtain ⟨-, q⟩ := jv_if q
      obtain ⟨-, -, -, rfl⟩ := jv_go_inv q
      exact jv_grow_rfl hw
    | dup2  =>
      try dsimp only at q
      obtain ⟨-, q⟩ := jv_if q
      obtain ⟨-, -, -, rfl⟩ := jv_go_inv q
      exact jv_grow_rfl hw
    | getfield i =>
      try dsimp only at q
      obtain ⟨-, q⟩ := jv_if q
      obtain ⟨-, -, -, rfl⟩ := jv_go_inv q
      exact jv_grow_rfl hw
    | arraylength  =>
      try dsimp only at q
      obtain ⟨-, q⟩ := jv_if q
      obtain ⟨-, -, -, rfl⟩ := jv_go_inv q
      exact jv_grow_rfl hw
    | iaload  =>
      try dsimp only at q
      obtain ⟨-, q⟩ := jv_if q
      obtain ⟨-, -, -, rfl⟩ := jv_go_inv q
      exact jv_grow_rfl hw
    | baload  =>
      try dsimp only at q
      obtain ⟨-, q⟩ := jv_if q
      obtain ⟨-, -, -, rfl⟩ := jv_go_inv q
      exact jv_grow_rfl hw
    | aaload  =>
      try dsimp only at q
      obtain ⟨-, q⟩ := jv_if q
      obtain ⟨-, -, -, rfl⟩ := jv_go_inv q
      exact jv_grow_rfl hw
    | istore_n i =>
      try dsimp only at q
      obtain ⟨-, q⟩ := jv_if q
      obtain ⟨-, -, rfl⟩ := jv_gol_inv q
      exact jv_grow_rfl hw
    | istore i =>
      try dsimp only at q
      obtain ⟨-, q⟩ := jv_if q
      obtain ⟨-, -, rfl⟩ := jv_gol_inv q
      exact jv_grow_rfl hw
    | astore_n i =>
      try dsimp only at q
      obtain ⟨-, q⟩ := jv_if q
      obtain ⟨-, -, rfl⟩ := jv_gol_inv q
      exact jv_grow_rfl hw
    | astore i =>
      try dsimp only at q
      obtain ⟨-, q⟩ := jv_if q
      obtain ⟨-, -, rfl⟩ := jv_gol_inv q
      exact jv_grow_rfl hw
    | iinc i n =>
      try dsimp only at q
      obtain ⟨-, q⟩ := jv_if q
      split at q
      · cases q; exact jv_grow_rfl hw
      · cases q
    | ifCond cd off =>
      try dsimp only at q
      obtain ⟨-, q⟩ := jv_if q
      obtain ⟨_, _, -, -, -, -, rfl⟩ := jv_sIf_inv q
      exact jv_grow_rfl hw
    | if_icmp cd off =>
      try dsimp only at q
      obtain ⟨-, q⟩ := jv_if q
      obtain ⟨_, _, _, -, -, -, -, rfl⟩ := jv_sIcmp_inv q
      exact jv_grow_rfl hw
    | ifnull off =>
      try dsimp only at q
      obtain ⟨-, q⟩ := jv_if q
      obtain ⟨_, _, -, -, -, -, rfl⟩ := jv_sNull_inv q
      exact jv_grow_rfl hw
    | ifnonnull off =>
      try dsimp only at q
      obtain ⟨-, q⟩ := jv_if q
      obtain ⟨_, _, -, -, -, -, rfl⟩ := jv_sNonn_inv q
      exact jv_grow_rfl hw
    | if_acmp cd off =>
      try dsimp only at q
      obtain ⟨-, q⟩ := jv_if q
      obtain ⟨_, _, _, -, -, -, -, rfl⟩ := jv_sAcmp_inv q
      exact jv_grow_rfl hw
    | goto off =>
      try dsimp only at q
      obtain ⟨-, q⟩ := jv_if q
      obtain ⟨-, -, -, rfl⟩ := jv_jmp_inv q
      exact jv_grow_rfl hw
    | tableswitch dflt lo hi offs =>
      try dsimp only at q
      obtain ⟨_, -, -, rfl, -⟩ := jv_sTab_inv q
      exact jv_grow_rfl hw
    | lookupswitch dflt ps =>
      try dsimp only at q
      obtain ⟨_, -, -, rfl, -⟩ := jv_sLook_inv q
      exact jv_grow_rfl hw
    | putfield i =>
      try dsimp only at q
      obtain ⟨-, q⟩ := jv_if q
      obtain ⟨_, _, _, _, -, -, -, q, -, -⟩ := jv_sPut_inv q
      exact jv_put_grow hw q
    | iastore  =>
      try dsimp only at q
      obtain ⟨-, q⟩ := jv_if q
      obtain ⟨_, _, _, -, q, -, -⟩ := jv_sIast_inv q
      exact jv_ast_grow hw q
    | bastore  =>
      try dsimp only at q
      obtain ⟨-, q⟩ := jv_if q
      obtain ⟨_, _, _, -, -, q, -, -⟩ := jv_sBast_inv q
      exact jv_ast_grow hw q
    | aastore  =>
      try dsimp only at q
      obtain ⟨-, q⟩ := jv_if q
      obtain ⟨_, _, _, -, q, -, -⟩ := jv_sAast_inv q
      exact jv_rst_grow hw q
    | newarray atype =>
      try dsimp only at q
      cases atype <;> first
        | (obtain ⟨-, q⟩ := jv_if q
           obtain ⟨_, _, -, -, q, -, -⟩ := jv_sNewi_inv q
           obtain ⟨-, -, rfl⟩ := jv_newi_inv q
           exact ⟨Nat.le_succ _, Nat.le_add_right _ _, jv_wf_push hw _ _⟩)
        | (cases q)
    | anewarray i =>
      try dsimp only at q
      obtain ⟨-, q⟩ := jv_if q
      obtain ⟨_, _, _, -, -, -, q, -, -⟩ := jv_sNewr_inv q
      obtain ⟨-, -, rfl⟩ := jv_newr_inv q
      exact ⟨Nat.le_succ _, Nat.le_add_right _ _, jv_wf_push hw _ _⟩
    | new i =>
      try dsimp only at q
      obtain ⟨-, q⟩ := jv_if q
      obtain ⟨_, -, -, q, -, -⟩ := jv_sNew_inv q
      obtain ⟨_, -, rfl⟩ := jv_newo_inv q
      exact ⟨Nat.le_succ _, Nat.le_add_right _ _, jv_wf_push hw _ _⟩
    | invokevirtual i =>
      try dsimp only at q
      obtain ⟨-, q⟩ := jv_if q
      split at q
      · rename_i hi
        obtain ⟨_, _, _, -, -, -, q, -, -, -⟩ := jv_cV_inv q
        exact hcal _ _ _ _ _ q hw (hG.2.2.2.2.2.1 _ _ _ _ _ hi).1
      · cases q
    | invokestatic i =>
      try dsimp only at q
      obtain ⟨-, q⟩ := jv_if q
      split at q
      · rename_i hi
        obtain ⟨_, -, -, q, -, -, -⟩ := jv_cS_inv q
        exact hcal _ _ _ _ _ q hw (hG.2.2.2.2.2.1 _ _ _ _ _ hi).1
      · cases q
    | invokespecial i =>
      try dsimp only at q
      obtain ⟨-, q⟩ := jv_if q
      split at q
      · rename_i hi
        obtain ⟨_, _, _, -, -, q, -, -, -⟩ := jv_cI_inv q
        exact hcal _ _ _ _ _ q hw (hG.2.2.2.2.2.1 _ _ _ _ _ hi).1
      · obtain ⟨_, -, -, -, -, rfl⟩ := jv_c0_inv q
        exact jv_grow_rfl hw
      · cases q
    | ireturn  =>
      try dsimp only at q
      obtain ⟨-, q⟩ := jv_if q
      unfold jv_iret at q
      split at q <;> first | (cases q) | (obtain ⟨-, q⟩ := jv_if q; cases q)
    | lreturn  =>
      try dsimp only at q
      obtain ⟨-, q⟩ := jv_if q
      unfold jv_lret at q
      split at q <;> first | (cases q) | (obtain ⟨-, q⟩ := jv_if q; cases q)
    | areturn  =>
      try dsimp only at q
      obtain ⟨-, q⟩ := jv_if q
      unfold jv_aret at q
      split at q <;> first | (cases q) | (obtain ⟨-, q⟩ := jv_if q; cases q)
    | return_  =>
      try dsimp only at q
      obtain ⟨-, q⟩ := jv_if q
      unfold jv_vret at q
      split at q <;> first | (cases q) | (obtain ⟨-, q⟩ := jv_if q; cases q)
    | _ => cases q
