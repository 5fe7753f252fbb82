def jv_h0 : jv_H := (0, 0, fun _ => jv_no)
/-- WHAT IS LEFT, pure: the small machine does the law to its end, with 1, within the room -/
theorem gw_law (X : Nat × (Nat → Int32)) (hX : X.1 ≤ 3072) : ∃ (d : Nat) (hf : jv_H), jl gw X d 116 0 [some (.ref 0), none, none, none] [] jv_h0 = some (some (.int 1), hf) ∧ hf.1 ≤ 600000 ∧ hf.2.1 ≤ 7302250 := by
  sorry
