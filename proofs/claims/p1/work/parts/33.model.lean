/-! the reference, 3 -/
theorem zX12_keeps {b0 : Nat} : ∀ (f lbl : Nat) (x1 : Int32) (h : ea_H) (r : Unit) (h' : ea_H), gX12_keeps b0 f lbl x1 h = some (r, h') → ShM b0 h → ShM b0 h' := by
  intro f
  induction f with
  | zero => intro lbl x1 h r h' E; cases E
  | succ f ih =>
    intro lbl x1 h r h' E hs
    unfold gX12_keeps at E
    by_cases el0 : lbl = 0
    · have E := (if_pos el0).symm.trans E
      exact ih 2 (0 : Int32) h _ _ E hs
    have E := (if_neg el0).symm.trans E
    by_cases el1 : lbl = 2
    · have E := (if_pos el1).symm.trans E
      by_cases c26 : (ea_i h (b0 + 0) 63) ≤ x1
      · have E := (if_pos c26).symm.trans E
        exact ih 114 (0 : Int32) h _ _ E hs
      have E := (if_neg c26).symm.trans E
      obtain ⟨z1, E⟩ := gd_some E
      obtain ⟨z2, E⟩ := gd_some E
      obtain ⟨z4, E⟩ := gd_some E
      obtain ⟨z5, E⟩ := gd_some E
      obtain ⟨z7, E⟩ := gd_some E
      obtain ⟨z8, E⟩ := gd_some E
      obtain ⟨z10, E⟩ := gd_some E
      obtain ⟨z11, E⟩ := gd_some E
      obtain ⟨z13, E⟩ := gd_some E
      obtain ⟨z14, E⟩ := gd_some E
      obtain ⟨z16, E⟩ := gd_some E
      obtain ⟨z17, E⟩ := gd_some E
      obtain ⟨z19, E⟩ := gd_some E
      obtain ⟨z20, E⟩ := gd_some E
      obtain ⟨z22, E⟩ := gd_some E
      obtain ⟨z23, E⟩ := gd_some E
      obtain ⟨z25, E⟩ := gd_some E
      exact ih 2 ((x1 + (1 : Int32)) : Int32) (ea_wi (ea_wi (ea_wi (ea_wi (ea_wi (ea_wi (ea_wi (ea_wi h (b0 + 81) (Int32.toNatClampNeg x1) (ea_i h (b0 + 55) (Int32.toNatClampNeg x1))) (b0 + 82) (Int32.toNatClampNeg x1) (ea_i (ea_wi h (b0 + 81) (Int32.toNatClampNeg x1) (ea_i h (b0 + 55) (Int32.toNatClampNeg x1))) (b0 + 56) (Int32.toNatClampNeg x1))) (b0 + 83) (Int32.toNatClampNeg x1) (ea_i (ea_wi (ea_wi h (b0 + 81) (Int32.toNatClampNeg x1) (ea_i h (b0 + 55) (Int32.toNatClampNeg x1))) (b0 + 82) (Int32.toNatClampNeg x1) (ea_i (ea_wi h (b0 + 81) (Int32.toNatClampNeg x1) (ea_i h (b0 + 55) (Int32.toNatClampNeg x1))) (b0 + 56) (Int32.toNatClampNeg x1))) (b0 + 57) (Int32.toNatClampNeg x1))) (b0 + 84) (Int32.toNatClampNeg x1) (ea_i (ea_wi (ea_wi (ea_wi h (b0 + 81) (Int32.toNatClampNeg x1) (ea_i h (b0 + 55) (Int32.toNatClampNeg x1))) (b0 + 82) (Int32.toNatClampNeg x1) (ea_i (ea_wi h (b0 + 81) (Int32.toNatClampNeg x1) (ea_i h (b0 + 55) (Int32.toNatClampNeg x1))) (b0 + 56) (Int32.toNatClampNeg x1))) (b0 + 83) (Int32.toNatClampNeg x1) (ea_i (ea_wi (ea_wi h (b0 + 81) (Int32.toNatClampNeg x1) (ea_i h (b0 + 55) (Int32.toNatClampNeg x1))) (b0 + 82) (Int32.toNatClampNeg x1) (ea_i (ea_wi h (b0 + 81) (Int32.toNatClampNeg x1) (ea_i h (b0 + 55) (Int32.toNatClampNeg x1))) (b0 + 56) (Int32.toNatClampNeg x1))) (b0 + 57) (Int32.toNatClampNeg x1))) (b0 + 58) (Int32.toNatClampNeg x1))) (b0 + 85) (Int32.toNatClampNeg x1) (ea_i (ea_wi (ea_wi (ea_wi (ea_wi h (b0 + 81) (Int32.toNatClampNeg x1) (ea_i h (b0 + 55) (Int32.toNatClampNeg x1))) (b0 + 82) (Int32.toNatClampNeg x1) (ea_i (ea_wi h (b0 + 81) (Int32.toNatClampNeg x1) (ea_i h (b0 + 55) (Int32.toNatClampNeg x1))) (b0 + 56) (Int32.toNatClampNeg x1))) (b0 + 83) (Int32.toNatClampNeg x1) (ea_i (ea_wi (ea_wi h (b0 + 81) (Int32.toNatClampNeg x1) (ea_i h (b0 + 55) (Int32.toNatClampNeg x1))) (b0 + 82) (Int32.toNatClampNeg x1) (ea_i (ea_wi h (b0 + 81) (Int32.toNatClampNeg x1) (ea_i h (b0 + 55) (Int32.toNatClampNeg x1))) (b0 + 56) (Int32.toNatClampNeg x1))) (b0 + 57) (Int32.toNatClampNeg x1))) (b0 + 84) (Int32.toNatClampNeg x1) (ea_i (ea_wi (ea_wi (ea_wi h (b0 + 81) (Int32.toNatClampNeg x1) (ea_i h (b0 + 55) (Int32.toNatClampNeg x1))) (b0 + 82) (Int32.toNatClampNeg x1) (ea_i (ea_wi h (b0 + 81) (Int32.toNatClampNeg x1) (ea_i h (b0 + 55) (Int32.toNatClampNeg x1))) (b0 + 56) (Int32.toNatClampNeg x1))) (b0 + 83) (Int32.toNatClampNeg x1) (ea_i (ea_wi (ea_wi h (b0 + 81) (Int32.toNatClampNeg x1) (ea_i h (b0 + 55) (Int32.toNatClampNeg x1))) (b0 + 82) (Int32.toNatClampNeg x1) (ea_i (ea_wi h (b0 + 81) (Int32.toNatClampNeg x1) (ea_i h (b0 + 55) (Int32.toNatClampNeg x1))) (b0 + 56) (Int32.toNatClampNeg x1))) (b0 + 57) (Int32.toNatClampNeg x1))) (b0 + 58) (Int32.toNatClampNeg x1))) (b0 + 59) (Int32.toNatClampNeg x1))) (b0 + 86) (Int32.toNatClampNeg x1) (ea_i (ea_wi (ea_wi (ea_wi (ea_wi (ea_wi h (b0 + 81) (Int32.toNatClampNeg x1) (ea_i h (b0 + 55) (Int32.toNatClampNeg x1))) (b0 + 82) (Int32.toNatClampNeg x1) (ea_i (ea_wi h (b0 + 81) (Int32.toNatClampNeg x1) (ea_i h (b0 + 55) (Int32.toNatClampNeg x1))) (b0 + 56) (Int32.toNatClampNeg x1))) (b0 + 83) (Int32.toNatClampNeg x1) (ea_i (ea_wi (ea_wi h (b0 + 81) (Int32.toNatClampNeg x1) (ea_i h (b0 + 55) (Int32.toNatClampNeg x1))) (b0 + 82) (Int32.toNatClampNeg x1) (ea_i (ea_wi h (b0 + 81) (Int32.toNatClampNeg x1) (ea_i h (b0 + 55) (Int32.toNatClampNeg x1))) (b0 + 56) (Int32.toNatClampNeg x1))) (b0 + 57) (Int32.toNatClampNeg x1))) (b0 + 84) (Int32.toNatClampNeg x1) (ea_i (ea_wi (ea_wi (ea_wi h (b0 + 81) (Int32.toNatClampNeg x1) (ea_i h (b0 + 55) (Int32.toNatClampNeg x1))) (b0 + 82) (Int32.toNatClampNeg x1) (ea_i (ea_wi h (b0 + 81) (Int32.toNatClampNeg x1) (ea_i h (b0 + 55) (Int32.toNatClampNeg x1))) (b0 + 56) (Int32.toNatClampNeg x1))) (b0 + 83) (Int32.toNatClampNeg x1) (ea_i (ea_wi (ea_wi h (b0 + 81) (Int32.toNatClampNeg x1) (ea_i h (b0 + 55) (Int32.toNatClampNeg x1))) (b0 + 82) (Int32.toNatClampNeg x1) (ea_i (ea_wi h (b0 + 81) (Int32.toNatClampNeg x1) (ea_i h (b0 + 55) (Int32.toNatClampNeg x1))) (b0 + 56) (Int32.toNatClampNeg x1))) (b0 + 57) (Int32.toNatClampNeg x1))) (b0 + 58) (Int32.toNatClampNeg x1))) (b0 + 85) (Int32.toNatClampNeg x1) (ea_i (ea_wi (ea_wi (ea_wi (ea_wi h (b0 + 81) (Int32.toNatClampNeg x1) (ea_i h (b0 + 55) (Int32.toNatClampNeg x1))) (b0 + 82) (Int32.toNatClampNeg x1) (ea_i (ea_wi h (b0 + 81) (Int32.toNatClampNeg x1) (ea_i h (b0 + 55) (Int32.toNatClampNeg x1))) (b0 + 56) (Int32.toNatClampNeg x1))) (b0 + 83) (Int32.toNatClampNeg x1) (ea_i (ea_wi (ea_wi h (b0 + 81) (Int32.toNatClampNeg x1) (ea_i h (b0 + 55) (Int32.toNatClampNeg x1))) (b0 + 82) (Int32.toNatClampNeg x1) (ea_i (ea_wi h (b0 + 81) (Int32.toNatClampNeg x1) (ea_i h (b0 + 55) (Int32.toNatClampNeg x1))) (b0 + 56) (Int32.toNatClampNeg x1))) (b0 + 57) (Int32.toNatClampNeg x1))) (b0 + 84) (Int32.toNatClampNeg x1) (ea_i (ea_wi (ea_wi (ea_wi h (b0 + 81) (Int32.toNatClampNeg x1) (ea_i h (b0 + 55) (Int32.toNatClampNeg x1))) (b0 + 82) (Int32.toNatClampNeg x1) (ea_i (ea_wi h (b0 + 81) (Int32.toNatClampNeg x1) (ea_i h (b0 + 55) (Int32.toNatClampNeg x1))) (b0 + 56) (Int32.toNatClampNeg x1))) (b0 + 83) (Int32.toNatClampNeg x1) (ea_i (ea_wi (ea_wi h (b0 + 81) (Int32.toNatClampNeg x1) (ea_i h (b0 + 55) (Int32.toNatClampNeg x1))) (b0 + 82) (Int32.toNatClampNeg x1) (ea_i (ea_wi h (b0 + 81) (Int32.toNatClampNeg x1) (ea_i h (b0 + 55) (Int32.toNatClampNeg x1))) (b0 + 56) (Int32.toNatClampNeg x1))) (b0 + 57) (Int32.toNatClampNeg x1))) (b0 + 58) (Int32.toNatClampNeg x1))) (b0 + 59) (Int32.toNatClampNeg x1))) (b0 + 50) (Int32.toNatClampNeg x1))) (b0 + 87) (Int32.toNatClampNeg x1) (ea_i (ea_wi (ea_wi (ea_wi (ea_wi (ea_wi (ea_wi h (b0 + 81) (Int32.toNatClampNeg x1) (ea_i h (b0 + 55) (Int32.toNatClampNeg x1))) (b0 + 82) (Int32.toNatClampNeg x1) (ea_i (ea_wi h (b0 + 81) (Int32.toNatClampNeg x1) (ea_i h (b0 + 55) (Int32.toNatClampNeg x1))) (b0 + 56) (Int32.toNatClampNeg x1))) (b0 + 83) (Int32.toNatClampNeg x1) (ea_i (ea_wi (ea_wi h (b0 + 81) (Int32.toNatClampNeg x1) (ea_i h (b0 + 55) (Int32.toNatClampNeg x1))) (b0 + 82) (Int32.toNatClampNeg x1) (ea_i (ea_wi h (b0 + 81) (Int32.toNatClampNeg x1) (ea_i h (b0 + 55) (Int32.toNatClampNeg x1))) (b0 + 56) (Int32.toNatClampNeg x1))) (b0 + 57) (Int32.toNatClampNeg x1))) (b0 + 84) (Int32.toNatClampNeg x1) (ea_i (ea_wi (ea_wi (ea_wi h (b0 + 81) (Int32.toNatClampNeg x1) (ea_i h (b0 + 55) (Int32.toNatClampNeg x1))) (b0 + 82) (Int32.toNatClampNeg x1) (ea_i (ea_wi h (b0 + 81) (Int32.toNatClampNeg x1) (ea_i h (b0 + 55) (Int32.toNatClampNeg x1))) (b0 + 56) (Int32.toNatClampNeg x1))) (b0 + 83) (Int32.toNatClampNeg x1) (ea_i (ea_wi (ea_wi h (b0 + 81) (Int32.toNatClampNeg x1) (ea_i h (b0 + 55) (Int32.toNatClampNeg x1))) (b0 + 82) (Int32.toNatClampNeg x1) (ea_i (ea_wi h (b0 + 81) (Int32.toNatClampNeg x1) (ea_i h (b0 + 55) (Int32.toNatClampNeg x1))) (b0 + 56) (Int32.toNatClampNeg x1))) (b0 + 57) (Int32.toNatClampNeg x1))) (b0 + 58) (Int32.toNatClampNeg x1))) (b0 + 85) (Int32.toNatClampNeg x1) (ea_i (ea_wi (ea_wi (ea_wi (ea_wi h (b0 + 81) (Int32.toNatClampNeg x1) (ea_i h (b0 + 55) (Int32.toNatClampNeg x1))) (b0 + 82) (Int32.toNatClampNeg x1) (ea_i (ea_wi h (b0 + 81) (Int32.toNatClampNeg x1) (ea_i h (b0 + 55) (Int32.toNatClampNeg x1))) (b0 + 56) (Int32.toNatClampNeg x1))) (b0 + 83) (Int32.toNatClampNeg x1) (ea_i (ea_wi (ea_wi h (b0 + 81) (Int32.toNatClampNeg x1) (ea_i h (b0 + 55) (Int32.toNatClampNeg x1))) (b0 + 82) (Int32.toNatClampNeg x1) (ea_i (ea_wi h (b0 + 81) (Int32.toNatClampNeg x1) (ea_i h (b0 + 55) (Int32.toNatClampNeg x1))) (b0 + 56) (Int32.toNatClampNeg x1))) (b0 + 57) (Int32.toNatClampNeg x1))) (b0 + 84) (Int32.toNatClampNeg x1) (ea_i (ea_wi (ea_wi (ea_wi h (b0 + 81) (Int32.toNatClampNeg x1) (ea_i h (b0 + 55) (Int32.toNatClampNeg x1))) (b0 + 82) (Int32.toNatClampNeg x1) (ea_i (ea_wi h (b0 + 81) (Int32.toNatClampNeg x1) (ea_i h (b0 + 55) (Int32.toNatClampNeg x1))) (b0 + 56) (Int32.toNatClampNeg x1))) (b0 + 83) (Int32.toNatClampNeg x1) (ea_i (ea_wi (ea_wi h (b0 + 81) (Int32.toNatClampNeg x1) (ea_i h (b0 + 55) (Int32.toNatClampNeg x1))) (b0 + 82) (Int32.toNatClampNeg x1) (ea_i (ea_wi h (b0 + 81) (Int32.toNatClampNeg x1) (ea_i h (b0 + 55) (Int32.toNatClampNeg x1))) (b0 + 56) (Int32.toNatClampNeg x1))) (b0 + 57) (Int32.toNatClampNeg x1))) (b0 + 58) (Int32.toNatClampNeg x1))) (b0 + 59) (Int32.toNatClampNeg x1))) (b0 + 86) (Int32.toNatClampNeg x1) (ea_i (ea_wi (ea_wi (ea_wi (ea_wi (ea_wi h (b0 + 81) (Int32.toNatClampNeg x1) (ea_i h (b0 + 55) (Int32.toNatClampNeg x1))) (b0 + 82) (Int32.toNatClampNeg x1) (ea_i (ea_wi h (b0 + 81) (Int32.toNatClampNeg x1) (ea_i h (b0 + 55) (Int32.toNatClampNeg x1))) (b0 + 56) (Int32.toNatClampNeg x1))) (b0 + 83) (Int32.toNatClampNeg x1) (ea_i (ea_wi (ea_wi h (b0 + 81) (Int32.toNatClampNeg x1) (ea_i h (b0 + 55) (Int32.toNatClampNeg x1))) (b0 + 82) (Int32.toNatClampNeg x1) (ea_i (ea_wi h (b0 + 81) (Int32.toNatClampNeg x1) (ea_i h (b0 + 55) (Int32.toNatClampNeg x1))) (b0 + 56) (Int32.toNatClampNeg x1))) (b0 + 57) (Int32.toNatClampNeg x1))) (b0 + 84) (Int32.toNatClampNeg x1) (ea_i (ea_wi (ea_wi (ea_wi h (b0 + 81) (Int32.toNatClampNeg x1) (ea_i h (b0 + 55) (Int32.toNatClampNeg x1))) (b0 + 82) (Int32.toNatClampNeg x1) (ea_i (ea_wi h (b0 + 81) (Int32.toNatClampNeg x1) (ea_i h (b0 + 55) (Int32.toNatClampNeg x1))) (b0 + 56) (Int32.toNatClampNeg x1))) (b0 + 83) (Int32.toNatClampNeg x1) (ea_i (ea_wi (ea_wi h (b0 + 81) (Int32.toNatClampNeg x1) (ea_i h (b0 + 55) (Int32.toNatClampNeg x1))) (b0 + 82) (Int32.toNatClampNeg x1) (ea_i (ea_wi h (b0 + 81) (Int32.toNatClampNeg x1) (ea_i h (b0 + 55) (Int32.toNatClampNeg x1))) (b0 + 56) (Int32.toNatClampNeg x1))) (b0 + 57) (Int32.toNatClampNeg x1))) (b0 + 58) (Int32.toNatClampNeg x1))) (b0 + 85) (Int32.toNatClampNeg x1) (ea_i (ea_wi (ea_wi (ea_wi (ea_wi h (b0 + 81) (Int32.toNatClampNeg x1) (ea_i h (b0 + 55) (Int32.toNatClampNeg x1))) (b0 + 82) (Int32.toNatClampNeg x1) (ea_i (ea_wi h (b0 + 81) (Int32.toNatClampNeg x1) (ea_i h (b0 + 55) (Int32.toNatClampNeg x1))) (b0 + 56) (Int32.toNatClampNeg x1))) (b0 + 83) (Int32.toNatClampNeg x1) (ea_i (ea_wi (ea_wi h (b0 + 81) (Int32.toNatClampNeg x1) (ea_i h (b0 + 55) (Int32.toNatClampNeg x1))) (b0 + 82) (Int32.toNatClampNeg x1) (ea_i (ea_wi h (b0 + 81) (Int32.toNatClampNeg x1) (ea_i h (b0 + 55) (Int32.toNatClampNeg x1))) (b0 + 56) (Int32.toNatClampNeg x1))) (b0 + 57) (Int32.toNatClampNeg x1))) (b0 + 84) (Int32.toNatClampNeg x1) (ea_i (ea_wi (ea_wi (ea_wi h (b0 + 81) (Int32.toNatClampNeg x1) (ea_i h (b0 + 55) (Int32.toNatClampNeg x1))) (b0 + 82) (Int32.toNatClampNeg x1) (ea_i (ea_wi h (b0 + 81) (Int32.toNatClampNeg x1) (ea_i h (b0 + 55) (Int32.toNatClampNeg x1))) (b0 + 56) (Int32.toNatClampNeg x1))) (b0 + 83) (Int32.toNatClampNeg x1) (ea_i (ea_wi (ea_wi h (b0 + 81) (Int32.toNatClampNeg x1) (ea_i h (b0 + 55) (Int32.toNatClampNeg x1))) (b0 + 82) (Int32.toNatClampNeg x1) (ea_i (ea_wi h (b0 + 81) (Int32.toNatClampNeg x1) (ea_i h (b0 + 55) (Int32.toNatClampNeg x1))) (b0 + 56) (Int32.toNatClampNeg x1))) (b0 + 57) (Int32.toNatClampNeg x1))) (b0 + 58) (Int32.toNatClampNeg x1))) (b0 + 59) (Int32.toNatClampNeg x1))) (b0 + 50) (Int32.toNatClampNeg x1))) (b0 + 51) (Int32.toNatClampNeg x1))) (b0 + 89) (Int32.toNatClampNeg x1) (ea_i (ea_wi (ea_wi (ea_wi (ea_wi (ea_wi (ea_wi (ea_wi h (b0 + 81) (Int32.toNatClampNeg x1) (ea_i h (b0 + 55) (Int32.toNatClampNeg x1))) (b0 + 82) (Int32.toNatClampNeg x1) (ea_i (ea_wi h (b0 + 81) (Int32.toNatClampNeg x1) (ea_i h (b0 + 55) (Int32.toNatClampNeg x1))) (b0 + 56) (Int32.toNatClampNeg x1))) (b0 + 83) (Int32.toNatClampNeg x1) (ea_i (ea_wi (ea_wi h (b0 + 81) (Int32.toNatClampNeg x1) (ea_i h (b0 + 55) (Int32.toNatClampNeg x1))) (b0 + 82) (Int32.toNatClampNeg x1) (ea_i (ea_wi h (b0 + 81) (Int32.toNatClampNeg x1) (ea_i h (b0 + 55) (Int32.toNatClampNeg x1))) (b0 + 56) (Int32.toNatClampNeg x1))) (b0 + 57) (Int32.toNatClampNeg x1))) (b0 + 84) (Int32.toNatClampNeg x1) (ea_i (ea_wi (ea_wi (ea_wi h (b0 + 81) (Int32.toNatClampNeg x1) (ea_i h (b0 + 55) (Int32.toNatClampNeg x1))) (b0 + 82) (Int32.toNatClampNeg x1) (ea_i (ea_wi h (b0 + 81) (Int32.toNatClampNeg x1) (ea_i h (b0 + 55) (Int32.toNatClampNeg x1))) (b0 + 56) (Int32.toNatClampNeg x1))) (b0 + 83) (Int32.toNatClampNeg x1) (ea_i (ea_wi (ea_wi h (b0 + 81) (Int32.toNatClampNeg x1) (ea_i h (b0 + 55) (Int32.toNatClampNeg x1))) (b0 + 82) (Int32.toNatClampNeg x1) (ea_i (ea_wi h (b0 + 81) (Int32.toNatClampNeg x1) (ea_i h (b0 + 55) (Int32.toNatClampNeg x1))) (b0 + 56) (Int32.toNatClampNeg x1))) (b0 + 57) (Int32.toNatClampNeg x1))) (b0 + 58) (Int32.toNatClampNeg x1))) (b0 + 85) (Int32.toNatClampNeg x1) (ea_i (ea_wi (ea_wi (ea_wi (ea_wi h (b0 + 81) (Int32.toNatClampNeg x1) (ea_i h (b0 + 55) (Int32.toNatClampNeg x1))) (b0 + 82) (Int32.toNatClampNeg x1) (ea_i (ea_wi h (b0 + 81) (Int32.toNatClampNeg x1) (ea_i h (b0 + 55) (Int32.toNatClampNeg x1))) (b0 + 56) (Int32.toNatClampNeg x1))) (b0 + 83) (Int32.toNatClampNeg x1) (ea_i (ea_wi (ea_wi h (b0 + 81) (Int32.toNatClampNeg x1) (ea_i h (b0 + 55) (Int32.toNatClampNeg x1))) (b0 + 82) (Int32.toNatClampNeg x1) (ea_i (ea_wi h (b0 + 81) (Int32.toNatClampNeg x1) (ea_i h (b0 + 55) (Int32.toNatClampNeg x1))) (b0 + 56) (Int32.toNatClampNeg x1))) (b0 + 57) (Int32.toNatClampNeg x1))) (b0 + 84) (Int32.toNatClampNeg x1) (ea_i (ea_wi (ea_wi (ea_wi h (b0 + 81) (Int32.toNatClampNeg x1) (ea_i h (b0 + 55) (Int32.toNatClampNeg x1))) (b0 + 82) (Int32.toNatClampNeg x1) (ea_i (ea_wi h (b0 + 81) (Int32.toNatClampNeg x1) (ea_i h (b0 + 55) (Int32.toNatClampNeg x1))) (b0 + 56) (Int32.toNatClampNeg x1))) (b0 + 83) (Int32.toNatClampNeg x1) (ea_i (ea_wi (ea_wi h (b0 + 81) (Int32.toNatClampNeg x1) (ea_i h (b0 + 55) (Int32.toNatClampNeg x1))) (b0 + 82) (Int32.toNatClampNeg x1) (ea_i (ea_wi h (b0 + 81) (Int32.toNatClampNeg x1) (ea_i h (b0 + 55) (Int32.toNatClampNeg x1))) (b0 + 56) (Int32.toNatClampNeg x1))) (b0 + 57) (Int32.toNatClampNeg x1))) (b0 + 58) (Int32.toNatClampNeg x1))) (b0 + 59) (Int32.toNatClampNeg x1))) (b0 + 86) (Int32.toNatClampNeg x1) (ea_i (ea_wi (ea_wi (ea_wi (ea_wi (ea_wi h (b0 + 81) (Int32.toNatClampNeg x1) (ea_i h (b0 + 55) (Int32.toNatClampNeg x1))) (b0 + 82) (Int32.toNatClampNeg x1) (ea_i (ea_wi h (b0 + 81) (Int32.toNatClampNeg x1) (ea_i h (b0 + 55) (Int32.toNatClampNeg x1))) (b0 + 56) (Int32.toNatClampNeg x1))) (b0 + 83) (Int32.toNatClampNeg x1) (ea_i (ea_wi (ea_wi h (b0 + 81) (Int32.toNatClampNeg x1) (ea_i h (b0 + 55) (Int32.toNatClampNeg x1))) (b0 + 82) (Int32.toNatClampNeg x1) (ea_i (ea_wi h (b0 + 81) (Int32.toNatClampNeg x1) (ea_i h (b0 + 55) (Int32.toNatClampNeg x1))) (b0 + 56) (Int32.toNatClampNeg x1))) (b0 + 57) (Int32.toNatClampNeg x1))) (b0 + 84) (Int32.toNatClampNeg x1) (ea_i (ea_wi (ea_wi (ea_wi h (b0 + 81) (Int32.toNatClampNeg x1) (ea_i h (b0 + 55) (Int32.toNatClampNeg x1))) (b0 + 82) (Int32.toNatClampNeg x1) (ea_i (ea_wi h (b0 + 81) (Int32.toNatClampNeg x1) (ea_i h (b0 + 55) (Int32.toNatClampNeg x1))) (b0 + 56) (Int32.toNatClampNeg x1))) (b0 + 83) (Int32.toNatClampNeg x1) (ea_i (ea_wi (ea_wi h (b0 + 81) (Int32.toNatClampNeg x1) (ea_i h (b0 + 55) (Int32.toNatClampNeg x1))) (b0 + 82) (Int32.toNatClampNeg x1) (ea_i (ea_wi h (b0 + 81) (Int32.toNatClampNeg x1) (ea_i h (b0 + 55) (Int32.toNatClampNeg x1))) (b0 + 56) (Int32.toNatClampNeg x1))) (b0 + 57) (Int32.toNatClampNeg x1))) (b0 + 58) (Int32.toNatClampNeg x1))) (b0 + 85) (Int32.toNatClampNeg x1) (ea_i (ea_wi (ea_wi (ea_wi (ea_wi h (b0 + 81) (Int32.toNatClampNeg x1) (ea_i h (b0 + 55) (Int32.toNatClampNeg x1))) (b0 + 82) (Int32.toNatClampNeg x1) (ea_i (ea_wi h (b0 + 81) (Int32.toNatClampNeg x1) (ea_i h (b0 + 55) (Int32.toNatClampNeg x1))) (b0 + 56) (Int32.toNatClampNeg x1))) (b0 + 83) (Int32.toNatClampNeg x1) (ea_i (ea_wi (ea_wi h (b0 + 81) (Int32.toNatClampNeg x1) (ea_i h (b0 + 55) (Int32.toNatClampNeg x1))) (b0 + 82) (Int32.toNatClampNeg x1) (ea_i (ea_wi h (b0 + 81) (Int32.toNatClampNeg x1) (ea_i h (b0 + 55) (Int32.toNatClampNeg x1))) (b0 + 56) (Int32.toNatClampNeg x1))) (b0 + 57) (Int32.toNatClampNeg x1))) (b0 + 84) (Int32.toNatClampNeg x1) (ea_i (ea_wi (ea_wi (ea_wi h (b0 + 81) (Int32.toNatClampNeg x1) (ea_i h (b0 + 55) (Int32.toNatClampNeg x1))) (b0 + 82) (Int32.toNatClampNeg x1) (ea_i (ea_wi h (b0 + 81) (Int32.toNatClampNeg x1) (ea_i h (b0 + 55) (Int32.toNatClampNeg x1))) (b0 + 56) (Int32.toNatClampNeg x1))) (b0 + 83) (Int32.toNatClampNeg x1) (ea_i (ea_wi (ea_wi h (b0 + 81) (Int32.toNatClampNeg x1) (ea_i h (b0 + 55) (Int32.toNatClampNeg x1))) (b0 + 82) (Int32.toNatClampNeg x1) (ea_i (ea_wi h (b0 + 81) (Int32.toNatClampNeg x1) (ea_i h (b0 + 55) (Int32.toNatClampNeg x1))) (b0 + 56) (Int32.toNatClampNeg x1))) (b0 + 57) (Int32.toNatClampNeg x1))) (b0 + 58) (Int32.toNatClampNeg x1))) (b0 + 59) (Int32.toNatClampNeg x1))) (b0 + 50) (Int32.toNatClampNeg x1))) (b0 + 87) (Int32.toNatClampNeg x1) (ea_i (ea_wi (ea_wi (ea_wi (ea_wi (ea_wi (ea_wi h (b0 + 81) (Int32.toNatClampNeg x1) (ea_i h (b0 + 55) (Int32.toNatClampNeg x1))) (b0 + 82) (Int32.toNatClampNeg x1) (ea_i (ea_wi h (b0 + 81) (Int32.toNatClampNeg x1) (ea_i h (b0 + 55) (Int32.toNatClampNeg x1))) (b0 + 56) (Int32.toNatClampNeg x1))) (b0 + 83) (Int32.toNatClampNeg x1) (ea_i (ea_wi (ea_wi h (b0 + 81) (Int32.toNatClampNeg x1) (ea_i h (b0 + 55) (Int32.toNatClampNeg x1))) (b0 + 82) (Int32.toNatClampNeg x1) (ea_i (ea_wi h (b0 + 81) (Int32.toNatClampNeg x1) (ea_i h (b0 + 55) (Int32.toNatClampNeg x1))) (b0 + 56) (Int32.toNatClampNeg x1))) (b0 + 57) (Int32.toNatClampNeg x1))) (b0 + 84) (Int32.toNatClampNeg x1) (ea_i (ea_wi (ea_wi (ea_wi h (b0 + 81) (Int32.toNatClampNeg x1) (ea_i h (b0 + 55) (Int32.toNatClampNeg x1))) (b0 + 82) (Int32.toNatClampNeg x1) (ea_i (ea_wi h (b0 + 81) (Int32.toNatClampNeg x1) (ea_i h (b0 + 55) (Int32.toNatClampNeg x1))) (b0 + 56) (Int32.toNatClampNeg x1))) (b0 + 83) (Int32.toNatClampNeg x1) (ea_i (ea_wi (ea_wi h (b0 + 81) (Int32.toNatClampNeg x1) (ea_i h (b0 + 55) (Int32.toNatClampNeg x1))) (b0 + 82) (Int32.toNatClampNeg x1) (ea_i (ea_wi h (b0 + 81) (Int32.toNatClampNeg x1) (ea_i h (b0 + 55) (Int32.toNatClampNeg x1))) (b0 + 56) (Int32.toNatClampNeg x1))) (b0 + 57) (Int32.toNatClampNeg x1))) (b0 + 58) (Int32.toNatClampNeg x1))) (b0 + 85) (Int32.toNatClampNeg x1) (ea_i (ea_wi (ea_wi (ea_wi (ea_wi h (b0 + 81) (Int32.toNatClampNeg x1) (ea_i h (b0 + 55) (Int32.toNatClampNeg x1))) (b0 + 82) (Int32.toNatClampNeg x1) (ea_i (ea_wi h (b0 + 81) (Int32.toNatClampNeg x1) (ea_i h (b0 + 55) (Int32.toNatClampNeg x1))) (b0 + 56) (Int32.toNatClampNeg x1))) (b0 + 83) (Int32.toNatClampNeg x1) (ea_i (ea_wi (ea_wi h (b0 + 81) (Int32.toNatClampNeg x1) (ea_i h (b0 + 55) (Int32.toNatClampNeg x1))) (b0 + 82) (Int32.toNatClampNeg x1) (ea_i (ea_wi h (b0 + 81) (Int32.toNatClampNeg x1) (ea_i h (b0 + 55) (Int32.toNatClampNeg x1))) (b0 + 56) (Int32.toNatClampNeg x1))) (b0 + 57) (Int32.toNatClampNeg x1))) (b0 + 84) (Int32.toNatClampNeg x1) (ea_i (ea_wi (ea_wi (ea_wi h (b0 + 81) (Int32.toNatClampNeg x1) (ea_i h (b0 + 55) (Int32.toNatClampNeg x1))) (b0 + 82) (Int32.toNatClampNeg x1) (ea_i (ea_wi h (b0 + 81) (Int32.toNatClampNeg x1) (ea_i h (b0 + 55) (Int32.toNatClampNeg x1))) (b0 + 56) (Int32.toNatClampNeg x1))) (b0 + 83) (Int32.toNatClampNeg x1) (ea_i (ea_wi (ea_wi h (b0 + 81) (Int32.toNatClampNeg x1) (ea_i h (b0 + 55) (Int32.toNatClampNeg x1))) (b0 + 82) (Int32.toNatClampNeg x1) (ea_i (ea_wi h (b0 + 81) (Int32.toNatClampNeg x1) (ea_i h (b0 + 55) (Int32.toNatClampNeg x1))) (b0 + 56) (Int32.toNatClampNeg x1))) (b0 + 57) (Int32.toNatClampNeg x1))) (b0 + 58) (Int32.toNatClampNeg x1))) (b0 + 59) (Int32.toNatClampNeg x1))) (b0 + 86) (Int32.toNatClampNeg x1) (ea_i (ea_wi (ea_wi (ea_wi (ea_wi (ea_wi h (b0 + 81) (Int32.toNatClampNeg x1) (ea_i h (b0 + 55) (Int32.toNatClampNeg x1))) (b0 + 82) (Int32.toNatClampNeg x1) (ea_i (ea_wi h (b0 + 81) (Int32.toNatClampNeg x1) (ea_i h (b0 + 55) (Int32.toNatClampNeg x1))) (b0 + 56) (Int32.toNatClampNeg x1))) (b0 + 83) (Int32.toNatClampNeg x1) (ea_i (ea_wi (ea_wi h (b0 + 81) (Int32.toNatClampNeg x1) (ea_i h (b0 + 55) (Int32.toNatClampNeg x1))) (b0 + 82) (Int32.toNatClampNeg x1) (ea_i (ea_wi h (b0 + 81) (Int32.toNatClampNeg x1) (ea_i h (b0 + 55) (Int32.toNatClampNeg x1))) (b0 + 56) (Int32.toNatClampNeg x1))) (b0 + 57) (Int32.toNatClampNeg x1))) (b0 + 84) (Int32.toNatClampNeg x1) (ea_i (ea_wi (ea_wi (ea_wi h (b0 + 81) (Int32.toNatClampNeg x1) (ea_i h (b0 + 55) (Int32.toNatClampNeg x1))) (b0 + 82) (Int32.toNatClampNeg x1) (ea_i (ea_wi h (b0 + 81) (Int32.toNatClampNeg x1) (ea_i h (b0 + 55) (Int32.toNatClampNeg x1))) (b0 + 56) (Int32.toNatClampNeg x1))) (b0 + 83) (Int32.toNatClampNeg x1) (ea_i (ea_wi (ea_wi h (b0 + 81) (Int32.toNatClampNeg x1) (ea_i h (b0 + 55) (Int32.toNatClampNeg x1))) (b0 + 82) (Int32.toNatClampNeg x1) (ea_i (ea_wi h (b0 + 81) (Int32.toNatClampNeg x1) (ea_i h (b0 + 55) (Int32.toNatClampNeg x1))) (b0 + 56) (Int32.toNatClampNeg x1))) (b0 + 57) (Int32.toNatClampNeg x1))) (b0 + 58) (Int32.toNatClampNeg x1))) (b0 + 85) (Int32.toNatClampNeg x1) (ea_i (ea_wi (ea_wi (ea_wi (ea_wi h (b0 + 81) (Int32.toNatClampNeg x1) (ea_i h (b0 + 55) (Int32.toNatClampNeg x1))) (b0 + 82) (Int32.toNatClampNeg x1) (ea_i (ea_wi h (b0 + 81) (Int32.toNatClampNeg x1) (ea_i h (b0 + 55) (Int32.toNatClampNeg x1))) (b0 + 56) (Int32.toNatClampNeg x1))) (b0 + 83) (Int32.toNatClampNeg x1) (ea_i (ea_wi (ea_wi h (b0 + 81) (Int32.toNatClampNeg x1) (ea_i h (b0 + 55) (Int32.toNatClampNeg x1))) (b0 + 82) (Int32.toNatClampNeg x1) (ea_i (ea_wi h (b0 + 81) (Int32.toNatClampNeg x1) (ea_i h (b0 + 55) (Int32.toNatClampNeg x1))) (b0 + 56) (Int32.toNatClampNeg x1))) (b0 + 57) (Int32.toNatClampNeg x1))) (b0 + 84) (Int32.toNatClampNeg x1) (ea_i (ea_wi (ea_wi (ea_wi h (b0 + 81) (Int32.toNatClampNeg x1) (ea_i h (b0 + 55) (Int32.toNatClampNeg x1))) (b0 + 82) (Int32.toNatClampNeg x1) (ea_i (ea_wi h (b0 + 81) (Int32.toNatClampNeg x1) (ea_i h (b0 + 55) (Int32.toNatClampNeg x1))) (b0 + 56) (Int32.toNatClampNeg x1))) (b0 + 83) (Int32.toNatClampNeg x1) (ea_i (ea_wi (ea_wi h (b0 + 81) (Int32.toNatClampNeg x1) (ea_i h (b0 + 55) (Int32.toNatClampNeg x1))) (b0 + 82) (Int32.toNatClampNeg x1) (ea_i (ea_wi h (b0 + 81) (Int32.toNatClampNeg x1) (ea_i h (b0 + 55) (Int32.toNatClampNeg x1))) (b0 + 56) (Int32.toNatClampNeg x1))) (b0 + 57) (Int32.toNatClampNeg x1))) (b0 + 58) (Int32.toNatClampNeg x1))) (b0 + 59) (Int32.toNatClampNeg x1))) (b0 + 50) (Int32.toNatClampNeg x1))) (b0 + 51) (Int32.toNatClampNeg x1))) (b0 + 61) (Int32.toNatClampNeg x1))) _ _ E (ShM_wi (ShM_wi (ShM_wi (ShM_wi (ShM_wi (ShM_wi (ShM_wi (ShM_wi hs))))))))
    have E := (if_neg el1).symm.trans E
    by_cases el2 : lbl = 114
    · have E := (if_pos el2).symm.trans E
      by_cases c30 : (70 : Int32) ≤ x1
      · have E := (if_pos c30).symm.trans E
        cases E
        exact hs
      have E := (if_neg c30).symm.trans E
      obtain ⟨z27, E⟩ := gd_some E
      obtain ⟨z28, E⟩ := gd_some E
      exact ih 114 ((x1 + (1 : Int32)) : Int32) (ea_wi h (b0 + 88) (Int32.toNatClampNeg x1) (ea_i h (b0 + 60) (Int32.toNatClampNeg x1))) _ _ E (ShM_wi hs)
    have E := (if_neg el2).symm.trans E
    cases E
theorem shX12_keeps {b0 : Nat} {h : ea_H} (hs : ShM b0 h) : ShM b0 (wX12_keeps b0 h) := by
  unfold wX12_keeps
  cases K : qX12_keeps b0 h with
  | none => exact hs
  | some x => obtain ⟨x, y⟩ := x; unfold qX12_keeps at K; exact zX12_keeps _ _ _ _ _ _ K hs
noncomputable def gX12_putsBack (b0 : Nat) : Nat → Nat → Int32 → ea_H → Option (Unit × ea_H)
  | 0, _, _, _ => none
  | f + 1, lbl, x1, h =>
    if lbl = 0 then (gX12_putsBack b0 f 2 (0 : Int32) h) else
    if lbl = 2 then (if (ea_i h (b0 + 0) 63) ≤ x1 then (gX12_putsBack b0 f 114 (0 : Int32) h) else (gd (vp_in x1 120) (gd (vp_in x1 120) (gd (vp_in x1 120) (gd (vp_in x1 120) (gd (vp_in x1 120) (gd (vp_in x1 120) (gd (vp_in x1 120) (gd (vp_in x1 120) (gd (vp_in x1 120) (gd (vp_in x1 120) (gd (vp_in x1 120) (gd (vp_in x1 120) (gd (vp_in x1 120) (gd (vp_in x1 120) (gd (vp_in x1 120) (gd (vp_in x1 120) (gd (((ea_i (ea_wi (ea_wi (ea_wi (ea_wi (ea_wi (ea_wi (ea_wi h (b0 + 55) (Int32.toNatClampNeg x1) (ea_i h (b0 + 81) (Int32.toNatClampNeg x1))) (b0 + 56) (Int32.toNatClampNeg x1) (ea_i (ea_wi h (b0 + 55) (Int32.toNatClampNeg x1) (ea_i h (b0 + 81) (Int32.toNatClampNeg x1))) (b0 + 82) (Int32.toNatClampNeg x1))) (b0 + 57) (Int32.toNatClampNeg x1) (ea_i (ea_wi (ea_wi h (b0 + 55) (Int32.toNatClampNeg x1) (ea_i h (b0 + 81) (Int32.toNatClampNeg x1))) (b0 + 56) (Int32.toNatClampNeg x1) (ea_i (ea_wi h (b0 + 55) (Int32.toNatClampNeg x1) (ea_i h (b0 + 81) (Int32.toNatClampNeg x1))) (b0 + 82) (Int32.toNatClampNeg x1))) (b0 + 83) (Int32.toNatClampNeg x1))) (b0 + 58) (Int32.toNatClampNeg x1) (ea_i (ea_wi (ea_wi (ea_wi h (b0 + 55) (Int32.toNatClampNeg x1) (ea_i h (b0 + 81) (Int32.toNatClampNeg x1))) (b0 + 56) (Int32.toNatClampNeg x1) (ea_i (ea_wi h (b0 + 55) (Int32.toNatClampNeg x1) (ea_i h (b0 + 81) (Int32.toNatClampNeg x1))) (b0 + 82) (Int32.toNatClampNeg x1))) (b0 + 57) (Int32.toNatClampNeg x1) (ea_i (ea_wi (ea_wi h (b0 + 55) (Int32.toNatClampNeg x1) (ea_i h (b0 + 81) (Int32.toNatClampNeg x1))) (b0 + 56) (Int32.toNatClampNeg x1) (ea_i (ea_wi h (b0 + 55) (Int32.toNatClampNeg x1) (ea_i h (b0 + 81) (Int32.toNatClampNeg x1))) (b0 + 82) (Int32.toNatClampNeg x1))) (b0 + 83) (Int32.toNatClampNeg x1))) (b0 + 84) (Int32.toNatClampNeg x1))) (b0 + 59) (Int32.toNatClampNeg x1) (ea_i (ea_wi (ea_wi (ea_wi (ea_wi h (b0 + 55) (Int32.toNatClampNeg x1) (ea_i h (b0 + 81) (Int32.toNatClampNeg x1))) (b0 + 56) (Int32.toNatClampNeg x1) (ea_i (ea_wi h (b0 + 55) (Int32.toNatClampNeg x1) (ea_i h (b0 + 81) (Int32.toNatClampNeg x1))) (b0 + 82) (Int32.toNatClampNeg x1))) (b0 + 57) (Int32.toNatClampNeg x1) (ea_i (ea_wi (ea_wi h (b0 + 55) (Int32.toNatClampNeg x1) (ea_i h (b0 + 81) (Int32.toNatClampNeg x1))) (b0 + 56) (Int32.toNatClampNeg x1) (ea_i (ea_wi h (b0 + 55) (Int32.toNatClampNeg x1) (ea_i h (b0 + 81) (Int32.toNatClampNeg x1))) (b0 + 82) (Int32.toNatClampNeg x1))) (b0 + 83) (Int32.toNatClampNeg x1))) (b0 + 58) (Int32.toNatClampNeg x1) (ea_i (ea_wi (ea_wi (ea_wi h (b0 + 55) (Int32.toNatClampNeg x1) (ea_i h (b0 + 81) (Int32.toNatClampNeg x1))) (b0 + 56) (Int32.toNatClampNeg x1) (ea_i (ea_wi h (b0 + 55) (Int32.toNatClampNeg x1) (ea_i h (b0 + 81) (Int32.toNatClampNeg x1))) (b0 + 82) (Int32.toNatClampNeg x1))) (b0 + 57) (Int32.toNatClampNeg x1) (ea_i (ea_wi (ea_wi h (b0 + 55) (Int32.toNatClampNeg x1) (ea_i h (b0 + 81) (Int32.toNatClampNeg x1))) (b0 + 56) (Int32.toNatClampNeg x1) (ea_i (ea_wi h (b0 + 55) (Int32.toNatClampNeg x1) (ea_i h (b0 + 81) (Int32.toNatClampNeg x1))) (b0 + 82) (Int32.toNatClampNeg x1))) (b0 + 83) (Int32.toNatClampNeg x1))) (b0 + 84) (Int32.toNatClampNeg x1))) (b0 + 85) (Int32.toNatClampNeg x1))) (b0 + 50) (Int32.toNatClampNeg x1) (ea_i (ea_wi (ea_wi (ea_wi (ea_wi (ea_wi h (b0 + 55) (Int32.toNatClampNeg x1) (ea_i h (b0 + 81) (Int32.toNatClampNeg x1))) (b0 + 56) (Int32.toNatClampNeg x1) (ea_i (ea_wi h (b0 + 55) (Int32.toNatClampNeg x1) (ea_i h (b0 + 81) (Int32.toNatClampNeg x1))) (b0 + 82) (Int32.toNatClampNeg x1))) (b0 + 57) (Int32.toNatClampNeg x1) (ea_i (ea_wi (ea_wi h (b0 + 55) (Int32.toNatClampNeg x1) (ea_i h (b0 + 81) (Int32.toNatClampNeg x1))) (b0 + 56) (Int32.toNatClampNeg x1) (ea_i (ea_wi h (b0 + 55) (Int32.toNatClampNeg x1) (ea_i h (b0 + 81) (Int32.toNatClampNeg x1))) (b0 + 82) (Int32.toNatClampNeg x1))) (b0 + 83) (Int32.toNatClampNeg x1))) (b0 + 58) (Int32.toNatClampNeg x1) (ea_i (ea_wi (ea_wi (ea_wi h (b0 + 55) (Int32.toNatClampNeg x1) (ea_i h (b0 + 81) (Int32.toNatClampNeg x1))) (b0 + 56) (Int32.toNatClampNeg x1) (ea_i (ea_wi h (b0 + 55) (Int32.toNatClampNeg x1) (ea_i h (b0 + 81) (Int32.toNatClampNeg x1))) (b0 + 82) (Int32.toNatClampNeg x1))) (b0 + 57) (Int32.toNatClampNeg x1) (ea_i (ea_wi (ea_wi h (b0 + 55) (Int32.toNatClampNeg x1) (ea_i h (b0 + 81) (Int32.toNatClampNeg x1))) (b0 + 56) (Int32.toNatClampNeg x1) (ea_i (ea_wi h (b0 + 55) (Int32.toNatClampNeg x1) (ea_i h (b0 + 81) (Int32.toNatClampNeg x1))) (b0 + 82) (Int32.toNatClampNeg x1))) (b0 + 83) (Int32.toNatClampNeg x1))) (b0 + 84) (Int32.toNatClampNeg x1))) (b0 + 59) (Int32.toNatClampNeg x1) (ea_i (ea_wi (ea_wi (ea_wi (ea_wi h (b0 + 55) (Int32.toNatClampNeg x1) (ea_i h (b0 + 81) (Int32.toNatClampNeg x1))) (b0 + 56) (Int32.toNatClampNeg x1) (ea_i (ea_wi h (b0 + 55) (Int32.toNatClampNeg x1) (ea_i h (b0 + 81) (Int32.toNatClampNeg x1))) (b0 + 82) (Int32.toNatClampNeg x1))) (b0 + 57) (Int32.toNatClampNeg x1) (ea_i (ea_wi (ea_wi h (b0 + 55) (Int32.toNatClampNeg x1) (ea_i h (b0 + 81) (Int32.toNatClampNeg x1))) (b0 + 56) (Int32.toNatClampNeg x1) (ea_i (ea_wi h (b0 + 55) (Int32.toNatClampNeg x1) (ea_i h (b0 + 81) (Int32.toNatClampNeg x1))) (b0 + 82) (Int32.toNatClampNeg x1))) (b0 + 83) (Int32.toNatClampNeg x1))) (b0 + 58) (Int32.toNatClampNeg x1) (ea_i (ea_wi (ea_wi (ea_wi h (b0 + 55) (Int32.toNatClampNeg x1) (ea_i h (b0 + 81) (Int32.toNatClampNeg x1))) (b0 + 56) (Int32.toNatClampNeg x1) (ea_i (ea_wi h (b0 + 55) (Int32.toNatClampNeg x1) (ea_i h (b0 + 81) (Int32.toNatClampNeg x1))) (b0 + 82) (Int32.toNatClampNeg x1))) (b0 + 57) (Int32.toNatClampNeg x1) (ea_i (ea_wi (ea_wi h (b0 + 55) (Int32.toNatClampNeg x1) (ea_i h (b0 + 81) (Int32.toNatClampNeg x1))) (b0 + 56) (Int32.toNatClampNeg x1) (ea_i (ea_wi h (b0 + 55) (Int32.toNatClampNeg x1) (ea_i h (b0 + 81) (Int32.toNatClampNeg x1))) (b0 + 82) (Int32.toNatClampNeg x1))) (b0 + 83) (Int32.toNatClampNeg x1))) (b0 + 84) (Int32.toNatClampNeg x1))) (b0 + 85) (Int32.toNatClampNeg x1))) (b0 + 86) (Int32.toNatClampNeg x1))) (b0 + 51) (Int32.toNatClampNeg x1) (ea_i (ea_wi (ea_wi (ea_wi (ea_wi (ea_wi (ea_wi h (b0 + 55) (Int32.toNatClampNeg x1) (ea_i h (b0 + 81) (Int32.toNatClampNeg x1))) (b0 + 56) (Int32.toNatClampNeg x1) (ea_i (ea_wi h (b0 + 55) (Int32.toNatClampNeg x1) (ea_i h (b0 + 81) (Int32.toNatClampNeg x1))) (b0 + 82) (Int32.toNatClampNeg x1))) (b0 + 57) (Int32.toNatClampNeg x1) (ea_i (ea_wi (ea_wi h (b0 + 55) (Int32.toNatClampNeg x1) (ea_i h (b0 + 81) (Int32.toNatClampNeg x1))) (b0 + 56) (Int32.toNatClampNeg x1) (ea_i (ea_wi h (b0 + 55) (Int32.toNatClampNeg x1) (ea_i h (b0 + 81) (Int32.toNatClampNeg x1))) (b0 + 82) (Int32.toNatClampNeg x1))) (b0 + 83) (Int32.toNatClampNeg x1))) (b0 + 58) (Int32.toNatClampNeg x1) (ea_i (ea_wi (ea_wi (ea_wi h (b0 + 55) (Int32.toNatClampNeg x1) (ea_i h (b0 + 81) (Int32.toNatClampNeg x1))) (b0 + 56) (Int32.toNatClampNeg x1) (ea_i (ea_wi h (b0 + 55) (Int32.toNatClampNeg x1) (ea_i h (b0 + 81) (Int32.toNatClampNeg x1))) (b0 + 82) (Int32.toNatClampNeg x1))) (b0 + 57) (Int32.toNatClampNeg x1) (ea_i (ea_wi (ea_wi h (b0 + 55) (Int32.toNatClampNeg x1) (ea_i h (b0 + 81) (Int32.toNatClampNeg x1))) (b0 + 56) (Int32.toNatClampNeg x1) (ea_i (ea_wi h (b0 + 55) (Int32.toNatClampNeg x1) (ea_i h (b0 + 81) (Int32.toNatClampNeg x1))) (b0 + 82) (Int32.toNatClampNeg x1))) (b0 + 83) (Int32.toNatClampNeg x1))) (b0 + 84) (Int32.toNatClampNeg x1))) (b0 + 59) (Int32.toNatClampNeg x1) (ea_i (ea_wi (ea_wi (ea_wi (ea_wi h (b0 + 55) (Int32.toNatClampNeg x1) (ea_i h (b0 + 81) (Int32.toNatClampNeg x1))) (b0 + 56) (Int32.toNatClampNeg x1) (ea_i (ea_wi h (b0 + 55) (Int32.toNatClampNeg x1) (ea_i h (b0 + 81) (Int32.toNatClampNeg x1))) (b0 + 82) (Int32.toNatClampNeg x1))) (b0 + 57) (Int32.toNatClampNeg x1) (ea_i (ea_wi (ea_wi h (b0 + 55) (Int32.toNatClampNeg x1) (ea_i h (b0 + 81) (Int32.toNatClampNeg x1))) (b0 + 56) (Int32.toNatClampNeg x1) (ea_i (ea_wi h (b0 + 55) (Int32.toNatClampNeg x1) (ea_i h (b0 + 81) (Int32.toNatClampNeg x1))) (b0 + 82) (Int32.toNatClampNeg x1))) (b0 + 83) (Int32.toNatClampNeg x1))) (b0 + 58) (Int32.toNatClampNeg x1) (ea_i (ea_wi (ea_wi (ea_wi h (b0 + 55) (Int32.toNatClampNeg x1) (ea_i h (b0 + 81) (Int32.toNatClampNeg x1))) (b0 + 56) (Int32.toNatClampNeg x1) (ea_i (ea_wi h (b0 + 55) (Int32.toNatClampNeg x1) (ea_i h (b0 + 81) (Int32.toNatClampNeg x1))) (b0 + 82) (Int32.toNatClampNeg x1))) (b0 + 57) (Int32.toNatClampNeg x1) (ea_i (ea_wi (ea_wi h (b0 + 55) (Int32.toNatClampNeg x1) (ea_i h (b0 + 81) (Int32.toNatClampNeg x1))) (b0 + 56) (Int32.toNatClampNeg x1) (ea_i (ea_wi h (b0 + 55) (Int32.toNatClampNeg x1) (ea_i h (b0 + 81) (Int32.toNatClampNeg x1))) (b0 + 82) (Int32.toNatClampNeg x1))) (b0 + 83) (Int32.toNatClampNeg x1))) (b0 + 84) (Int32.toNatClampNeg x1))) (b0 + 85) (Int32.toNatClampNeg x1))) (b0 + 50) (Int32.toNatClampNeg x1) (ea_i (ea_wi (ea_wi (ea_wi (ea_wi (ea_wi h (b0 + 55) (Int32.toNatClampNeg x1) (ea_i h (b0 + 81) (Int32.toNatClampNeg x1))) (b0 + 56) (Int32.toNatClampNeg x1) (ea_i (ea_wi h (b0 + 55) (Int32.toNatClampNeg x1) (ea_i h (b0 + 81) (Int32.toNatClampNeg x1))) (b0 + 82) (Int32.toNatClampNeg x1))) (b0 + 57) (Int32.toNatClampNeg x1) (ea_i (ea_wi (ea_wi h (b0 + 55) (Int32.toNatClampNeg x1) (ea_i h (b0 + 81) (Int32.toNatClampNeg x1))) (b0 + 56) (Int32.toNatClampNeg x1) (ea_i (ea_wi h (b0 + 55) (Int32.toNatClampNeg x1) (ea_i h (b0 + 81) (Int32.toNatClampNeg x1))) (b0 + 82) (Int32.toNatClampNeg x1))) (b0 + 83) (Int32.toNatClampNeg x1))) (b0 + 58) (Int32.toNatClampNeg x1) (ea_i (ea_wi (ea_wi (ea_wi h (b0 + 55) (Int32.toNatClampNeg x1) (ea_i h (b0 + 81) (Int32.toNatClampNeg x1))) (b0 + 56) (Int32.toNatClampNeg x1) (ea_i (ea_wi h (b0 + 55) (Int32.toNatClampNeg x1) (ea_i h (b0 + 81) (Int32.toNatClampNeg x1))) (b0 + 82) (Int32.toNatClampNeg x1))) (b0 + 57) (Int32.toNatClampNeg x1) (ea_i (ea_wi (ea_wi h (b0 + 55) (Int32.toNatClampNeg x1) (ea_i h (b0 + 81) (Int32.toNatClampNeg x1))) (b0 + 56) (Int32.toNatClampNeg x1) (ea_i (ea_wi h (b0 + 55) (Int32.toNatClampNeg x1) (ea_i h (b0 + 81) (Int32.toNatClampNeg x1))) (b0 + 82) (Int32.toNatClampNeg x1))) (b0 + 83) (Int32.toNatClampNeg x1))) (b0 + 84) (Int32.toNatClampNeg x1))) (b0 + 59) (Int32.toNatClampNeg x1) (ea_i (ea_wi (ea_wi (ea_wi (ea_wi h (b0 + 55) (Int32.toNatClampNeg x1) (ea_i h (b0 + 81) (Int32.toNatClampNeg x1))) (b0 + 56) (Int32.toNatClampNeg x1) (ea_i (ea_wi h (b0 + 55) (Int32.toNatClampNeg x1) (ea_i h (b0 + 81) (Int32.toNatClampNeg x1))) (b0 + 82) (Int32.toNatClampNeg x1))) (b0 + 57) (Int32.toNatClampNeg x1) (ea_i (ea_wi (ea_wi h (b0 + 55) (Int32.toNatClampNeg x1) (ea_i h (b0 + 81) (Int32.toNatClampNeg x1))) (b0 + 56) (Int32.toNatClampNeg x1) (ea_i (ea_wi h (b0 + 55) (Int32.toNatClampNeg x1) (ea_i h (b0 + 81) (Int32.toNatClampNeg x1))) (b0 + 82) (Int32.toNatClampNeg x1))) (b0 + 83) (Int32.toNatClampNeg x1))) (b0 + 58) (Int32.toNatClampNeg x1) (ea_i (ea_wi (ea_wi (ea_wi h (b0 + 55) (Int32.toNatClampNeg x1) (ea_i h (b0 + 81) (Int32.toNatClampNeg x1))) (b0 + 56) (Int32.toNatClampNeg x1) (ea_i (ea_wi h (b0 + 55) (Int32.toNatClampNeg x1) (ea_i h (b0 + 81) (Int32.toNatClampNeg x1))) (b0 + 82) (Int32.toNatClampNeg x1))) (b0 + 57) (Int32.toNatClampNeg x1) (ea_i (ea_wi (ea_wi h (b0 + 55) (Int32.toNatClampNeg x1) (ea_i h (b0 + 81) (Int32.toNatClampNeg x1))) (b0 + 56) (Int32.toNatClampNeg x1) (ea_i (ea_wi h (b0 + 55) (Int32.toNatClampNeg x1) (ea_i h (b0 + 81) (Int32.toNatClampNeg x1))) (b0 + 82) (Int32.toNatClampNeg x1))) (b0 + 83) (Int32.toNatClampNeg x1))) (b0 + 84) (Int32.toNatClampNeg x1))) (b0 + 85) (Int32.toNatClampNeg x1))) (b0 + 86) (Int32.toNatClampNeg x1))) (b0 + 87) (Int32.toNatClampNeg x1))) (b0 + 89) (Int32.toNatClampNeg x1)) = 0 ∨ (ea_i (ea_wi (ea_wi (ea_wi (ea_wi (ea_wi (ea_wi (ea_wi h (b0 + 55) (Int32.toNatClampNeg x1) (ea_i h (b0 + 81) (Int32.toNatClampNeg x1))) (b0 + 56) (Int32.toNatClampNeg x1) (ea_i (ea_wi h (b0 + 55) (Int32.toNatClampNeg x1) (ea_i h (b0 + 81) (Int32.toNatClampNeg x1))) (b0 + 82) (Int32.toNatClampNeg x1))) (b0 + 57) (Int32.toNatClampNeg x1) (ea_i (ea_wi (ea_wi h (b0 + 55) (Int32.toNatClampNeg x1) (ea_i h (b0 + 81) (Int32.toNatClampNeg x1))) (b0 + 56) (Int32.toNatClampNeg x1) (ea_i (ea_wi h (b0 + 55) (Int32.toNatClampNeg x1) (ea_i h (b0 + 81) (Int32.toNatClampNeg x1))) (b0 + 82) (Int32.toNatClampNeg x1))) (b0 + 83) (Int32.toNatClampNeg x1))) (b0 + 58) (Int32.toNatClampNeg x1) (ea_i (ea_wi (ea_wi (ea_wi h (b0 + 55) (Int32.toNatClampNeg x1) (ea_i h (b0 + 81) (Int32.toNatClampNeg x1))) (b0 + 56) (Int32.toNatClampNeg x1) (ea_i (ea_wi h (b0 + 55) (Int32.toNatClampNeg x1) (ea_i h (b0 + 81) (Int32.toNatClampNeg x1))) (b0 + 82) (Int32.toNatClampNeg x1))) (b0 + 57) (Int32.toNatClampNeg x1) (ea_i (ea_wi (ea_wi h (b0 + 55) (Int32.toNatClampNeg x1) (ea_i h (b0 + 81) (Int32.toNatClampNeg x1))) (b0 + 56) (Int32.toNatClampNeg x1) (ea_i (ea_wi h (b0 + 55) (Int32.toNatClampNeg x1) (ea_i h (b0 + 81) (Int32.toNatClampNeg x1))) (b0 + 82) (Int32.toNatClampNeg x1))) (b0 + 83) (Int32.toNatClampNeg x1))) (b0 + 84) (Int32.toNatClampNeg x1))) (b0 + 59) (Int32.toNatClampNeg x1) (ea_i (ea_wi (ea_wi (ea_wi (ea_wi h (b0 + 55) (Int32.toNatClampNeg x1) (ea_i h (b0 + 81) (Int32.toNatClampNeg x1))) (b0 + 56) (Int32.toNatClampNeg x1) (ea_i (ea_wi h (b0 + 55) (Int32.toNatClampNeg x1) (ea_i h (b0 + 81) (Int32.toNatClampNeg x1))) (b0 + 82) (Int32.toNatClampNeg x1))) (b0 + 57) (Int32.toNatClampNeg x1) (ea_i (ea_wi (ea_wi h (b0 + 55) (Int32.toNatClampNeg x1) (ea_i h (b0 + 81) (Int32.toNatClampNeg x1))) (b0 + 56) (Int32.toNatClampNeg x1) (ea_i (ea_wi h (b0 + 55) (Int32.toNatClampNeg x1) (ea_i h (b0 + 81) (Int32.toNatClampNeg x1))) (b0 + 82) (Int32.toNatClampNeg x1))) (b0 + 83) (Int32.toNatClampNeg x1))) (b0 + 58) (Int32.toNatClampNeg x1) (ea_i (ea_wi (ea_wi (ea_wi h (b0 + 55) (Int32.toNatClampNeg x1) (ea_i h (b0 + 81) (Int32.toNatClampNeg x1))) (b0 + 56) (Int32.toNatClampNeg x1) (ea_i (ea_wi h (b0 + 55) (Int32.toNatClampNeg x1) (ea_i h (b0 + 81) (Int32.toNatClampNeg x1))) (b0 + 82) (Int32.toNatClampNeg x1))) (b0 + 57) (Int32.toNatClampNeg x1) (ea_i (ea_wi (ea_wi h (b0 + 55) (Int32.toNatClampNeg x1) (ea_i h (b0 + 81) (Int32.toNatClampNeg x1))) (b0 + 56) (Int32.toNatClampNeg x1) (ea_i (ea_wi h (b0 + 55) (Int32.toNatClampNeg x1) (ea_i h (b0 + 81) (Int32.toNatClampNeg x1))) (b0 + 82) (Int32.toNatClampNeg x1))) (b0 + 83) (Int32.toNatClampNeg x1))) (b0 + 84) (Int32.toNatClampNeg x1))) (b0 + 85) (Int32.toNatClampNeg x1))) (b0 + 50) (Int32.toNatClampNeg x1) (ea_i (ea_wi (ea_wi (ea_wi (ea_wi (ea_wi h (b0 + 55) (Int32.toNatClampNeg x1) (ea_i h (b0 + 81) (Int32.toNatClampNeg x1))) (b0 + 56) (Int32.toNatClampNeg x1) (ea_i (ea_wi h (b0 + 55) (Int32.toNatClampNeg x1) (ea_i h (b0 + 81) (Int32.toNatClampNeg x1))) (b0 + 82) (Int32.toNatClampNeg x1))) (b0 + 57) (Int32.toNatClampNeg x1) (ea_i (ea_wi (ea_wi h (b0 + 55) (Int32.toNatClampNeg x1) (ea_i h (b0 + 81) (Int32.toNatClampNeg x1))) (b0 + 56) (Int32.toNatClampNeg x1) (ea_i (ea_wi h (b0 + 55) (Int32.toNatClampNeg x1) (ea_i h (b0 + 81) (Int32.toNatClampNeg x1))) (b0 + 82) (Int32.toNatClampNeg x1))) (b0 + 83) (Int32.toNatClampNeg x1))) (b0 + 58) (Int32.toNatClampNeg x1) (ea_i (ea_wi (ea_wi (ea_wi h (b0 + 55) (Int32.toNatClampNeg x1) (ea_i h (b0 + 81) (Int32.toNatClampNeg x1))) (b0 + 56) (Int32.toNatClampNeg x1) (ea_i (ea_wi h (b0 + 55) (Int32.toNatClampNeg x1) (ea_i h (b0 + 81) (Int32.toNatClampNeg x1))) (b0 + 82) (Int32.toNatClampNeg x1))) (b0 + 57) (Int32.toNatClampNeg x1) (ea_i (ea_wi (ea_wi h (b0 + 55) (Int32.toNatClampNeg x1) (ea_i h (b0 + 81) (Int32.toNatClampNeg x1))) (b0 + 56) (Int32.toNatClampNeg x1) (ea_i (ea_wi h (b0 + 55) (Int32.toNatClampNeg x1) (ea_i h (b0 + 81) (Int32.toNatClampNeg x1))) (b0 + 82) (Int32.toNatClampNeg x1))) (b0 + 83) (Int32.toNatClampNeg x1))) (b0 + 84) (Int32.toNatClampNeg x1))) (b0 + 59) (Int32.toNatClampNeg x1) (ea_i (ea_wi (ea_wi (ea_wi (ea_wi h (b0 + 55) (Int32.toNatClampNeg x1) (ea_i h (b0 + 81) (Int32.toNatClampNeg x1))) (b0 + 56) (Int32.toNatClampNeg x1) (ea_i (ea_wi h (b0 + 55) (Int32.toNatClampNeg x1) (ea_i h (b0 + 81) (Int32.toNatClampNeg x1))) (b0 + 82) (Int32.toNatClampNeg x1))) (b0 + 57) (Int32.toNatClampNeg x1) (ea_i (ea_wi (ea_wi h (b0 + 55) (Int32.toNatClampNeg x1) (ea_i h (b0 + 81) (Int32.toNatClampNeg x1))) (b0 + 56) (Int32.toNatClampNeg x1) (ea_i (ea_wi h (b0 + 55) (Int32.toNatClampNeg x1) (ea_i h (b0 + 81) (Int32.toNatClampNeg x1))) (b0 + 82) (Int32.toNatClampNeg x1))) (b0 + 83) (Int32.toNatClampNeg x1))) (b0 + 58) (Int32.toNatClampNeg x1) (ea_i (ea_wi (ea_wi (ea_wi h (b0 + 55) (Int32.toNatClampNeg x1) (ea_i h (b0 + 81) (Int32.toNatClampNeg x1))) (b0 + 56) (Int32.toNatClampNeg x1) (ea_i (ea_wi h (b0 + 55) (Int32.toNatClampNeg x1) (ea_i h (b0 + 81) (Int32.toNatClampNeg x1))) (b0 + 82) (Int32.toNatClampNeg x1))) (b0 + 57) (Int32.toNatClampNeg x1) (ea_i (ea_wi (ea_wi h (b0 + 55) (Int32.toNatClampNeg x1) (ea_i h (b0 + 81) (Int32.toNatClampNeg x1))) (b0 + 56) (Int32.toNatClampNeg x1) (ea_i (ea_wi h (b0 + 55) (Int32.toNatClampNeg x1) (ea_i h (b0 + 81) (Int32.toNatClampNeg x1))) (b0 + 82) (Int32.toNatClampNeg x1))) (b0 + 83) (Int32.toNatClampNeg x1))) (b0 + 84) (Int32.toNatClampNeg x1))) (b0 + 85) (Int32.toNatClampNeg x1))) (b0 + 86) (Int32.toNatClampNeg x1))) (b0 + 51) (Int32.toNatClampNeg x1) (ea_i (ea_wi (ea_wi (ea_wi (ea_wi (ea_wi (ea_wi h (b0 + 55) (Int32.toNatClampNeg x1) (ea_i h (b0 + 81) (Int32.toNatClampNeg x1))) (b0 + 56) (Int32.toNatClampNeg x1) (ea_i (ea_wi h (b0 + 55) (Int32.toNatClampNeg x1) (ea_i h (b0 + 81) (Int32.toNatClampNeg x1))) (b0 + 82) (Int32.toNatClampNeg x1))) (b0 + 57) (Int32.toNatClampNeg x1) (ea_i (ea_wi (ea_wi h (b0 + 55) (Int32.toNatClampNeg x1) (ea_i h (b0 + 81) (Int32.toNatClampNeg x1))) (b0 + 56) (Int32.toNatClampNeg x1) (ea_i (ea_wi h (b0 + 55) (Int32.toNatClampNeg x1) (ea_i h (b0 + 81) (Int32.toNatClampNeg x1))) (b0 + 82) (Int32.toNatClampNeg x1))) (b0 + 83) (Int32.toNatClampNeg x1))) (b0 + 58) (Int32.toNatClampNeg x1) (ea_i (ea_wi (ea_wi (ea_wi h (b0 + 55) (Int32.toNatClampNeg x1) (ea_i h (b0 + 81) (Int32.toNatClampNeg x1))) (b0 + 56) (Int32.toNatClampNeg x1) (ea_i (ea_wi h (b0 + 55) (Int32.toNatClampNeg x1) (ea_i h (b0 + 81) (Int32.toNatClampNeg x1))) (b0 + 82) (Int32.toNatClampNeg x1))) (b0 + 57) (Int32.toNatClampNeg x1) (ea_i (ea_wi (ea_wi h (b0 + 55) (Int32.toNatClampNeg x1) (ea_i h (b0 + 81) (Int32.toNatClampNeg x1))) (b0 + 56) (Int32.toNatClampNeg x1) (ea_i (ea_wi h (b0 + 55) (Int32.toNatClampNeg x1) (ea_i h (b0 + 81) (Int32.toNatClampNeg x1))) (b0 + 82) (Int32.toNatClampNeg x1))) (b0 + 83) (Int32.toNatClampNeg x1))) (b0 + 84) (Int32.toNatClampNeg x1))) (b0 + 59) (Int32.toNatClampNeg x1) (ea_i (ea_wi (ea_wi (ea_wi (ea_wi h (b0 + 55) (Int32.toNatClampNeg x1) (ea_i h (b0 + 81) (Int32.toNatClampNeg x1))) (b0 + 56) (Int32.toNatClampNeg x1) (ea_i (ea_wi h (b0 + 55) (Int32.toNatClampNeg x1) (ea_i h (b0 + 81) (Int32.toNatClampNeg x1))) (b0 + 82) (Int32.toNatClampNeg x1))) (b0 + 57) (Int32.toNatClampNeg x1) (ea_i (ea_wi (ea_wi h (b0 + 55) (Int32.toNatClampNeg x1) (ea_i h (b0 + 81) (Int32.toNatClampNeg x1))) (b0 + 56) (Int32.toNatClampNeg x1) (ea_i (ea_wi h (b0 + 55) (Int32.toNatClampNeg x1) (ea_i h (b0 + 81) (Int32.toNatClampNeg x1))) (b0 + 82) (Int32.toNatClampNeg x1))) (b0 + 83) (Int32.toNatClampNeg x1))) (b0 + 58) (Int32.toNatClampNeg x1) (ea_i (ea_wi (ea_wi (ea_wi h (b0 + 55) (Int32.toNatClampNeg x1) (ea_i h (b0 + 81) (Int32.toNatClampNeg x1))) (b0 + 56) (Int32.toNatClampNeg x1) (ea_i (ea_wi h (b0 + 55) (Int32.toNatClampNeg x1) (ea_i h (b0 + 81) (Int32.toNatClampNeg x1))) (b0 + 82) (Int32.toNatClampNeg x1))) (b0 + 57) (Int32.toNatClampNeg x1) (ea_i (ea_wi (ea_wi h (b0 + 55) (Int32.toNatClampNeg x1) (ea_i h (b0 + 81) (Int32.toNatClampNeg x1))) (b0 + 56) (Int32.toNatClampNeg x1) (ea_i (ea_wi h (b0 + 55) (Int32.toNatClampNeg x1) (ea_i h (b0 + 81) (Int32.toNatClampNeg x1))) (b0 + 82) (Int32.toNatClampNeg x1))) (b0 + 83) (Int32.toNatClampNeg x1))) (b0 + 84) (Int32.toNatClampNeg x1))) (b0 + 85) (Int32.toNatClampNeg x1))) (b0 + 50) (Int32.toNatClampNeg x1) (ea_i (ea_wi (ea_wi (ea_wi (ea_wi (ea_wi h (b0 + 55) (Int32.toNatClampNeg x1) (ea_i h (b0 + 81) (Int32.toNatClampNeg x1))) (b0 + 56) (Int32.toNatClampNeg x1) (ea_i (ea_wi h (b0 + 55) (Int32.toNatClampNeg x1) (ea_i h (b0 + 81) (Int32.toNatClampNeg x1))) (b0 + 82) (Int32.toNatClampNeg x1))) (b0 + 57) (Int32.toNatClampNeg x1) (ea_i (ea_wi (ea_wi h (b0 + 55) (Int32.toNatClampNeg x1) (ea_i h (b0 + 81) (Int32.toNatClampNeg x1))) (b0 + 56) (Int32.toNatClampNeg x1) (ea_i (ea_wi h (b0 + 55) (Int32.toNatClampNeg x1) (ea_i h (b0 + 81) (Int32.toNatClampNeg x1))) (b0 + 82) (Int32.toNatClampNeg x1))) (b0 + 83) (Int32.toNatClampNeg x1))) (b0 + 58) (Int32.toNatClampNeg x1) (ea_i (ea_wi (ea_wi (ea_wi h (b0 + 55) (Int32.toNatClampNeg x1) (ea_i h (b0 + 81) (Int32.toNatClampNeg x1))) (b0 + 56) (Int32.toNatClampNeg x1) (ea_i (ea_wi h (b0 + 55) (Int32.toNatClampNeg x1) (ea_i h (b0 + 81) (Int32.toNatClampNeg x1))) (b0 + 82) (Int32.toNatClampNeg x1))) (b0 + 57) (Int32.toNatClampNeg x1) (ea_i (ea_wi (ea_wi h (b0 + 55) (Int32.toNatClampNeg x1) (ea_i h (b0 + 81) (Int32.toNatClampNeg x1))) (b0 + 56) (Int32.toNatClampNeg x1) (ea_i (ea_wi h (b0 + 55) (Int32.toNatClampNeg x1) (ea_i h (b0 + 81) (Int32.toNatClampNeg x1))) (b0 + 82) (Int32.toNatClampNeg x1))) (b0 + 83) (Int32.toNatClampNeg x1))) (b0 + 84) (Int32.toNatClampNeg x1))) (b0 + 59) (Int32.toNatClampNeg x1) (ea_i (ea_wi (ea_wi (ea_wi (ea_wi h (b0 + 55) (Int32.toNatClampNeg x1) (ea_i h (b0 + 81) (Int32.toNatClampNeg x1))) (b0 + 56) (Int32.toNatClampNeg x1) (ea_i (ea_wi h (b0 + 55) (Int32.toNatClampNeg x1) (ea_i h (b0 + 81) (Int32.toNatClampNeg x1))) (b0 + 82) (Int32.toNatClampNeg x1))) (b0 + 57) (Int32.toNatClampNeg x1) (ea_i (ea_wi (ea_wi h (b0 + 55) (Int32.toNatClampNeg x1) (ea_i h (b0 + 81) (Int32.toNatClampNeg x1))) (b0 + 56) (Int32.toNatClampNeg x1) (ea_i (ea_wi h (b0 + 55) (Int32.toNatClampNeg x1) (ea_i h (b0 + 81) (Int32.toNatClampNeg x1))) (b0 + 82) (Int32.toNatClampNeg x1))) (b0 + 83) (Int32.toNatClampNeg x1))) (b0 + 58) (Int32.toNatClampNeg x1) (ea_i (ea_wi (ea_wi (ea_wi h (b0 + 55) (Int32.toNatClampNeg x1) (ea_i h (b0 + 81) (Int32.toNatClampNeg x1))) (b0 + 56) (Int32.toNatClampNeg x1) (ea_i (ea_wi h (b0 + 55) (Int32.toNatClampNeg x1) (ea_i h (b0 + 81) (Int32.toNatClampNeg x1))) (b0 + 82) (Int32.toNatClampNeg x1))) (b0 + 57) (Int32.toNatClampNeg x1) (ea_i (ea_wi (ea_wi h (b0 + 55) (Int32.toNatClampNeg x1) (ea_i h (b0 + 81) (Int32.toNatClampNeg x1))) (b0 + 56) (Int32.toNatClampNeg x1) (ea_i (ea_wi h (b0 + 55) (Int32.toNatClampNeg x1) (ea_i h (b0 + 81) (Int32.toNatClampNeg x1))) (b0 + 82) (Int32.toNatClampNeg x1))) (b0 + 83) (Int32.toNatClampNeg x1))) (b0 + 84) (Int32.toNatClampNeg x1))) (b0 + 85) (Int32.toNatClampNeg x1))) (b0 + 86) (Int32.toNatClampNeg x1))) (b0 + 87) (Int32.toNatClampNeg x1))) (b0 + 89) (Int32.toNatClampNeg x1)) = 1)) (gX12_putsBack b0 f 2 ((x1 + (1 : Int32)) : Int32) (ea_wi (ea_wi (ea_wi (ea_wi (ea_wi (ea_wi (ea_wi (ea_wi h (b0 + 55) (Int32.toNatClampNeg x1) (ea_i h (b0 + 81) (Int32.toNatClampNeg x1))) (b0 + 56) (Int32.toNatClampNeg x1) (ea_i (ea_wi h (b0 + 55) (Int32.toNatClampNeg x1) (ea_i h (b0 + 81) (Int32.toNatClampNeg x1))) (b0 + 82) (Int32.toNatClampNeg x1))) (b0 + 57) (Int32.toNatClampNeg x1) (ea_i (ea_wi (ea_wi h (b0 + 55) (Int32.toNatClampNeg x1) (ea_i h (b0 + 81) (Int32.toNatClampNeg x1))) (b0 + 56) (Int32.toNatClampNeg x1) (ea_i (ea_wi h (b0 + 55) (Int32.toNatClampNeg x1) (ea_i h (b0 + 81) (Int32.toNatClampNeg x1))) (b0 + 82) (Int32.toNatClampNeg x1))) (b0 + 83) (Int32.toNatClampNeg x1))) (b0 + 58) (Int32.toNatClampNeg x1) (ea_i (ea_wi (ea_wi (ea_wi h (b0 + 55) (Int32.toNatClampNeg x1) (ea_i h (b0 + 81) (Int32.toNatClampNeg x1))) (b0 + 56) (Int32.toNatClampNeg x1) (ea_i (ea_wi h (b0 + 55) (Int32.toNatClampNeg x1) (ea_i h (b0 + 81) (Int32.toNatClampNeg x1))) (b0 + 82) (Int32.toNatClampNeg x1))) (b0 + 57) (Int32.toNatClampNeg x1) (ea_i (ea_wi (ea_wi h (b0 + 55) (Int32.toNatClampNeg x1) (ea_i h (b0 + 81) (Int32.toNatClampNeg x1))) (b0 + 56) (Int32.toNatClampNeg x1) (ea_i (ea_wi h (b0 + 55) (Int32.toNatClampNeg x1) (ea_i h (b0 + 81) (Int32.toNatClampNeg x1))) (b0 + 82) (Int32.toNatClampNeg x1))) (b0 + 83) (Int32.toNatClampNeg x1))) (b0 + 84) (Int32.toNatClampNeg x1))) (b0 + 59) (Int32.toNatClampNeg x1) (ea_i (ea_wi (ea_wi (ea_wi (ea_wi h (b0 + 55) (Int32.toNatClampNeg x1) (ea_i h (b0 + 81) (Int32.toNatClampNeg x1))) (b0 + 56) (Int32.toNatClampNeg x1) (ea_i (ea_wi h (b0 + 55) (Int32.toNatClampNeg x1) (ea_i h (b0 + 81) (Int32.toNatClampNeg x1))) (b0 + 82) (Int32.toNatClampNeg x1))) (b0 + 57) (Int32.toNatClampNeg x1) (ea_i (ea_wi (ea_wi h (b0 + 55) (Int32.toNatClampNeg x1) (ea_i h (b0 + 81) (Int32.toNatClampNeg x1))) (b0 + 56) (Int32.toNatClampNeg x1) (ea_i (ea_wi h (b0 + 55) (Int32.toNatClampNeg x1) (ea_i h (b0 + 81) (Int32.toNatClampNeg x1))) (b0 + 82) (Int32.toNatClampNeg x1))) (b0 + 83) (Int32.toNatClampNeg x1))) (b0 + 58) (Int32.toNatClampNeg x1) (ea_i (ea_wi (ea_wi (ea_wi h (b0 + 55) (Int32.toNatClampNeg x1) (ea_i h (b0 + 81) (Int32.toNatClampNeg x1))) (b0 + 56) (Int32.toNatClampNeg x1) (ea_i (ea_wi h (b0 + 55) (Int32.toNatClampNeg x1) (ea_i h (b0 + 81) (Int32.toNatClampNeg x1))) (b0 + 82) (Int32.toNatClampNeg x1))) (b0 + 57) (Int32.toNatClampNeg x1) (ea_i (ea_wi (ea_wi h (b0 + 55) (Int32.toNatClampNeg x1) (ea_i h (b0 + 81) (Int32.toNatClampNeg x1))) (b0 + 56) (Int32.toNatClampNeg x1) (ea_i (ea_wi h (b0 + 55) (Int32.toNatClampNeg x1) (ea_i h (b0 + 81) (Int32.toNatClampNeg x1))) (b0 + 82) (Int32.toNatClampNeg x1))) (b0 + 83) (Int32.toNatClampNeg x1))) (b0 + 84) (Int32.toNatClampNeg x1))) (b0 + 85) (Int32.toNatClampNeg x1))) (b0 + 50) (Int32.toNatClampNeg x1) (ea_i (ea_wi (ea_wi (ea_wi (ea_wi (ea_wi h (b0 + 55) (Int32.toNatClampNeg x1) (ea_i h (b0 + 81) (Int32.toNatClampNeg x1))) (b0 + 56) (Int32.toNatClampNeg x1) (ea_i (ea_wi h (b0 + 55) (Int32.toNatClampNeg x1) (ea_i h (b0 + 81) (Int32.toNatClampNeg x1))) (b0 + 82) (Int32.toNatClampNeg x1))) (b0 + 57) (Int32.toNatClampNeg x1) (ea_i (ea_wi (ea_wi h (b0 + 55) (Int32.toNatClampNeg x1) (ea_i h (b0 + 81) (Int32.toNatClampNeg x1))) (b0 + 56) (Int32.toNatClampNeg x1) (ea_i (ea_wi h (b0 + 55) (Int32.toNatClampNeg x1) (ea_i h (b0 + 81) (Int32.toNatClampNeg x1))) (b0 + 82) (Int32.toNatClampNeg x1))) (b0 + 83) (Int32.toNatClampNeg x1))) (b0 + 58) (Int32.toNatClampNeg x1) (ea_i (ea_wi (ea_wi (ea_wi h (b0 + 55) (Int32.toNatClampNeg x1) (ea_i h (b0 + 81) (Int32.toNatClampNeg x1))) (b0 + 56) (Int32.toNatClampNeg x1) (ea_i (ea_wi h (b0 + 55) (Int32.toNatClampNeg x1) (ea_i h (b0 + 81) (Int32.toNatClampNeg x1))) (b0 + 82) (Int32.toNatClampNeg x1))) (b0 + 57) (Int32.toNatClampNeg x1) (ea_i (ea_wi (ea_wi h (b0 + 55) (Int32.toNatClampNeg x1) (ea_i h (b0 + 81) (Int32.toNatClampNeg x1))) (b0 + 56) (Int32.toNatClampNeg x1) (ea_i (ea_wi h (b0 + 55) (Int32.toNatClampNeg x1) (ea_i h (b0 + 81) (Int32.toNatClampNeg x1))) (b0 + 82) (Int32.toNatClampNeg x1))) (b0 + 83) (Int32.toNatClampNeg x1))) (b0 + 84) (Int32.toNatClampNeg x1))) (b0 + 59) (Int32.toNatClampNeg x1) (ea_i (ea_wi (ea_wi (ea_wi (ea_wi h (b0 + 55) (Int32.toNatClampNeg x1) (ea_i h (b0 + 81) (Int32.toNatClampNeg x1))) (b0 + 56) (Int32.toNatClampNeg x1) (ea_i (ea_wi h (b0 + 55) (Int32.toNatClampNeg x1) (ea_i h (b0 + 81) (Int32.toNatClampNeg x1))) (b0 + 82) (Int32.toNatClampNeg x1))) (b0 + 57) (Int32.toNatClampNeg x1) (ea_i (ea_wi (ea_wi h (b0 + 55) (Int32.toNatClampNeg x1) (ea_i h (b0 + 81) (Int32.toNatClampNeg x1))) (b0 + 56) (Int32.toNatClampNeg x1) (ea_i (ea_wi h (b0 + 55) (Int32.toNatClampNeg x1) (ea_i h (b0 + 81) (Int32.toNatClampNeg x1))) (b0 + 82) (Int32.toNatClampNeg x1))) (b0 + 83) (Int32.toNatClampNeg x1))) (b0 + 58) (Int32.toNatClampNeg x1) (ea_i (ea_wi (ea_wi (ea_wi h (b0 + 55) (Int32.toNatClampNeg x1) (ea_i h (b0 + 81) (Int32.toNatClampNeg x1))) (b0 + 56) (Int32.toNatClampNeg x1) (ea_i (ea_wi h (b0 + 55) (Int32.toNatClampNeg x1) (ea_i h (b0 + 81) (Int32.toNatClampNeg x1))) (b0 + 82) (Int32.toNatClampNeg x1))) (b0 + 57) (Int32.toNatClampNeg x1) (ea_i (ea_wi (ea_wi h (b0 + 55) (Int32.toNatClampNeg x1) (ea_i h (b0 + 81) (Int32.toNatClampNeg x1))) (b0 + 56) (Int32.toNatClampNeg x1) (ea_i (ea_wi h (b0 + 55) (Int32.toNatClampNeg x1) (ea_i h (b0 + 81) (Int32.toNatClampNeg x1))) (b0 + 82) (Int32.toNatClampNeg x1))) (b0 + 83) (Int32.toNatClampNeg x1))) (b0 + 84) (Int32.toNatClampNeg x1))) (b0 + 85) (Int32.toNatClampNeg x1))) (b0 + 86) (Int32.toNatClampNeg x1))) (b0 + 51) (Int32.toNatClampNeg x1) (ea_i (ea_wi (ea_wi (ea_wi (ea_wi (ea_wi (ea_wi h (b0 + 55) (Int32.toNatClampNeg x1) (ea_i h (b0 + 81) (Int32.toNatClampNeg x1))) (b0 + 56) (Int32.toNatClampNeg x1) (ea_i (ea_wi h (b0 + 55) (Int32.toNatClampNeg x1) (ea_i h (b0 + 81) (Int32.toNatClampNeg x1))) (b0 + 82) (Int32.toNatClampNeg x1))) (b0 + 57) (Int32.toNatClampNeg x1) (ea_i (ea_wi (ea_wi h (b0 + 55) (Int32.toNatClampNeg x1) (ea_i h (b0 + 81) (Int32.toNatClampNeg x1))) (b0 + 56) (Int32.toNatClampNeg x1) (ea_i (ea_wi h (b0 + 55) (Int32.toNatClampNeg x1) (ea_i h (b0 + 81) (Int32.toNatClampNeg x1))) (b0 + 82) (Int32.toNatClampNeg x1))) (b0 + 83) (Int32.toNatClampNeg x1))) (b0 + 58) (Int32.toNatClampNeg x1) (ea_i (ea_wi (ea_wi (ea_wi h (b0 + 55) (Int32.toNatClampNeg x1) (ea_i h (b0 + 81) (Int32.toNatClampNeg x1))) (b0 + 56) (Int32.toNatClampNeg x1) (ea_i (ea_wi h (b0 + 55) (Int32.toNatClampNeg x1) (ea_i h (b0 + 81) (Int32.toNatClampNeg x1))) (b0 + 82) (Int32.toNatClampNeg x1))) (b0 + 57) (Int32.toNatClampNeg x1) (ea_i (ea_wi (ea_wi h (b0 + 55) (Int32.toNatClampNeg x1) (ea_i h (b0 + 81) (Int32.toNatClampNeg x1))) (b0 + 56) (Int32.toNatClampNeg x1) (ea_i (ea_wi h (b0 + 55) (Int32.toNatClampNeg x1) (ea_i h (b0 + 81) (Int32.toNatClampNeg x1))) (b0 + 82) (Int32.toNatClampNeg x1))) (b0 + 83) (Int32.toNatClampNeg x1))) (b0 + 84) (Int32.toNatClampNeg x1))) (b0 + 59) (Int32.toNatClampNeg x1) (ea_i (ea_wi (ea_wi (ea_wi (ea_wi h (b0 + 55) (Int32.toNatClampNeg x1) (ea_i h (b0 + 81) (Int32.toNatClampNeg x1))) (b0 + 56) (Int32.toNatClampNeg x1) (ea_i (ea_wi h (b0 + 55) (Int32.toNatClampNeg x1) (ea_i h (b0 + 81) (Int32.toNatClampNeg x1))) (b0 + 82) (Int32.toNatClampNeg x1))) (b0 + 57) (Int32.toNatClampNeg x1) (ea_i (ea_wi (ea_wi h (b0 + 55) (Int32.toNatClampNeg x1) (ea_i h (b0 + 81) (Int32.toNatClampNeg x1))) (b0 + 56) (Int32.toNatClampNeg x1) (ea_i (ea_wi h (b0 + 55) (Int32.toNatClampNeg x1) (ea_i h (b0 + 81) (Int32.toNatClampNeg x1))) (b0 + 82) (Int32.toNatClampNeg x1))) (b0 + 83) (Int32.toNatClampNeg x1))) (b0 + 58) (Int32.toNatClampNeg x1) (ea_i (ea_wi (ea_wi (ea_wi h (b0 + 55) (Int32.toNatClampNeg x1) (ea_i h (b0 + 81) (Int32.toNatClampNeg x1))) (b0 + 56) (Int32.toNatClampNeg x1) (ea_i (ea_wi h (b0 + 55) (Int32.toNatClampNeg x1) (ea_i h (b0 + 81) (Int32.toNatClampNeg x1))) (b0 + 82) (Int32.toNatClampNeg x1))) (b0 + 57) (Int32.toNatClampNeg x1) (ea_i (ea_wi (ea_wi h (b0 + 55) (Int32.toNatClampNeg x1) (ea_i h (b0 + 81) (Int32.toNatClampNeg x1))) (b0 + 56) (Int32.toNatClampNeg x1) (ea_i (ea_wi h (b0 + 55) (Int32.toNatClampNeg x1) (ea_i h (b0 + 81) (Int32.toNatClampNeg x1))) (b0 + 82) (Int32.toNatClampNeg x1))) (b0 + 83) (Int32.toNatClampNeg x1))) (b0 + 84) (Int32.toNatClampNeg x1))) (b0 + 85) (Int32.toNatClampNeg x1))) (b0 + 50) (Int32.toNatClampNeg x1) (ea_i (ea_wi (ea_wi (ea_wi (ea_wi (ea_wi h (b0 + 55) (Int32.toNatClampNeg x1) (ea_i h (b0 + 81) (Int32.toNatClampNeg x1))) (b0 + 56) (Int32.toNatClampNeg x1) (ea_i (ea_wi h (b0 + 55) (Int32.toNatClampNeg x1) (ea_i h (b0 + 81) (Int32.toNatClampNeg x1))) (b0 + 82) (Int32.toNatClampNeg x1))) (b0 + 57) (Int32.toNatClampNeg x1) (ea_i (ea_wi (ea_wi h (b0 + 55) (Int32.toNatClampNeg x1) (ea_i h (b0 + 81) (Int32.toNatClampNeg x1))) (b0 + 56) (Int32.toNatClampNeg x1) (ea_i (ea_wi h (b0 + 55) (Int32.toNatClampNeg x1) (ea_i h (b0 + 81) (Int32.toNatClampNeg x1))) (b0 + 82) (Int32.toNatClampNeg x1))) (b0 + 83) (Int32.toNatClampNeg x1))) (b0 + 58) (Int32.toNatClampNeg x1) (ea_i (ea_wi (ea_wi (ea_wi h (b0 + 55) (Int32.toNatClampNeg x1) (ea_i h (b0 + 81) (Int32.toNatClampNeg x1))) (b0 + 56) (Int32.toNatClampNeg x1) (ea_i (ea_wi h (b0 + 55) (Int32.toNatClampNeg x1) (ea_i h (b0 + 81) (Int32.toNatClampNeg x1))) (b0 + 82) (Int32.toNatClampNeg x1))) (b0 + 57) (Int32.toNatClampNeg x1) (ea_i (ea_wi (ea_wi h (b0 + 55) (Int32.toNatClampNeg x1) (ea_i h (b0 + 81) (Int32.toNatClampNeg x1))) (b0 + 56) (Int32.toNatClampNeg x1) (ea_i (ea_wi h (b0 + 55) (Int32.toNatClampNeg x1) (ea_i h (b0 + 81) (Int32.toNatClampNeg x1))) (b0 + 82) (Int32.toNatClampNeg x1))) (b0 + 83) (Int32.toNatClampNeg x1))) (b0 + 84) (Int32.toNatClampNeg x1))) (b0 + 59) (Int32.toNatClampNeg x1) (ea_i (ea_wi (ea_wi (ea_wi (ea_wi h (b0 + 55) (Int32.toNatClampNeg x1) (ea_i h (b0 + 81) (Int32.toNatClampNeg x1))) (b0 + 56) (Int32.toNatClampNeg x1) (ea_i (ea_wi h (b0 + 55) (Int32.toNatClampNeg x1) (ea_i h (b0 + 81) (Int32.toNatClampNeg x1))) (b0 + 82) (Int32.toNatClampNeg x1))) (b0 + 57) (Int32.toNatClampNeg x1) (ea_i (ea_wi (ea_wi h (b0 + 55) (Int32.toNatClampNeg x1) (ea_i h (b0 + 81) (Int32.toNatClampNeg x1))) (b0 + 56) (Int32.toNatClampNeg x1) (ea_i (ea_wi h (b0 + 55) (Int32.toNatClampNeg x1) (ea_i h (b0 + 81) (Int32.toNatClampNeg x1))) (b0 + 82) (Int32.toNatClampNeg x1))) (b0 + 83) (Int32.toNatClampNeg x1))) (b0 + 58) (Int32.toNatClampNeg x1) (ea_i (ea_wi (ea_wi (ea_wi h (b0 + 55) (Int32.toNatClampNeg x1) (ea_i h (b0 + 81) (Int32.toNatClampNeg x1))) (b0 + 56) (Int32.toNatClampNeg x1) (ea_i (ea_wi h (b0 + 55) (Int32.toNatClampNeg x1) (ea_i h (b0 + 81) (Int32.toNatClampNeg x1))) (b0 + 82) (Int32.toNatClampNeg x1))) (b0 + 57) (Int32.toNatClampNeg x1) (ea_i (ea_wi (ea_wi h (b0 + 55) (Int32.toNatClampNeg x1) (ea_i h (b0 + 81) (Int32.toNatClampNeg x1))) (b0 + 56) (Int32.toNatClampNeg x1) (ea_i (ea_wi h (b0 + 55) (Int32.toNatClampNeg x1) (ea_i h (b0 + 81) (Int32.toNatClampNeg x1))) (b0 + 82) (Int32.toNatClampNeg x1))) (b0 + 83) (Int32.toNatClampNeg x1))) (b0 + 84) (Int32.toNatClampNeg x1))) (b0 + 85) (Int32.toNatClampNeg x1))) (b0 + 86) (Int32.toNatClampNeg x1))) (b0 + 87) (Int32.toNatClampNeg x1))) (b0 + 61) (Int32.toNatClampNeg x1) (ea_i (ea_wi (ea_wi (ea_wi (ea_wi (ea_wi (ea_wi (ea_wi h (b0 + 55) (Int32.toNatClampNeg x1) (ea_i h (b0 + 81) (Int32.toNatClampNeg x1))) (b0 + 56) (Int32.toNatClampNeg x1) (ea_i (ea_wi h (b0 + 55) (Int32.toNatClampNeg x1) (ea_i h (b0 + 81) (Int32.toNatClampNeg x1))) (b0 + 82) (Int32.toNatClampNeg x1))) (b0 + 57) (Int32.toNatClampNeg x1) (ea_i (ea_wi (ea_wi h (b0 + 55) (Int32.toNatClampNeg x1) (ea_i h (b0 + 81) (Int32.toNatClampNeg x1))) (b0 + 56) (Int32.toNatClampNeg x1) (ea_i (ea_wi h (b0 + 55) (Int32.toNatClampNeg x1) (ea_i h (b0 + 81) (Int32.toNatClampNeg x1))) (b0 + 82) (Int32.toNatClampNeg x1))) (b0 + 83) (Int32.toNatClampNeg x1))) (b0 + 58) (Int32.toNatClampNeg x1) (ea_i (ea_wi (ea_wi (ea_wi h (b0 + 55) (Int32.toNatClampNeg x1) (ea_i h (b0 + 81) (Int32.toNatClampNeg x1))) (b0 + 56) (Int32.toNatClampNeg x1) (ea_i (ea_wi h (b0 + 55) (Int32.toNatClampNeg x1) (ea_i h (b0 + 81) (Int32.toNatClampNeg x1))) (b0 + 82) (Int32.toNatClampNeg x1))) (b0 + 57) (Int32.toNatClampNeg x1) (ea_i (ea_wi (ea_wi h (b0 + 55) (Int32.toNatClampNeg x1) (ea_i h (b0 + 81) (Int32.toNatClampNeg x1))) (b0 + 56) (Int32.toNatClampNeg x1) (ea_i (ea_wi h (b0 + 55) (Int32.toNatClampNeg x1) (ea_i h (b0 + 81) (Int32.toNatClampNeg x1))) (b0 + 82) (Int32.toNatClampNeg x1))) (b0 + 83) (Int32.toNatClampNeg x1))) (b0 + 84) (Int32.toNatClampNeg x1))) (b0 + 59) (Int32.toNatClampNeg x1) (ea_i (ea_wi (ea_wi (ea_wi (ea_wi h (b0 + 55) (Int32.toNatClampNeg x1) (ea_i h (b0 + 81) (Int32.toNatClampNeg x1))) (b0 + 56) (Int32.toNatClampNeg x1) (ea_i (ea_wi h (b0 + 55) (Int32.toNatClampNeg x1) (ea_i h (b0 + 81) (Int32.toNatClampNeg x1))) (b0 + 82) (Int32.toNatClampNeg x1))) (b0 + 57) (Int32.toNatClampNeg x1) (ea_i (ea_wi (ea_wi h (b0 + 55) (Int32.toNatClampNeg x1) (ea_i h (b0 + 81) (Int32.toNatClampNeg x1))) (b0 + 56) (Int32.toNatClampNeg x1) (ea_i (ea_wi h (b0 + 55) (Int32.toNatClampNeg x1) (ea_i h (b0 + 81) (Int32.toNatClampNeg x1))) (b0 + 82) (Int32.toNatClampNeg x1))) (b0 + 83) (Int32.toNatClampNeg x1))) (b0 + 58) (Int32.toNatClampNeg x1) (ea_i (ea_wi (ea_wi (ea_wi h (b0 + 55) (Int32.toNatClampNeg x1) (ea_i h (b0 + 81) (Int32.toNatClampNeg x1))) (b0 + 56) (Int32.toNatClampNeg x1) (ea_i (ea_wi h (b0 + 55) (Int32.toNatClampNeg x1) (ea_i h (b0 + 81) (Int32.toNatClampNeg x1))) (b0 + 82) (Int32.toNatClampNeg x1))) (b0 + 57) (Int32.toNatClampNeg x1) (ea_i (ea_wi (ea_wi h (b0 + 55) (Int32.toNatClampNeg x1) (ea_i h (b0 + 81) (Int32.toNatClampNeg x1))) (b0 + 56) (Int32.toNatClampNeg x1) (ea_i (ea_wi h (b0 + 55) (Int32.toNatClampNeg x1) (ea_i h (b0 + 81) (Int32.toNatClampNeg x1))) (b0 + 82) (Int32.toNatClampNeg x1))) (b0 + 83) (Int32.toNatClampNeg x1))) (b0 + 84) (Int32.toNatClampNeg x1))) (b0 + 85) (Int32.toNatClampNeg x1))) (b0 + 50) (Int32.toNatClampNeg x1) (ea_i (ea_wi (ea_wi (ea_wi (ea_wi (ea_wi h (b0 + 55) (Int32.toNatClampNeg x1) (ea_i h (b0 + 81) (Int32.toNatClampNeg x1))) (b0 + 56) (Int32.toNatClampNeg x1) (ea_i (ea_wi h (b0 + 55) (Int32.toNatClampNeg x1) (ea_i h (b0 + 81) (Int32.toNatClampNeg x1))) (b0 + 82) (Int32.toNatClampNeg x1))) (b0 + 57) (Int32.toNatClampNeg x1) (ea_i (ea_wi (ea_wi h (b0 + 55) (Int32.toNatClampNeg x1) (ea_i h (b0 + 81) (Int32.toNatClampNeg x1))) (b0 + 56) (Int32.toNatClampNeg x1) (ea_i (ea_wi h (b0 + 55) (Int32.toNatClampNeg x1) (ea_i h (b0 + 81) (Int32.toNatClampNeg x1))) (b0 + 82) (Int32.toNatClampNeg x1))) (b0 + 83) (Int32.toNatClampNeg x1))) (b0 + 58) (Int32.toNatClampNeg x1) (ea_i (ea_wi (ea_wi (ea_wi h (b0 + 55) (Int32.toNatClampNeg x1) (ea_i h (b0 + 81) (Int32.toNatClampNeg x1))) (b0 + 56) (Int32.toNatClampNeg x1) (ea_i (ea_wi h (b0 + 55) (Int32.toNatClampNeg x1) (ea_i h (b0 + 81) (Int32.toNatClampNeg x1))) (b0 + 82) (Int32.toNatClampNeg x1))) (b0 + 57) (Int32.toNatClampNeg x1) (ea_i (ea_wi (ea_wi h (b0 + 55) (Int32.toNatClampNeg x1) (ea_i h (b0 + 81) (Int32.toNatClampNeg x1))) (b0 + 56) (Int32.toNatClampNeg x1) (ea_i (ea_wi h (b0 + 55) (Int32.toNatClampNeg x1) (ea_i h (b0 + 81) (Int32.toNatClampNeg x1))) (b0 + 82) (Int32.toNatClampNeg x1))) (b0 + 83) (Int32.toNatClampNeg x1))) (b0 + 84) (Int32.toNatClampNeg x1))) (b0 + 59) (Int32.toNatClampNeg x1) (ea_i (ea_wi (ea_wi (ea_wi (ea_wi h (b0 + 55) (Int32.toNatClampNeg x1) (ea_i h (b0 + 81) (Int32.toNatClampNeg x1))) (b0 + 56) (Int32.toNatClampNeg x1) (ea_i (ea_wi h (b0 + 55) (Int32.toNatClampNeg x1) (ea_i h (b0 + 81) (Int32.toNatClampNeg x1))) (b0 + 82) (Int32.toNatClampNeg x1))) (b0 + 57) (Int32.toNatClampNeg x1) (ea_i (ea_wi (ea_wi h (b0 + 55) (Int32.toNatClampNeg x1) (ea_i h (b0 + 81) (Int32.toNatClampNeg x1))) (b0 + 56) (Int32.toNatClampNeg x1) (ea_i (ea_wi h (b0 + 55) (Int32.toNatClampNeg x1) (ea_i h (b0 + 81) (Int32.toNatClampNeg x1))) (b0 + 82) (Int32.toNatClampNeg x1))) (b0 + 83) (Int32.toNatClampNeg x1))) (b0 + 58) (Int32.toNatClampNeg x1) (ea_i (ea_wi (ea_wi (ea_wi h (b0 + 55) (Int32.toNatClampNeg x1) (ea_i h (b0 + 81) (Int32.toNatClampNeg x1))) (b0 + 56) (Int32.toNatClampNeg x1) (ea_i (ea_wi h (b0 + 55) (Int32.toNatClampNeg x1) (ea_i h (b0 + 81) (Int32.toNatClampNeg x1))) (b0 + 82) (Int32.toNatClampNeg x1))) (b0 + 57) (Int32.toNatClampNeg x1) (ea_i (ea_wi (ea_wi h (b0 + 55) (Int32.toNatClampNeg x1) (ea_i h (b0 + 81) (Int32.toNatClampNeg x1))) (b0 + 56) (Int32.toNatClampNeg x1) (ea_i (ea_wi h (b0 + 55) (Int32.toNatClampNeg x1) (ea_i h (b0 + 81) (Int32.toNatClampNeg x1))) (b0 + 82) (Int32.toNatClampNeg x1))) (b0 + 83) (Int32.toNatClampNeg x1))) (b0 + 84) (Int32.toNatClampNeg x1))) (b0 + 85) (Int32.toNatClampNeg x1))) (b0 + 86) (Int32.toNatClampNeg x1))) (b0 + 51) (Int32.toNatClampNeg x1) (ea_i (ea_wi (ea_wi (ea_wi (ea_wi (ea_wi (ea_wi h (b0 + 55) (Int32.toNatClampNeg x1) (ea_i h (b0 + 81) (Int32.toNatClampNeg x1))) (b0 + 56) (Int32.toNatClampNeg x1) (ea_i (ea_wi h (b0 + 55) (Int32.toNatClampNeg x1) (ea_i h (b0 + 81) (Int32.toNatClampNeg x1))) (b0 + 82) (Int32.toNatClampNeg x1))) (b0 + 57) (Int32.toNatClampNeg x1) (ea_i (ea_wi (ea_wi h (b0 + 55) (Int32.toNatClampNeg x1) (ea_i h (b0 + 81) (Int32.toNatClampNeg x1))) (b0 + 56) (Int32.toNatClampNeg x1) (ea_i (ea_wi h (b0 + 55) (Int32.toNatClampNeg x1) (ea_i h (b0 + 81) (Int32.toNatClampNeg x1))) (b0 + 82) (Int32.toNatClampNeg x1))) (b0 + 83) (Int32.toNatClampNeg x1))) (b0 + 58) (Int32.toNatClampNeg x1) (ea_i (ea_wi (ea_wi (ea_wi h (b0 + 55) (Int32.toNatClampNeg x1) (ea_i h (b0 + 81) (Int32.toNatClampNeg x1))) (b0 + 56) (Int32.toNatClampNeg x1) (ea_i (ea_wi h (b0 + 55) (Int32.toNatClampNeg x1) (ea_i h (b0 + 81) (Int32.toNatClampNeg x1))) (b0 + 82) (Int32.toNatClampNeg x1))) (b0 + 57) (Int32.toNatClampNeg x1) (ea_i (ea_wi (ea_wi h (b0 + 55) (Int32.toNatClampNeg x1) (ea_i h (b0 + 81) (Int32.toNatClampNeg x1))) (b0 + 56) (Int32.toNatClampNeg x1) (ea_i (ea_wi h (b0 + 55) (Int32.toNatClampNeg x1) (ea_i h (b0 + 81) (Int32.toNatClampNeg x1))) (b0 + 82) (Int32.toNatClampNeg x1))) (b0 + 83) (Int32.toNatClampNeg x1))) (b0 + 84) (Int32.toNatClampNeg x1))) (b0 + 59) (Int32.toNatClampNeg x1) (ea_i (ea_wi (ea_wi (ea_wi (ea_wi h (b0 + 55) (Int32.toNatClampNeg x1) (ea_i h (b0 + 81) (Int32.toNatClampNeg x1))) (b0 + 56) (Int32.toNatClampNeg x1) (ea_i (ea_wi h (b0 + 55) (Int32.toNatClampNeg x1) (ea_i h (b0 + 81) (Int32.toNatClampNeg x1))) (b0 + 82) (Int32.toNatClampNeg x1))) (b0 + 57) (Int32.toNatClampNeg x1) (ea_i (ea_wi (ea_wi h (b0 + 55) (Int32.toNatClampNeg x1) (ea_i h (b0 + 81) (Int32.toNatClampNeg x1))) (b0 + 56) (Int32.toNatClampNeg x1) (ea_i (ea_wi h (b0 + 55) (Int32.toNatClampNeg x1) (ea_i h (b0 + 81) (Int32.toNatClampNeg x1))) (b0 + 82) (Int32.toNatClampNeg x1))) (b0 + 83) (Int32.toNatClampNeg x1))) (b0 + 58) (Int32.toNatClampNeg x1) (ea_i (ea_wi (ea_wi (ea_wi h (b0 + 55) (Int32.toNatClampNeg x1) (ea_i h (b0 + 81) (Int32.toNatClampNeg x1))) (b0 + 56) (Int32.toNatClampNeg x1) (ea_i (ea_wi h (b0 + 55) (Int32.toNatClampNeg x1) (ea_i h (b0 + 81) (Int32.toNatClampNeg x1))) (b0 + 82) (Int32.toNatClampNeg x1))) (b0 + 57) (Int32.toNatClampNeg x1) (ea_i (ea_wi (ea_wi h (b0 + 55) (Int32.toNatClampNeg x1) (ea_i h (b0 + 81) (Int32.toNatClampNeg x1))) (b0 + 56) (Int32.toNatClampNeg x1) (ea_i (ea_wi h (b0 + 55) (Int32.toNatClampNeg x1) (ea_i h (b0 + 81) (Int32.toNatClampNeg x1))) (b0 + 82) (Int32.toNatClampNeg x1))) (b0 + 83) (Int32.toNatClampNeg x1))) (b0 + 84) (Int32.toNatClampNeg x1))) (b0 + 85) (Int32.toNatClampNeg x1))) (b0 + 50) (Int32.toNatClampNeg x1) (ea_i (ea_wi (ea_wi (ea_wi (ea_wi (ea_wi h (b0 + 55) (Int32.toNatClampNeg x1) (ea_i h (b0 + 81) (Int32.toNatClampNeg x1))) (b0 + 56) (Int32.toNatClampNeg x1) (ea_i (ea_wi h (b0 + 55) (Int32.toNatClampNeg x1) (ea_i h (b0 + 81) (Int32.toNatClampNeg x1))) (b0 + 82) (Int32.toNatClampNeg x1))) (b0 + 57) (Int32.toNatClampNeg x1) (ea_i (ea_wi (ea_wi h (b0 + 55) (Int32.toNatClampNeg x1) (ea_i h (b0 + 81) (Int32.toNatClampNeg x1))) (b0 + 56) (Int32.toNatClampNeg x1) (ea_i (ea_wi h (b0 + 55) (Int32.toNatClampNeg x1) (ea_i h (b0 + 81) (Int32.toNatClampNeg x1))) (b0 + 82) (Int32.toNatClampNeg x1))) (b0 + 83) (Int32.toNatClampNeg x1))) (b0 + 58) (Int32.toNatClampNeg x1) (ea_i (ea_wi (ea_wi (ea_wi h (b0 + 55) (Int32.toNatClampNeg x1) (ea_i h (b0 + 81) (Int32.toNatClampNeg x1))) (b0 + 56) (Int32.toNatClampNeg x1) (ea_i (ea_wi h (b0 + 55) (Int32.toNatClampNeg x1) (ea_i h (b0 + 81) (Int32.toNatClampNeg x1))) (b0 + 82) (Int32.toNatClampNeg x1))) (b0 + 57) (Int32.toNatClampNeg x1) (ea_i (ea_wi (ea_wi h (b0 + 55) (Int32.toNatClampNeg x1) (ea_i h (b0 + 81) (Int32.toNatClampNeg x1))) (b0 + 56) (Int32.toNatClampNeg x1) (ea_i (ea_wi h (b0 + 55) (Int32.toNatClampNeg x1) (ea_i h (b0 + 81) (Int32.toNatClampNeg x1))) (b0 + 82) (Int32.toNatClampNeg x1))) (b0 + 83) (Int32.toNatClampNeg x1))) (b0 + 84) (Int32.toNatClampNeg x1))) (b0 + 59) (Int32.toNatClampNeg x1) (ea_i (ea_wi (ea_wi (ea_wi (ea_wi h (b0 + 55) (Int32.toNatClampNeg x1) (ea_i h (b0 + 81) (Int32.toNatClampNeg x1))) (b0 + 56) (Int32.toNatClampNeg x1) (ea_i (ea_wi h (b0 + 55) (Int32.toNatClampNeg x1) (ea_i h (b0 + 81) (Int32.toNatClampNeg x1))) (b0 + 82) (Int32.toNatClampNeg x1))) (b0 + 57) (Int32.toNatClampNeg x1) (ea_i (ea_wi (ea_wi h (b0 + 55) (Int32.toNatClampNeg x1) (ea_i h (b0 + 81) (Int32.toNatClampNeg x1))) (b0 + 56) (Int32.toNatClampNeg x1) (ea_i (ea_wi h (b0 + 55) (Int32.toNatClampNeg x1) (ea_i h (b0 + 81) (Int32.toNatClampNeg x1))) (b0 + 82) (Int32.toNatClampNeg x1))) (b0 + 83) (Int32.toNatClampNeg x1))) (b0 + 58) (Int32.toNatClampNeg x1) (ea_i (ea_wi (ea_wi (ea_wi h (b0 + 55) (Int32.toNatClampNeg x1) (ea_i h (b0 + 81) (Int32.toNatClampNeg x1))) (b0 + 56) (Int32.toNatClampNeg x1) (ea_i (ea_wi h (b0 + 55) (Int32.toNatClampNeg x1) (ea_i h (b0 + 81) (Int32.toNatClampNeg x1))) (b0 + 82) (Int32.toNatClampNeg x1))) (b0 + 57) (Int32.toNatClampNeg x1) (ea_i (ea_wi (ea_wi h (b0 + 55) (Int32.toNatClampNeg x1) (ea_i h (b0 + 81) (Int32.toNatClampNeg x1))) (b0 + 56) (Int32.toNatClampNeg x1) (ea_i (ea_wi h (b0 + 55) (Int32.toNatClampNeg x1) (ea_i h (b0 + 81) (Int32.toNatClampNeg x1))) (b0 + 82) (Int32.toNatClampNeg x1))) (b0 + 83) (Int32.toNatClampNeg x1))) (b0 + 84) (Int32.toNatClampNeg x1))) (b0 + 85) (Int32.toNatClampNeg x1))) (b0 + 86) (Int32.toNatClampNeg x1))) (b0 + 87) (Int32.toNatClampNeg x1))) (b0 + 89) (Int32.toNatClampNeg x1)))))))))))))))))))))) else
    if lbl = 114 then (if (70 : Int32) ≤ x1 then (some ((), h)) else (gd (vp_in x1 70) (gd (vp_in x1 70) (gX12_putsBack b0 f 114 ((x1 + (1 : Int32)) : Int32) (ea_wi h (b0 + 60) (Int32.toNatClampNeg x1) (ea_i h (b0 + 88) (Int32.toNatClampNeg x1))))))) else none
theorem tX12_putsBack {d : Nat} {b0 : Nat} {h0 : ea_H} (hd : 1 ≤ d) : ∀ (f lbl : Nat) (x1 : Int32) (h : ea_H) (r : Unit) (h' : ea_H), gX12_putsBack b0 f lbl x1 h = some (r, h') → ShM b0 h → (lbl = 0 → ea_W mX12_putsBack d h0 none h' 0 [(0, vR (some (b0 + 0)))] [] h) ∧ (lbl = 2 → ea_W mX12_putsBack d h0 none h' 2 [(0, vR (some (b0 + 0))), (1, vI x1)] [] h) ∧ (lbl = 114 → ea_W mX12_putsBack d h0 none h' 114 [(0, vR (some (b0 + 0))), (1, vI x1)] [] h) := by
  intro f
  induction f with
  | zero => intro lbl x1 h r h' E; cases E
  | succ f ih =>
    intro lbl x1 h r h' E hs
    unfold gX12_putsBack at E
    refine ⟨?_, ?_⟩
    · intro el
      subst el
      have E := (if_pos rfl).symm.trans E
      refine ea_iconst (pc := 0) dX12_putsBack_0 (v := 0) rfl ?_
      refine ea_istore_n (pc := 1) (lv' := [(0, vR (some (b0 + 0))), (1, vI 0)]) dX12_putsBack_1 rfl (Nat.le_of_ble_eq_true rfl) [1, 0] rfl ?_
      exact ((ih 2 (0 : Int32) h _ _ E hs).2.1 rfl)
    refine ⟨?_, ?_⟩
    · intro el
      subst el
      have E := (if_neg (by decide)).symm.trans E
      have E := (if_pos rfl).symm.trans E
      refine ea_iload_n (pc := 2) dX12_putsBack_2 rfl 1 rfl ?_
      refine ea_aload_n (pc := 3) dX12_putsBack_3 rfl 0 rfl ?_
      refine ea_getI (pc := 4) dX12_putsBack_4 ec_12 (k := 63) (Nat.le_of_ble_eq_true rfl) rfl (Or.inl ew_1408) (hs.1 0 (by decide)).1 (hs.1 0 (by decide)).2.1 ?_
      refine ea_icmp_ge (pc := 7) (tgt := 112) dX12_putsBack_7 rfl (fun c26 => ?_) (fun c26 => ?_)
      · have E := (if_pos c26).symm.trans E
        refine ea_iconst (pc := 112) dX12_putsBack_112 (v := 0) rfl ?_
        refine ea_istore_n (pc := 113) (lv' := [(0, vR (some (b0 + 0))), (1, vI 0)]) dX12_putsBack_113 rfl (Nat.le_of_ble_eq_true rfl) [1, 0] rfl ?_
        exact ((ih 114 (0 : Int32) h _ _ E hs).2.2 rfl)
      · have E := (if_neg c26).symm.trans E
        refine ea_aload_n (pc := 10) dX12_putsBack_10 rfl 0 rfl ?_
        refine ea_getR (pc := 11) dX12_putsBack_11 ec_12 (k := 81) (Nat.le_of_ble_eq_true rfl) rfl (Or.inl ew_1426) (hs.1 0 (by decide)).1 (hs.1 0 (by decide)).2.1 (hs.2 0 81 rfl) ?_
        refine ea_iload_n (pc := 14) dX12_putsBack_14 rfl 1 rfl ?_
        refine ea_aload_n (pc := 15) dX12_putsBack_15 rfl 0 rfl ?_
        refine ea_getR (pc := 16) dX12_putsBack_16 ec_12 (k := 109) (Nat.le_of_ble_eq_true rfl) rfl (Or.inl ew_1454) (hs.1 0 (by decide)).1 (hs.1 0 (by decide)).2.1 (hs.2 0 109 rfl) ?_
        refine ea_iload_n (pc := 19) dX12_putsBack_19 rfl 1 rfl ?_
        obtain ⟨z1, E⟩ := gd_some E
        refine ea_iald (pc := 20) dX12_putsBack_20 (hs.1 81 (by decide)).1 (hs.1 81 (by decide)).2.1 (ea_vpl (hs.1 81 (by decide)).2.2 z1) ?_
        obtain ⟨z2, E⟩ := gd_some E
        refine ea_iast (pc := 21) dX12_putsBack_21 (hs.1 55 (by decide)).1 (hs.1 55 (by decide)).2.1 (ea_vpl (hs.1 55 (by decide)).2.2 z2) ?_
        have hs3 : ShM b0 (ea_wi h (b0 + 55) (Int32.toNatClampNeg x1) (ea_i h (b0 + 81) (Int32.toNatClampNeg x1))) := ShM_wi hs
        refine ea_aload_n (pc := 22) dX12_putsBack_22 rfl 0 rfl ?_
        refine ea_getR (pc := 23) dX12_putsBack_23 ec_12 (k := 82) (Nat.le_of_ble_eq_true rfl) rfl (Or.inl ew_1427) (hs3.1 0 (by decide)).1 (hs3.1 0 (by decide)).2.1 (hs3.2 0 82 rfl) ?_
        refine ea_iload_n (pc := 26) dX12_putsBack_26 rfl 1 rfl ?_
        refine ea_aload_n (pc := 27) dX12_putsBack_27 rfl 0 rfl ?_
        refine ea_getR (pc := 28) dX12_putsBack_28 ec_12 (k := 110) (Nat.le_of_ble_eq_true rfl) rfl (Or.inl ew_1455) (hs3.1 0 (by decide)).1 (hs3.1 0 (by decide)).2.1 (hs3.2 0 110 rfl) ?_
        refine ea_iload_n (pc := 31) dX12_putsBack_31 rfl 1 rfl ?_
        obtain ⟨z4, E⟩ := gd_some E
        refine ea_iald (pc := 32) dX12_putsBack_32 (hs3.1 82 (by decide)).1 (hs3.1 82 (by decide)).2.1 (ea_vpl (hs3.1 82 (by decide)).2.2 z4) ?_
        obtain ⟨z5, E⟩ := gd_some E
        refine ea_iast (pc := 33) dX12_putsBack_33 (hs3.1 56 (by decide)).1 (hs3.1 56 (by decide)).2.1 (ea_vpl (hs3.1 56 (by decide)).2.2 z5) ?_
        have hs6 : ShM b0 (ea_wi (ea_wi h (b0 + 55) (Int32.toNatClampNeg x1) (ea_i h (b0 + 81) (Int32.toNatClampNeg x1))) (b0 + 56) (Int32.toNatClampNeg x1) (ea_i (ea_wi h (b0 + 55) (Int32.toNatClampNeg x1) (ea_i h (b0 + 81) (Int32.toNatClampNeg x1))) (b0 + 82) (Int32.toNatClampNeg x1))) := ShM_wi hs3
        refine ea_aload_n (pc := 34) dX12_putsBack_34 rfl 0 rfl ?_
        refine ea_getR (pc := 35) dX12_putsBack_35 ec_12 (k := 83) (Nat.le_of_ble_eq_true rfl) rfl (Or.inl ew_1428) (hs6.1 0 (by decide)).1 (hs6.1 0 (by decide)).2.1 (hs6.2 0 83 rfl) ?_
        refine ea_iload_n (pc := 38) dX12_putsBack_38 rfl 1 rfl ?_
        refine ea_aload_n (pc := 39) dX12_putsBack_39 rfl 0 rfl ?_
        refine ea_getR (pc := 40) dX12_putsBack_40 ec_12 (k := 111) (Nat.le_of_ble_eq_true rfl) rfl (Or.inl ew_1456) (hs6.1 0 (by decide)).1 (hs6.1 0 (by decide)).2.1 (hs6.2 0 111 rfl) ?_
        refine ea_iload_n (pc := 43) dX12_putsBack_43 rfl 1 rfl ?_
        obtain ⟨z7, E⟩ := gd_some E
        refine ea_iald (pc := 44) dX12_putsBack_44 (hs6.1 83 (by decide)).1 (hs6.1 83 (by decide)).2.1 (ea_vpl (hs6.1 83 (by decide)).2.2 z7) ?_
        obtain ⟨z8, E⟩ := gd_some E
        refine ea_iast (pc := 45) dX12_putsBack_45 (hs6.1 57 (by decide)).1 (hs6.1 57 (by decide)).2.1 (ea_vpl (hs6.1 57 (by decide)).2.2 z8) ?_
        have hs9 : ShM b0 (ea_wi (ea_wi (ea_wi h (b0 + 55) (Int32.toNatClampNeg x1) (ea_i h (b0 + 81) (Int32.toNatClampNeg x1))) (b0 + 56) (Int32.toNatClampNeg x1) (ea_i (ea_wi h (b0 + 55) (Int32.toNatClampNeg x1) (ea_i h (b0 + 81) (Int32.toNatClampNeg x1))) (b0 + 82) (Int32.toNatClampNeg x1))) (b0 + 57) (Int32.toNatClampNeg x1) (ea_i (ea_wi (ea_wi h (b0 + 55) (Int32.toNatClampNeg x1) (ea_i h (b0 + 81) (Int32.toNatClampNeg x1))) (b0 + 56) (Int32.toNatClampNeg x1) (ea_i (ea_wi h (b0 + 55) (Int32.toNatClampNeg x1) (ea_i h (b0 + 81) (Int32.toNatClampNeg x1))) (b0 + 82) (Int32.toNatClampNeg x1))) (b0 + 83) (Int32.toNatClampNeg x1))) := ShM_wi hs6
        refine ea_aload_n (pc := 46) dX12_putsBack_46 rfl 0 rfl ?_
        refine ea_getR (pc := 47) dX12_putsBack_47 ec_12 (k := 84) (Nat.le_of_ble_eq_true rfl) rfl (Or.inl ew_1429) (hs9.1 0 (by decide)).1 (hs9.1 0 (by decide)).2.1 (hs9.2 0 84 rfl) ?_
        refine ea_iload_n (pc := 50) dX12_putsBack_50 rfl 1 rfl ?_
        refine ea_aload_n (pc := 51) dX12_putsBack_51 rfl 0 rfl ?_
        refine ea_getR (pc := 52) dX12_putsBack_52 ec_12 (k := 112) (Nat.le_of_ble_eq_true rfl) rfl (Or.inl ew_1457) (hs9.1 0 (by decide)).1 (hs9.1 0 (by decide)).2.1 (hs9.2 0 112 rfl) ?_
        refine ea_iload_n (pc := 55) dX12_putsBack_55 rfl 1 rfl ?_
        obtain ⟨z10, E⟩ := gd_some E
        refine ea_iald (pc := 56) dX12_putsBack_56 (hs9.1 84 (by decide)).1 (hs9.1 84 (by decide)).2.1 (ea_vpl (hs9.1 84 (by decide)).2.2 z10) ?_
        obtain ⟨z11, E⟩ := gd_some E
        refine ea_iast (pc := 57) dX12_putsBack_57 (hs9.1 58 (by decide)).1 (hs9.1 58 (by decide)).2.1 (ea_vpl (hs9.1 58 (by decide)).2.2 z11) ?_
        have hs12 : ShM b0 (ea_wi (ea_wi (ea_wi (ea_wi h (b0 + 55) (Int32.toNatClampNeg x1) (ea_i h (b0 + 81) (Int32.toNatClampNeg x1))) (b0 + 56) (Int32.toNatClampNeg x1) (ea_i (ea_wi h (b0 + 55) (Int32.toNatClampNeg x1) (ea_i h (b0 + 81) (Int32.toNatClampNeg x1))) (b0 + 82) (Int32.toNatClampNeg x1))) (b0 + 57) (Int32.toNatClampNeg x1) (ea_i (ea_wi (ea_wi h (b0 + 55) (Int32.toNatClampNeg x1) (ea_i h (b0 + 81) (Int32.toNatClampNeg x1))) (b0 + 56) (Int32.toNatClampNeg x1) (ea_i (ea_wi h (b0 + 55) (Int32.toNatClampNeg x1) (ea_i h (b0 + 81) (Int32.toNatClampNeg x1))) (b0 + 82) (Int32.toNatClampNeg x1))) (b0 + 83) (Int32.toNatClampNeg x1))) (b0 + 58) (Int32.toNatClampNeg x1) (ea_i (ea_wi (ea_wi (ea_wi h (b0 + 55) (Int32.toNatClampNeg x1) (ea_i h (b0 + 81) (Int32.toNatClampNeg x1))) (b0 + 56) (Int32.toNatClampNeg x1) (ea_i (ea_wi h (b0 + 55) (Int32.toNatClampNeg x1) (ea_i h (b0 + 81) (Int32.toNatClampNeg x1))) (b0 + 82) (Int32.toNatClampNeg x1))) (b0 + 57) (Int32.toNatClampNeg x1) (ea_i (ea_wi (ea_wi h (b0 + 55) (Int32.toNatClampNeg x1) (ea_i h (b0 + 81) (Int32.toNatClampNeg x1))) (b0 + 56) (Int32.toNatClampNeg x1) (ea_i (ea_wi h (b0 + 55) (Int32.toNatClampNeg x1) (ea_i h (b0 + 81) (Int32.toNatClampNeg x1))) (b0 + 82) (Int32.toNatClampNeg x1))) (b0 + 83) (Int32.toNatClampNeg x1))) (b0 + 84) (Int32.toNatClampNeg x1))) := ShM_wi hs9
        refine ea_aload_n (pc := 58) dX12_putsBack_58 rfl 0 rfl ?_
        refine ea_getR (pc := 59) dX12_putsBack_59 ec_12 (k := 85) (Nat.le_of_ble_eq_true rfl) rfl (Or.inl ew_1430) (hs12.1 0 (by decide)).1 (hs12.1 0 (by decide)).2.1 (hs12.2 0 85 rfl) ?_
        refine ea_iload_n (pc := 62) dX12_putsBack_62 rfl 1 rfl ?_
        refine ea_aload_n (pc := 63) dX12_putsBack_63 rfl 0 rfl ?_
        refine ea_getR (pc := 64) dX12_putsBack_64 ec_12 (k := 113) (Nat.le_of_ble_eq_true rfl) rfl (Or.inl ew_1458) (hs12.1 0 (by decide)).1 (hs12.1 0 (by decide)).2.1 (hs12.2 0 113 rfl) ?_
        refine ea_iload_n (pc := 67) dX12_putsBack_67 rfl 1 rfl ?_
        obtain ⟨z13, E⟩ := gd_some E
        refine ea_iald (pc := 68) dX12_putsBack_68 (hs12.1 85 (by decide)).1 (hs12.1 85 (by decide)).2.1 (ea_vpl (hs12.1 85 (by decide)).2.2 z13) ?_
        obtain ⟨z14, E⟩ := gd_some E
        refine ea_iast (pc := 69) dX12_putsBack_69 (hs12.1 59 (by decide)).1 (hs12.1 59 (by decide)).2.1 (ea_vpl (hs12.1 59 (by decide)).2.2 z14) ?_
        have hs15 : ShM b0 (ea_wi (ea_wi (ea_wi (ea_wi (ea_wi h (b0 + 55) (Int32.toNatClampNeg x1) (ea_i h (b0 + 81) (Int32.toNatClampNeg x1))) (b0 + 56) (Int32.toNatClampNeg x1) (ea_i (ea_wi h (b0 + 55) (Int32.toNatClampNeg x1) (ea_i h (b0 + 81) (Int32.toNatClampNeg x1))) (b0 + 82) (Int32.toNatClampNeg x1))) (b0 + 57) (Int32.toNatClampNeg x1) (ea_i (ea_wi (ea_wi h (b0 + 55) (Int32.toNatClampNeg x1) (ea_i h (b0 + 81) (Int32.toNatClampNeg x1))) (b0 + 56) (Int32.toNatClampNeg x1) (ea_i (ea_wi h (b0 + 55) (Int32.toNatClampNeg x1) (ea_i h (b0 + 81) (Int32.toNatClampNeg x1))) (b0 + 82) (Int32.toNatClampNeg x1))) (b0 + 83) (Int32.toNatClampNeg x1))) (b0 + 58) (Int32.toNatClampNeg x1) (ea_i (ea_wi (ea_wi (ea_wi h (b0 + 55) (Int32.toNatClampNeg x1) (ea_i h (b0 + 81) (Int32.toNatClampNeg x1))) (b0 + 56) (Int32.toNatClampNeg x1) (ea_i (ea_wi h (b0 + 55) (Int32.toNatClampNeg x1) (ea_i h (b0 + 81) (Int32.toNatClampNeg x1))) (b0 + 82) (Int32.toNatClampNeg x1))) (b0 + 57) (Int32.toNatClampNeg x1) (ea_i (ea_wi (ea_wi h (b0 + 55) (Int32.toNatClampNeg x1) (ea_i h (b0 + 81) (Int32.toNatClampNeg x1))) (b0 + 56) (Int32.toNatClampNeg x1) (ea_i (ea_wi h (b0 + 55) (Int32.toNatClampNeg x1) (ea_i h (b0 + 81) (Int32.toNatClampNeg x1))) (b0 + 82) (Int32.toNatClampNeg x1))) (b0 + 83) (Int32.toNatClampNeg x1))) (b0 + 84) (Int32.toNatClampNeg x1))) (b0 + 59) (Int32.toNatClampNeg x1) (ea_i (ea_wi (ea_wi (ea_wi (ea_wi h (b0 + 55) (Int32.toNatClampNeg x1) (ea_i h (b0 + 81) (Int32.toNatClampNeg x1))) (b0 + 56) (Int32.toNatClampNeg x1) (ea_i (ea_wi h (b0 + 55) (Int32.toNatClampNeg x1) (ea_i h (b0 + 81) (Int32.toNatClampNeg x1))) (b0 + 82) (Int32.toNatClampNeg x1))) (b0 + 57) (Int32.toNatClampNeg x1) (ea_i (ea_wi (ea_wi h (b0 + 55) (Int32.toNatClampNeg x1) (ea_i h (b0 + 81) (Int32.toNatClampNeg x1))) (b0 + 56) (Int32.toNatClampNeg x1) (ea_i (ea_wi h (b0 + 55) (Int32.toNatClampNeg x1) (ea_i h (b0 + 81) (Int32.toNatClampNeg x1))) (b0 + 82) (Int32.toNatClampNeg x1))) (b0 + 83) (Int32.toNatClampNeg x1))) (b0 + 58) (Int32.toNatClampNeg x1) (ea_i (ea_wi (ea_wi (ea_wi h (b0 + 55) (Int32.toNatClampNeg x1) (ea_i h (b0 + 81) (Int32.toNatClampNeg x1))) (b0 + 56) (Int32.toNatClampNeg x1) (ea_i (ea_wi h (b0 + 55) (Int32.toNatClampNeg x1) (ea_i h (b0 + 81) (Int32.toNatClampNeg x1))) (b0 + 82) (Int32.toNatClampNeg x1))) (b0 + 57) (Int32.toNatClampNeg x1) (ea_i (ea_wi (ea_wi h (b0 + 55) (Int32.toNatClampNeg x1) (ea_i h (b0 + 81) (Int32.toNatClampNeg x1))) (b0 + 56) (Int32.toNatClampNeg x1) (ea_i (ea_wi h (b0 + 55) (Int32.toNatClampNeg x1) (ea_i h (b0 + 81) (Int32.toNatClampNeg x1))) (b0 + 82) (Int32.toNatClampNeg x1))) (b0 + 83) (Int32.toNatClampNeg x1))) (b0 + 84) (Int32.toNatClampNeg x1))) (b0 + 85) (Int32.toNatClampNeg x1))) := ShM_wi hs12
        refine ea_aload_n (pc := 70) dX12_putsBack_70 rfl 0 rfl ?_
        refine ea_getR (pc := 71) dX12_putsBack_71 ec_12 (k := 76) (Nat.le_of_ble_eq_true rfl) rfl (Or.inl ew_1421) (hs15.1 0 (by decide)).1 (hs15.1 0 (by decide)).2.1 (hs15.2 0 76 rfl) ?_
        refine ea_iload_n (pc := 74) dX12_putsBack_74 rfl 1 rfl ?_
        refine ea_aload_n (pc := 75) dX12_putsBack_75 rfl 0 rfl ?_
        refine ea_getR (pc := 76) dX12_putsBack_76 ec_12 (k := 114) (Nat.le_of_ble_eq_true rfl) rfl (Or.inl ew_1459) (hs15.1 0 (by decide)).1 (hs15.1 0 (by decide)).2.1 (hs15.2 0 114 rfl) ?_
        refine ea_iload_n (pc := 79) dX12_putsBack_79 rfl 1 rfl ?_
        obtain ⟨z16, E⟩ := gd_some E
        refine ea_iald (pc := 80) dX12_putsBack_80 (hs15.1 86 (by decide)).1 (hs15.1 86 (by decide)).2.1 (ea_vpl (hs15.1 86 (by decide)).2.2 z16) ?_
        obtain ⟨z17, E⟩ := gd_some E
        refine ea_iast (pc := 81) dX12_putsBack_81 (hs15.1 50 (by decide)).1 (hs15.1 50 (by decide)).2.1 (ea_vpl (hs15.1 50 (by decide)).2.2 z17) ?_
        have hs18 : ShM b0 (ea_wi (ea_wi (ea_wi (ea_wi (ea_wi (ea_wi h (b0 + 55) (Int32.toNatClampNeg x1) (ea_i h (b0 + 81) (Int32.toNatClampNeg x1))) (b0 + 56) (Int32.toNatClampNeg x1) (ea_i (ea_wi h (b0 + 55) (Int32.toNatClampNeg x1) (ea_i h (b0 + 81) (Int32.toNatClampNeg x1))) (b0 + 82) (Int32.toNatClampNeg x1))) (b0 + 57) (Int32.toNatClampNeg x1) (ea_i (ea_wi (ea_wi h (b0 + 55) (Int32.toNatClampNeg x1) (ea_i h (b0 + 81) (Int32.toNatClampNeg x1))) (b0 + 56) (Int32.toNatClampNeg x1) (ea_i (ea_wi h (b0 + 55) (Int32.toNatClampNeg x1) (ea_i h (b0 + 81) (Int32.toNatClampNeg x1))) (b0 + 82) (Int32.toNatClampNeg x1))) (b0 + 83) (Int32.toNatClampNeg x1))) (b0 + 58) (Int32.toNatClampNeg x1) (ea_i (ea_wi (ea_wi (ea_wi h (b0 + 55) (Int32.toNatClampNeg x1) (ea_i h (b0 + 81) (Int32.toNatClampNeg x1))) (b0 + 56) (Int32.toNatClampNeg x1) (ea_i (ea_wi h (b0 + 55) (Int32.toNatClampNeg x1) (ea_i h (b0 + 81) (Int32.toNatClampNeg x1))) (b0 + 82) (Int32.toNatClampNeg x1))) (b0 + 57) (Int32.toNatClampNeg x1) (ea_i (ea_wi (ea_wi h (b0 + 55) (Int32.toNatClampNeg x1) (ea_i h (b0 + 81) (Int32.toNatClampNeg x1))) (b0 + 56) (Int32.toNatClampNeg x1) (ea_i (ea_wi h (b0 + 55) (Int32.toNatClampNeg x1) (ea_i h (b0 + 81) (Int32.toNatClampNeg x1))) (b0 + 82) (Int32.toNatClampNeg x1))) (b0 + 83) (Int32.toNatClampNeg x1))) (b0 + 84) (Int32.toNatClampNeg x1))) (b0 + 59) (Int32.toNatClampNeg x1) (ea_i (ea_wi (ea_wi (ea_wi (ea_wi h (b0 + 55) (Int32.toNatClampNeg x1) (ea_i h (b0 + 81) (Int32.toNatClampNeg x1))) (b0 + 56) (Int32.toNatClampNeg x1) (ea_i (ea_wi h (b0 + 55) (Int32.toNatClampNeg x1) (ea_i h (b0 + 81) (Int32.toNatClampNeg x1))) (b0 + 82) (Int32.toNatClampNeg x1))) (b0 + 57) (Int32.toNatClampNeg x1) (ea_i (ea_wi (ea_wi h (b0 + 55) (Int32.toNatClampNeg x1) (ea_i h (b0 + 81) (Int32.toNatClampNeg x1))) (b0 + 56) (Int32.toNatClampNeg x1) (ea_i (ea_wi h (b0 + 55) (Int32.toNatClampNeg x1) (ea_i h (b0 + 81) (Int32.toNatClampNeg x1))) (b0 + 82) (Int32.toNatClampNeg x1))) (b0 + 83) (Int32.toNatClampNeg x1))) (b0 + 58) (Int32.toNatClampNeg x1) (ea_i (ea_wi (ea_wi (ea_wi h (b0 + 55) (Int32.toNatClampNeg x1) (ea_i h (b0 + 81) (Int32.toNatClampNeg x1))) (b0 + 56) (Int32.toNatClampNeg x1) (ea_i (ea_wi h (b0 + 55) (Int32.toNatClampNeg x1) (ea_i h (b0 + 81) (Int32.toNatClampNeg x1))) (b0 + 82) (Int32.toNatClampNeg x1))) (b0 + 57) (Int32.toNatClampNeg x1) (ea_i (ea_wi (ea_wi h (b0 + 55) (Int32.toNatClampNeg x1) (ea_i h (b0 + 81) (Int32.toNatClampNeg x1))) (b0 + 56) (Int32.toNatClampNeg x1) (ea_i (ea_wi h (b0 + 55) (Int32.toNatClampNeg x1) (ea_i h (b0 + 81) (Int32.toNatClampNeg x1))) (b0 + 82) (Int32.toNatClampNeg x1))) (b0 + 83) (Int32.toNatClampNeg x1))) (b0 + 84) (Int32.toNatClampNeg x1))) (b0 + 85) (Int32.toNatClampNeg x1))) (b0 + 50) (Int32.toNatClampNeg x1) (ea_i (ea_wi (ea_wi (ea_wi (ea_wi (ea_wi h (b0 + 55) (Int32.toNatClampNeg x1) (ea_i h (b0 + 81) (Int32.toNatClampNeg x1))) (b0 + 56) (Int32.toNatClampNeg x1) (ea_i (ea_wi h (b0 + 55) (Int32.toNatClampNeg x1) (ea_i h (b0 + 81) (Int32.toNatClampNeg x1))) (b0 + 82) (Int32.toNatClampNeg x1))) (b0 + 57) (Int32.toNatClampNeg x1) (ea_i (ea_wi (ea_wi h (b0 + 55) (Int32.toNatClampNeg x1) (ea_i h (b0 + 81) (Int32.toNatClampNeg x1))) (b0 + 56) (Int32.toNatClampNeg x1) (ea_i (ea_wi h (b0 + 55) (Int32.toNatClampNeg x1) (ea_i h (b0 + 81) (Int32.toNatClampNeg x1))) (b0 + 82) (Int32.toNatClampNeg x1))) (b0 + 83) (Int32.toNatClampNeg x1))) (b0 + 58) (Int32.toNatClampNeg x1) (ea_i (ea_wi (ea_wi (ea_wi h (b0 + 55) (Int32.toNatClampNeg x1) (ea_i h (b0 + 81) (Int32.toNatClampNeg x1))) (b0 + 56) (Int32.toNatClampNeg x1) (ea_i (ea_wi h (b0 + 55) (Int32.toNatClampNeg x1) (ea_i h (b0 + 81) (Int32.toNatClampNeg x1))) (b0 + 82) (Int32.toNatClampNeg x1))) (b0 + 57) (Int32.toNatClampNeg x1) (ea_i (ea_wi (ea_wi h (b0 + 55) (Int32.toNatClampNeg x1) (ea_i h (b0 + 81) (Int32.toNatClampNeg x1))) (b0 + 56) (Int32.toNatClampNeg x1) (ea_i (ea_wi h (b0 + 55) (Int32.toNatClampNeg x1) (ea_i h (b0 + 81) (Int32.toNatClampNeg x1))) (b0 + 82) (Int32.toNatClampNeg x1))) (b0 + 83) (Int32.toNatClampNeg x1))) (b0 + 84) (Int32.toNatClampNeg x1))) (b0 + 59) (Int32.toNatClampNeg x1) (ea_i (ea_wi (ea_wi (ea_wi (ea_wi h (b0 + 55) (Int32.toNatClampNeg x1) (ea_i h (b0 + 81) (Int32.toNatClampNeg x1))) (b0 + 56) (Int32.toNatClampNeg x1) (ea_i (ea_wi h (b0 + 55) (Int32.toNatClampNeg x1) (ea_i h (b0 + 81) (Int32.toNatClampNeg x1))) (b0 + 82) (Int32.toNatClampNeg x1))) (b0 + 57) (Int32.toNatClampNeg x1) (ea_i (ea_wi (ea_wi h (b0 + 55) (Int32.toNatClampNeg x1) (ea_i h (b0 + 81) (Int32.toNatClampNeg x1))) (b0 + 56) (Int32.toNatClampNeg x1) (ea_i (ea_wi h (b0 + 55) (Int32.toNatClampNeg x1) (ea_i h (b0 + 81) (Int32.toNatClampNeg x1))) (b0 + 82) (Int32.toNatClampNeg x1))) (b0 + 83) (Int32.toNatClampNeg x1))) (b0 + 58) (Int32.toNatClampNeg x1) (ea_i (ea_wi (ea_wi (ea_wi h (b0 + 55) (Int32.toNatClampNeg x1) (ea_i h (b0 + 81) (Int32.toNatClampNeg x1))) (b0 + 56) (Int32.toNatClampNeg x1) (ea_i (ea_wi h (b0 + 55) (Int32.toNatClampNeg x1) (ea_i h (b0 + 81) (Int32.toNatClampNeg x1))) (b0 + 82) (Int32.toNatClampNeg x1))) (b0 + 57) (Int32.toNatClampNeg x1) (ea_i (ea_wi (ea_wi h (b0 + 55) (Int32.toNatClampNeg x1) (ea_i h (b0 + 81) (Int32.toNatClampNeg x1))) (b0 + 56) (Int32.toNatClampNeg x1) (ea_i (ea_wi h (b0 + 55) (Int32.toNatClampNeg x1) (ea_i h (b0 + 81) (Int32.toNatClampNeg x1))) (b0 + 82) (Int32.toNatClampNeg x1))) (b0 + 83) (Int32.toNatClampNeg x1))) (b0 + 84) (Int32.toNatClampNeg x1))) (b0 + 85) (Int32.toNatClampNeg x1))) (b0 + 86) (Int32.toNatClampNeg x1))) := ShM_wi hs15
        refine ea_aload_n (pc := 82) dX12_putsBack_82 rfl 0 rfl ?_
        refine ea_getR (pc := 83) dX12_putsBack_83 ec_12 (k := 77) (Nat.le_of_ble_eq_true rfl) rfl (Or.inl ew_1422) (hs18.1 0 (by decide)).1 (hs18.1 0 (by decide)).2.1 (hs18.2 0 77 rfl) ?_
        refine ea_iload_n (pc := 86) dX12_putsBack_86 rfl 1 rfl ?_
        refine ea_aload_n (pc := 87) dX12_putsBack_87 rfl 0 rfl ?_
        refine ea_getR (pc := 88) dX12_putsBack_88 ec_12 (k := 115) (Nat.le_of_ble_eq_true rfl) rfl (Or.inl ew_1460) (hs18.1 0 (by decide)).1 (hs18.1 0 (by decide)).2.1 (hs18.2 0 115 rfl) ?_
        refine ea_iload_n (pc := 91) dX12_putsBack_91 rfl 1 rfl ?_
        obtain ⟨z19, E⟩ := gd_some E
        refine ea_iald (pc := 92) dX12_putsBack_92 (hs18.1 87 (by decide)).1 (hs18.1 87 (by decide)).2.1 (ea_vpl (hs18.1 87 (by decide)).2.2 z19) ?_
        obtain ⟨z20, E⟩ := gd_some E
        refine ea_iast (pc := 93) dX12_putsBack_93 (hs18.1 51 (by decide)).1 (hs18.1 51 (by decide)).2.1 (ea_vpl (hs18.1 51 (by decide)).2.2 z20) ?_
        have hs21 : ShM b0 (ea_wi (ea_wi (ea_wi (ea_wi (ea_wi (ea_wi (ea_wi h (b0 + 55) (Int32.toNatClampNeg x1) (ea_i h (b0 + 81) (Int32.toNatClampNeg x1))) (b0 + 56) (Int32.toNatClampNeg x1) (ea_i (ea_wi h (b0 + 55) (Int32.toNatClampNeg x1) (ea_i h (b0 + 81) (Int32.toNatClampNeg x1))) (b0 + 82) (Int32.toNatClampNeg x1))) (b0 + 57) (Int32.toNatClampNeg x1) (ea_i (ea_wi (ea_wi h (b0 + 55) (Int32.toNatClampNeg x1) (ea_i h (b0 + 81) (Int32.toNatClampNeg x1))) (b0 + 56) (Int32.toNatClampNeg x1) (ea_i (ea_wi h (b0 + 55) (Int32.toNatClampNeg x1) (ea_i h (b0 + 81) (Int32.toNatClampNeg x1))) (b0 + 82) (Int32.toNatClampNeg x1))) (b0 + 83) (Int32.toNatClampNeg x1))) (b0 + 58) (Int32.toNatClampNeg x1) (ea_i (ea_wi (ea_wi (ea_wi h (b0 + 55) (Int32.toNatClampNeg x1) (ea_i h (b0 + 81) (Int32.toNatClampNeg x1))) (b0 + 56) (Int32.toNatClampNeg x1) (ea_i (ea_wi h (b0 + 55) (Int32.toNatClampNeg x1) (ea_i h (b0 + 81) (Int32.toNatClampNeg x1))) (b0 + 82) (Int32.toNatClampNeg x1))) (b0 + 57) (Int32.toNatClampNeg x1) (ea_i (ea_wi (ea_wi h (b0 + 55) (Int32.toNatClampNeg x1) (ea_i h (b0 + 81) (Int32.toNatClampNeg x1))) (b0 + 56) (Int32.toNatClampNeg x1) (ea_i (ea_wi h (b0 + 55) (Int32.toNatClampNeg x1) (ea_i h (b0 + 81) (Int32.toNatClampNeg x1))) (b0 + 82) (Int32.toNatClampNeg x1))) (b0 + 83) (Int32.toNatClampNeg x1))) (b0 + 84) (Int32.toNatClampNeg x1))) (b0 + 59) (Int32.toNatClampNeg x1) (ea_i (ea_wi (ea_wi (ea_wi (ea_wi h (b0 + 55) (Int32.toNatClampNeg x1) (ea_i h (b0 + 81) (Int32.toNatClampNeg x1))) (b0 + 56) (Int32.toNatClampNeg x1) (ea_i (ea_wi h (b0 + 55) (Int32.toNatClampNeg x1) (ea_i h (b0 + 81) (Int32.toNatClampNeg x1))) (b0 + 82) (Int32.toNatClampNeg x1))) (b0 + 57) (Int32.toNatClampNeg x1) (ea_i (ea_wi (ea_wi h (b0 + 55) (Int32.toNatClampNeg x1) (ea_i h (b0 + 81) (Int32.toNatClampNeg x1))) (b0 + 56) (Int32.toNatClampNeg x1) (ea_i (ea_wi h (b0 + 55) (Int32.toNatClampNeg x1) (ea_i h (b0 + 81) (Int32.toNatClampNeg x1))) (b0 + 82) (Int32.toNatClampNeg x1))) (b0 + 83) (Int32.toNatClampNeg x1))) (b0 + 58) (Int32.toNatClampNeg x1) (ea_i (ea_wi (ea_wi (ea_wi h (b0 + 55) (Int32.toNatClampNeg x1) (ea_i h (b0 + 81) (Int32.toNatClampNeg x1))) (b0 + 56) (Int32.toNatClampNeg x1) (ea_i (ea_wi h (b0 + 55) (Int32.toNatClampNeg x1) (ea_i h (b0 + 81) (Int32.toNatClampNeg x1))) (b0 + 82) (Int32.toNatClampNeg x1))) (b0 + 57) (Int32.toNatClampNeg x1) (ea_i (ea_wi (ea_wi h (b0 + 55) (Int32.toNatClampNeg x1) (ea_i h (b0 + 81) (Int32.toNatClampNeg x1))) (b0 + 56) (Int32.toNatClampNeg x1) (ea_i (ea_wi h (b0 + 55) (Int32.toNatClampNeg x1) (ea_i h (b0 + 81) (Int32.toNatClampNeg x1))) (b0 + 82) (Int32.toNatClampNeg x1))) (b0 + 83) (Int32.toNatClampNeg x1))) (b0 + 84) (Int32.toNatClampNeg x1))) (b0 + 85) (Int32.toNatClampNeg x1))) (b0 + 50) (Int32.toNatClampNeg x1) (ea_i (ea_wi (ea_wi (ea_wi (ea_wi (ea_wi h (b0 + 55) (Int32.toNatClampNeg x1) (ea_i h (b0 + 81) (Int32.toNatClampNeg x1))) (b0 + 56) (Int32.toNatClampNeg x1) (ea_i (ea_wi h (b0 + 55) (Int32.toNatClampNeg x1) (ea_i h (b0 + 81) (Int32.toNatClampNeg x1))) (b0 + 82) (Int32.toNatClampNeg x1))) (b0 + 57) (Int32.toNatClampNeg x1) (ea_i (ea_wi (ea_wi h (b0 + 55) (Int32.toNatClampNeg x1) (ea_i h (b0 + 81) (Int32.toNatClampNeg x1))) (b0 + 56) (Int32.toNatClampNeg x1) (ea_i (ea_wi h (b0 + 55) (Int32.toNatClampNeg x1) (ea_i h (b0 + 81) (Int32.toNatClampNeg x1))) (b0 + 82) (Int32.toNatClampNeg x1))) (b0 + 83) (Int32.toNatClampNeg x1))) (b0 + 58) (Int32.toNatClampNeg x1) (ea_i (ea_wi (ea_wi (ea_wi h (b0 + 55) (Int32.toNatClampNeg x1) (ea_i h (b0 + 81) (Int32.toNatClampNeg x1))) (b0 + 56) (Int32.toNatClampNeg x1) (ea_i (ea_wi h (b0 + 55) (Int32.toNatClampNeg x1) (ea_i h (b0 + 81) (Int32.toNatClampNeg x1))) (b0 + 82) (Int32.toNatClampNeg x1))) (b0 + 57) (Int32.toNatClampNeg x1) (ea_i (ea_wi (ea_wi h (b0 + 55) (Int32.toNatClampNeg x1) (ea_i h (b0 + 81) (Int32.toNatClampNeg x1))) (b0 + 56) (Int32.toNatClampNeg x1) (ea_i (ea_wi h (b0 + 55) (Int32.toNatClampNeg x1) (ea_i h (b0 + 81) (Int32.toNatClampNeg x1))) (b0 + 82) (Int32.toNatClampNeg x1))) (b0 + 83) (Int32.toNatClampNeg x1))) (b0 + 84) (Int32.toNatClampNeg x1))) (b0 + 59) (Int32.toNatClampNeg x1) (ea_i (ea_wi (ea_wi (ea_wi (ea_wi h (b0 + 55) (Int32.toNatClampNeg x1) (ea_i h (b0 + 81) (Int32.toNatClampNeg x1))) (b0 + 56) (Int32.toNatClampNeg x1) (ea_i (ea_wi h (b0 + 55) (Int32.toNatClampNeg x1) (ea_i h (b0 + 81) (Int32.toNatClampNeg x1))) (b0 + 82) (Int32.toNatClampNeg x1))) (b0 + 57) (Int32.toNatClampNeg x1) (ea_i (ea_wi (ea_wi h (b0 + 55) (Int32.toNatClampNeg x1) (ea_i h (b0 + 81) (Int32.toNatClampNeg x1))) (b0 + 56) (Int32.toNatClampNeg x1) (ea_i (ea_wi h (b0 + 55) (Int32.toNatClampNeg x1) (ea_i h (b0 + 81) (Int32.toNatClampNeg x1))) (b0 + 82) (Int32.toNatClampNeg x1))) (b0 + 83) (Int32.toNatClampNeg x1))) (b0 + 58) (Int32.toNatClampNeg x1) (ea_i (ea_wi (ea_wi (ea_wi h (b0 + 55) (Int32.toNatClampNeg x1) (ea_i h (b0 + 81) (Int32.toNatClampNeg x1))) (b0 + 56) (Int32.toNatClampNeg x1) (ea_i (ea_wi h (b0 + 55) (Int32.toNatClampNeg x1) (ea_i h (b0 + 81) (Int32.toNatClampNeg x1))) (b0 + 82) (Int32.toNatClampNeg x1))) (b0 + 57) (Int32.toNatClampNeg x1) (ea_i (ea_wi (ea_wi h (b0 + 55) (Int32.toNatClampNeg x1) (ea_i h (b0 + 81) (Int32.toNatClampNeg x1))) (b0 + 56) (Int32.toNatClampNeg x1) (ea_i (ea_wi h (b0 + 55) (Int32.toNatClampNeg x1) (ea_i h (b0 + 81) (Int32.toNatClampNeg x1))) (b0 + 82) (Int32.toNatClampNeg x1))) (b0 + 83) (Int32.toNatClampNeg x1))) (b0 + 84) (Int32.toNatClampNeg x1))) (b0 + 85) (Int32.toNatClampNeg x1))) (b0 + 86) (Int32.toNatClampNeg x1))) (b0 + 51) (Int32.toNatClampNeg x1) (ea_i (ea_wi (ea_wi (ea_wi (ea_wi (ea_wi (ea_wi h (b0 + 55) (Int32.toNatClampNeg x1) (ea_i h (b0 + 81) (Int32.toNatClampNeg x1))) (b0 + 56) (Int32.toNatClampNeg x1) (ea_i (ea_wi h (b0 + 55) (Int32.toNatClampNeg x1) (ea_i h (b0 + 81) (Int32.toNatClampNeg x1))) (b0 + 82) (Int32.toNatClampNeg x1))) (b0 + 57) (Int32.toNatClampNeg x1) (ea_i (ea_wi (ea_wi h (b0 + 55) (Int32.toNatClampNeg x1) (ea_i h (b0 + 81) (Int32.toNatClampNeg x1))) (b0 + 56) (Int32.toNatClampNeg x1) (ea_i (ea_wi h (b0 + 55) (Int32.toNatClampNeg x1) (ea_i h (b0 + 81) (Int32.toNatClampNeg x1))) (b0 + 82) (Int32.toNatClampNeg x1))) (b0 + 83) (Int32.toNatClampNeg x1))) (b0 + 58) (Int32.toNatClampNeg x1) (ea_i (ea_wi (ea_wi (ea_wi h (b0 + 55) (Int32.toNatClampNeg x1) (ea_i h (b0 + 81) (Int32.toNatClampNeg x1))) (b0 + 56) (Int32.toNatClampNeg x1) (ea_i (ea_wi h (b0 + 55) (Int32.toNatClampNeg x1) (ea_i h (b0 + 81) (Int32.toNatClampNeg x1))) (b0 + 82) (Int32.toNatClampNeg x1))) (b0 + 57) (Int32.toNatClampNeg x1) (ea_i (ea_wi (ea_wi h (b0 + 55) (Int32.toNatClampNeg x1) (ea_i h (b0 + 81) (Int32.toNatClampNeg x1))) (b0 + 56) (Int32.toNatClampNeg x1) (ea_i (ea_wi h (b0 + 55) (Int32.toNatClampNeg x1) (ea_i h (b0 + 81) (Int32.toNatClampNeg x1))) (b0 + 82) (Int32.toNatClampNeg x1))) (b0 + 83) (Int32.toNatClampNeg x1))) (b0 + 84) (Int32.toNatClampNeg x1))) (b0 + 59) (Int32.toNatClampNeg x1) (ea_i (ea_wi (ea_wi (ea_wi (ea_wi h (b0 + 55) (Int32.toNatClampNeg x1) (ea_i h (b0 + 81) (Int32.toNatClampNeg x1))) (b0 + 56) (Int32.toNatClampNeg x1) (ea_i (ea_wi h (b0 + 55) (Int32.toNatClampNeg x1) (ea_i h (b0 + 81) (Int32.toNatClampNeg x1))) (b0 + 82) (Int32.toNatClampNeg x1))) (b0 + 57) (Int32.toNatClampNeg x1) (ea_i (ea_wi (ea_wi h (b0 + 55) (Int32.toNatClampNeg x1) (ea_i h (b0 + 81) (Int32.toNatClampNeg x1))) (b0 + 56) (Int32.toNatClampNeg x1) (ea_i (ea_wi h (b0 + 55) (Int32.toNatClampNeg x1) (ea_i h (b0 + 81) (Int32.toNatClampNeg x1))) (b0 + 82) (Int32.toNatClampNeg x1))) (b0 + 83) (Int32.toNatClampNeg x1))) (b0 + 58) (Int32.toNatClampNeg x1) (ea_i (ea_wi (ea_wi (ea_wi h (b0 + 55) (Int32.toNatClampNeg x1) (ea_i h (b0 + 81) (Int32.toNatClampNeg x1))) (b0 + 56) (Int32.toNatClampNeg x1) (ea_i (ea_wi h (b0 + 55) (Int32.toNatClampNeg x1) (ea_i h (b0 + 81) (Int32.toNatClampNeg x1))) (b0 + 82) (Int32.toNatClampNeg x1))) (b0 + 57) (Int32.toNatClampNeg x1) (ea_i (ea_wi (ea_wi h (b0 + 55) (Int32.toNatClampNeg x1) (ea_i h (b0 + 81) (Int32.toNatClampNeg x1))) (b0 + 56) (Int32.toNatClampNeg x1) (ea_i (ea_wi h (b0 + 55) (Int32.toNatClampNeg x1) (ea_i h (b0 + 81) (Int32.toNatClampNeg x1))) (b0 + 82) (Int32.toNatClampNeg x1))) (b0 + 83) (Int32.toNatClampNeg x1))) (b0 + 84) (Int32.toNatClampNeg x1))) (b0 + 85) (Int32.toNatClampNeg x1))) (b0 + 50) (Int32.toNatClampNeg x1) (ea_i (ea_wi (ea_wi (ea_wi (ea_wi (ea_wi h (b0 + 55) (Int32.toNatClampNeg x1) (ea_i h (b0 + 81) (Int32.toNatClampNeg x1))) (b0 + 56) (Int32.toNatClampNeg x1) (ea_i (ea_wi h (b0 + 55) (Int32.toNatClampNeg x1) (ea_i h (b0 + 81) (Int32.toNatClampNeg x1))) (b0 + 82) (Int32.toNatClampNeg x1))) (b0 + 57) (Int32.toNatClampNeg x1) (ea_i (ea_wi (ea_wi h (b0 + 55) (Int32.toNatClampNeg x1) (ea_i h (b0 + 81) (Int32.toNatClampNeg x1))) (b0 + 56) (Int32.toNatClampNeg x1) (ea_i (ea_wi h (b0 + 55) (Int32.toNatClampNeg x1) (ea_i h (b0 + 81) (Int32.toNatClampNeg x1))) (b0 + 82) (Int32.toNatClampNeg x1))) (b0 + 83) (Int32.toNatClampNeg x1))) (b0 + 58) (Int32.toNatClampNeg x1) (ea_i (ea_wi (ea_wi (ea_wi h (b0 + 55) (Int32.toNatClampNeg x1) (ea_i h (b0 + 81) (Int32.toNatClampNeg x1))) (b0 + 56) (Int32.toNatClampNeg x1) (ea_i (ea_wi h (b0 + 55) (Int32.toNatClampNeg x1) (ea_i h (b0 + 81) (Int32.toNatClampNeg x1))) (b0 + 82) (Int32.toNatClampNeg x1))) (b0 + 57) (Int32.toNatClampNeg x1) (ea_i (ea_wi (ea_wi h (b0 + 55) (Int32.toNatClampNeg x1) (ea_i h (b0 + 81) (Int32.toNatClampNeg x1))) (b0 + 56) (Int32.toNatClampNeg x1) (ea_i (ea_wi h (b0 + 55) (Int32.toNatClampNeg x1) (ea_i h (b0 + 81) (Int32.toNatClampNeg x1))) (b0 + 82) (Int32.toNatClampNeg x1))) (b0 + 83) (Int32.toNatClampNeg x1))) (b0 + 84) (Int32.toNatClampNeg x1))) (b0 + 59) (Int32.toNatClampNeg x1) (ea_i (ea_wi (ea_wi (ea_wi (ea_wi h (b0 + 55) (Int32.toNatClampNeg x1) (ea_i h (b0 + 81) (Int32.toNatClampNeg x1))) (b0 + 56) (Int32.toNatClampNeg x1) (ea_i (ea_wi h (b0 + 55) (Int32.toNatClampNeg x1) (ea_i h (b0 + 81) (Int32.toNatClampNeg x1))) (b0 + 82) (Int32.toNatClampNeg x1))) (b0 + 57) (Int32.toNatClampNeg x1) (ea_i (ea_wi (ea_wi h (b0 + 55) (Int32.toNatClampNeg x1) (ea_i h (b0 + 81) (Int32.toNatClampNeg x1))) (b0 + 56) (Int32.toNatClampNeg x1) (ea_i (ea_wi h (b0 + 55) (Int32.toNatClampNeg x1) (ea_i h (b0 + 81) (Int32.toNatClampNeg x1))) (b0 + 82) (Int32.toNatClampNeg x1))) (b0 + 83) (Int32.toNatClampNeg x1))) (b0 + 58) (Int32.toNatClampNeg x1) (ea_i (ea_wi (ea_wi (ea_wi h (b0 + 55) (Int32.toNatClampNeg x1) (ea_i h (b0 + 81) (Int32.toNatClampNeg x1))) (b0 + 56) (Int32.toNatClampNeg x1) (ea_i (ea_wi h (b0 + 55) (Int32.toNatClampNeg x1) (ea_i h (b0 + 81) (Int32.toNatClampNeg x1))) (b0 + 82) (Int32.toNatClampNeg x1))) (b0 + 57) (Int32.toNatClampNeg x1) (ea_i (ea_wi (ea_wi h (b0 + 55) (Int32.toNatClampNeg x1) (ea_i h (b0 + 81) (Int32.toNatClampNeg x1))) (b0 + 56) (Int32.toNatClampNeg x1) (ea_i (ea_wi h (b0 + 55) (Int32.toNatClampNeg x1) (ea_i h (b0 + 81) (Int32.toNatClampNeg x1))) (b0 + 82) (Int32.toNatClampNeg x1))) (b0 + 83) (Int32.toNatClampNeg x1))) (b0 + 84) (Int32.toNatClampNeg x1))) (b0 + 85) (Int32.toNatClampNeg x1))) (b0 + 86) (Int32.toNatClampNeg x1))) (b0 + 87) (Int32.toNatClampNeg x1))) := ShM_wi hs18
        refine ea_aload_n (pc := 94) dX12_putsBack_94 rfl 0 rfl ?_
        refine ea_getR (pc := 95) dX12_putsBack_95 ec_12 (k := 87) (Nat.le_of_ble_eq_true rfl) rfl (Or.inl ew_1432) (hs21.1 0 (by decide)).1 (hs21.1 0 (by decide)).2.1 (hs21.2 0 87 rfl) ?_
        refine ea_iload_n (pc := 98) dX12_putsBack_98 rfl 1 rfl ?_
        refine ea_aload_n (pc := 99) dX12_putsBack_99 rfl 0 rfl ?_
        refine ea_getR (pc := 100) dX12_putsBack_100 ec_12 (k := 117) (Nat.le_of_ble_eq_true rfl) rfl (Or.inl ew_1462) (hs21.1 0 (by decide)).1 (hs21.1 0 (by decide)).2.1 (hs21.2 0 117 rfl) ?_
        refine ea_iload_n (pc := 103) dX12_putsBack_103 rfl 1 rfl ?_
        obtain ⟨z22, E⟩ := gd_some E
        refine ea_zald (pc := 104) dX12_putsBack_104 (hs21.1 89 (by decide)).1 (hs21.1 89 (by decide)).2.1 (ea_vpl (hs21.1 89 (by decide)).2.2 z22) ?_
        obtain ⟨z23, E⟩ := gd_some E
        obtain ⟨z25, E⟩ := gd_some E
        refine ea_zast (pc := 105) dX12_putsBack_105 (y := (ea_i (ea_wi (ea_wi (ea_wi (ea_wi (ea_wi (ea_wi (ea_wi h (b0 + 55) (Int32.toNatClampNeg x1) (ea_i h (b0 + 81) (Int32.toNatClampNeg x1))) (b0 + 56) (Int32.toNatClampNeg x1) (ea_i (ea_wi h (b0 + 55) (Int32.toNatClampNeg x1) (ea_i h (b0 + 81) (Int32.toNatClampNeg x1))) (b0 + 82) (Int32.toNatClampNeg x1))) (b0 + 57) (Int32.toNatClampNeg x1) (ea_i (ea_wi (ea_wi h (b0 + 55) (Int32.toNatClampNeg x1) (ea_i h (b0 + 81) (Int32.toNatClampNeg x1))) (b0 + 56) (Int32.toNatClampNeg x1) (ea_i (ea_wi h (b0 + 55) (Int32.toNatClampNeg x1) (ea_i h (b0 + 81) (Int32.toNatClampNeg x1))) (b0 + 82) (Int32.toNatClampNeg x1))) (b0 + 83) (Int32.toNatClampNeg x1))) (b0 + 58) (Int32.toNatClampNeg x1) (ea_i (ea_wi (ea_wi (ea_wi h (b0 + 55) (Int32.toNatClampNeg x1) (ea_i h (b0 + 81) (Int32.toNatClampNeg x1))) (b0 + 56) (Int32.toNatClampNeg x1) (ea_i (ea_wi h (b0 + 55) (Int32.toNatClampNeg x1) (ea_i h (b0 + 81) (Int32.toNatClampNeg x1))) (b0 + 82) (Int32.toNatClampNeg x1))) (b0 + 57) (Int32.toNatClampNeg x1) (ea_i (ea_wi (ea_wi h (b0 + 55) (Int32.toNatClampNeg x1) (ea_i h (b0 + 81) (Int32.toNatClampNeg x1))) (b0 + 56) (Int32.toNatClampNeg x1) (ea_i (ea_wi h (b0 + 55) (Int32.toNatClampNeg x1) (ea_i h (b0 + 81) (Int32.toNatClampNeg x1))) (b0 + 82) (Int32.toNatClampNeg x1))) (b0 + 83) (Int32.toNatClampNeg x1))) (b0 + 84) (Int32.toNatClampNeg x1))) (b0 + 59) (Int32.toNatClampNeg x1) (ea_i (ea_wi (ea_wi (ea_wi (ea_wi h (b0 + 55) (Int32.toNatClampNeg x1) (ea_i h (b0 + 81) (Int32.toNatClampNeg x1))) (b0 + 56) (Int32.toNatClampNeg x1) (ea_i (ea_wi h (b0 + 55) (Int32.toNatClampNeg x1) (ea_i h (b0 + 81) (Int32.toNatClampNeg x1))) (b0 + 82) (Int32.toNatClampNeg x1))) (b0 + 57) (Int32.toNatClampNeg x1) (ea_i (ea_wi (ea_wi h (b0 + 55) (Int32.toNatClampNeg x1) (ea_i h (b0 + 81) (Int32.toNatClampNeg x1))) (b0 + 56) (Int32.toNatClampNeg x1) (ea_i (ea_wi h (b0 + 55) (Int32.toNatClampNeg x1) (ea_i h (b0 + 81) (Int32.toNatClampNeg x1))) (b0 + 82) (Int32.toNatClampNeg x1))) (b0 + 83) (Int32.toNatClampNeg x1))) (b0 + 58) (Int32.toNatClampNeg x1) (ea_i (ea_wi (ea_wi (ea_wi h (b0 + 55) (Int32.toNatClampNeg x1) (ea_i h (b0 + 81) (Int32.toNatClampNeg x1))) (b0 + 56) (Int32.toNatClampNeg x1) (ea_i (ea_wi h (b0 + 55) (Int32.toNatClampNeg x1) (ea_i h (b0 + 81) (Int32.toNatClampNeg x1))) (b0 + 82) (Int32.toNatClampNeg x1))) (b0 + 57) (Int32.toNatClampNeg x1) (ea_i (ea_wi (ea_wi h (b0 + 55) (Int32.toNatClampNeg x1) (ea_i h (b0 + 81) (Int32.toNatClampNeg x1))) (b0 + 56) (Int32.toNatClampNeg x1) (ea_i (ea_wi h (b0 + 55) (Int32.toNatClampNeg x1) (ea_i h (b0 + 81) (Int32.toNatClampNeg x1))) (b0 + 82) (Int32.toNatClampNeg x1))) (b0 + 83) (Int32.toNatClampNeg x1))) (b0 + 84) (Int32.toNatClampNeg x1))) (b0 + 85) (Int32.toNatClampNeg x1))) (b0 + 50) (Int32.toNatClampNeg x1) (ea_i (ea_wi (ea_wi (ea_wi (ea_wi (ea_wi h (b0 + 55) (Int32.toNatClampNeg x1) (ea_i h (b0 + 81) (Int32.toNatClampNeg x1))) (b0 + 56) (Int32.toNatClampNeg x1) (ea_i (ea_wi h (b0 + 55) (Int32.toNatClampNeg x1) (ea_i h (b0 + 81) (Int32.toNatClampNeg x1))) (b0 + 82) (Int32.toNatClampNeg x1))) (b0 + 57) (Int32.toNatClampNeg x1) (ea_i (ea_wi (ea_wi h (b0 + 55) (Int32.toNatClampNeg x1) (ea_i h (b0 + 81) (Int32.toNatClampNeg x1))) (b0 + 56) (Int32.toNatClampNeg x1) (ea_i (ea_wi h (b0 + 55) (Int32.toNatClampNeg x1) (ea_i h (b0 + 81) (Int32.toNatClampNeg x1))) (b0 + 82) (Int32.toNatClampNeg x1))) (b0 + 83) (Int32.toNatClampNeg x1))) (b0 + 58) (Int32.toNatClampNeg x1) (ea_i (ea_wi (ea_wi (ea_wi h (b0 + 55) (Int32.toNatClampNeg x1) (ea_i h (b0 + 81) (Int32.toNatClampNeg x1))) (b0 + 56) (Int32.toNatClampNeg x1) (ea_i (ea_wi h (b0 + 55) (Int32.toNatClampNeg x1) (ea_i h (b0 + 81) (Int32.toNatClampNeg x1))) (b0 + 82) (Int32.toNatClampNeg x1))) (b0 + 57) (Int32.toNatClampNeg x1) (ea_i (ea_wi (ea_wi h (b0 + 55) (Int32.toNatClampNeg x1) (ea_i h (b0 + 81) (Int32.toNatClampNeg x1))) (b0 + 56) (Int32.toNatClampNeg x1) (ea_i (ea_wi h (b0 + 55) (Int32.toNatClampNeg x1) (ea_i h (b0 + 81) (Int32.toNatClampNeg x1))) (b0 + 82) (Int32.toNatClampNeg x1))) (b0 + 83) (Int32.toNatClampNeg x1))) (b0 + 84) (Int32.toNatClampNeg x1))) (b0 + 59) (Int32.toNatClampNeg x1) (ea_i (ea_wi (ea_wi (ea_wi (ea_wi h (b0 + 55) (Int32.toNatClampNeg x1) (ea_i h (b0 + 81) (Int32.toNatClampNeg x1))) (b0 + 56) (Int32.toNatClampNeg x1) (ea_i (ea_wi h (b0 + 55) (Int32.toNatClampNeg x1) (ea_i h (b0 + 81) (Int32.toNatClampNeg x1))) (b0 + 82) (Int32.toNatClampNeg x1))) (b0 + 57) (Int32.toNatClampNeg x1) (ea_i (ea_wi (ea_wi h (b0 + 55) (Int32.toNatClampNeg x1) (ea_i h (b0 + 81) (Int32.toNatClampNeg x1))) (b0 + 56) (Int32.toNatClampNeg x1) (ea_i (ea_wi h (b0 + 55) (Int32.toNatClampNeg x1) (ea_i h (b0 + 81) (Int32.toNatClampNeg x1))) (b0 + 82) (Int32.toNatClampNeg x1))) (b0 + 83) (Int32.toNatClampNeg x1))) (b0 + 58) (Int32.toNatClampNeg x1) (ea_i (ea_wi (ea_wi (ea_wi h (b0 + 55) (Int32.toNatClampNeg x1) (ea_i h (b0 + 81) (Int32.toNatClampNeg x1))) (b0 + 56) (Int32.toNatClampNeg x1) (ea_i (ea_wi h (b0 + 55) (Int32.toNatClampNeg x1) (ea_i h (b0 + 81) (Int32.toNatClampNeg x1))) (b0 + 82) (Int32.toNatClampNeg x1))) (b0 + 57) (Int32.toNatClampNeg x1) (ea_i (ea_wi (ea_wi h (b0 + 55) (Int32.toNatClampNeg x1) (ea_i h (b0 + 81) (Int32.toNatClampNeg x1))) (b0 + 56) (Int32.toNatClampNeg x1) (ea_i (ea_wi h (b0 + 55) (Int32.toNatClampNeg x1) (ea_i h (b0 + 81) (Int32.toNatClampNeg x1))) (b0 + 82) (Int32.toNatClampNeg x1))) (b0 + 83) (Int32.toNatClampNeg x1))) (b0 + 84) (Int32.toNatClampNeg x1))) (b0 + 85) (Int32.toNatClampNeg x1))) (b0 + 86) (Int32.toNatClampNeg x1))) (b0 + 51) (Int32.toNatClampNeg x1) (ea_i (ea_wi (ea_wi (ea_wi (ea_wi (ea_wi (ea_wi h (b0 + 55) (Int32.toNatClampNeg x1) (ea_i h (b0 + 81) (Int32.toNatClampNeg x1))) (b0 + 56) (Int32.toNatClampNeg x1) (ea_i (ea_wi h (b0 + 55) (Int32.toNatClampNeg x1) (ea_i h (b0 + 81) (Int32.toNatClampNeg x1))) (b0 + 82) (Int32.toNatClampNeg x1))) (b0 + 57) (Int32.toNatClampNeg x1) (ea_i (ea_wi (ea_wi h (b0 + 55) (Int32.toNatClampNeg x1) (ea_i h (b0 + 81) (Int32.toNatClampNeg x1))) (b0 + 56) (Int32.toNatClampNeg x1) (ea_i (ea_wi h (b0 + 55) (Int32.toNatClampNeg x1) (ea_i h (b0 + 81) (Int32.toNatClampNeg x1))) (b0 + 82) (Int32.toNatClampNeg x1))) (b0 + 83) (Int32.toNatClampNeg x1))) (b0 + 58) (Int32.toNatClampNeg x1) (ea_i (ea_wi (ea_wi (ea_wi h (b0 + 55) (Int32.toNatClampNeg x1) (ea_i h (b0 + 81) (Int32.toNatClampNeg x1))) (b0 + 56) (Int32.toNatClampNeg x1) (ea_i (ea_wi h (b0 + 55) (Int32.toNatClampNeg x1) (ea_i h (b0 + 81) (Int32.toNatClampNeg x1))) (b0 + 82) (Int32.toNatClampNeg x1))) (b0 + 57) (Int32.toNatClampNeg x1) (ea_i (ea_wi (ea_wi h (b0 + 55) (Int32.toNatClampNeg x1) (ea_i h (b0 + 81) (Int32.toNatClampNeg x1))) (b0 + 56) (Int32.toNatClampNeg x1) (ea_i (ea_wi h (b0 + 55) (Int32.toNatClampNeg x1) (ea_i h (b0 + 81) (Int32.toNatClampNeg x1))) (b0 + 82) (Int32.toNatClampNeg x1))) (b0 + 83) (Int32.toNatClampNeg x1))) (b0 + 84) (Int32.toNatClampNeg x1))) (b0 + 59) (Int32.toNatClampNeg x1) (ea_i (ea_wi (ea_wi (ea_wi (ea_wi h (b0 + 55) (Int32.toNatClampNeg x1) (ea_i h (b0 + 81) (Int32.toNatClampNeg x1))) (b0 + 56) (Int32.toNatClampNeg x1) (ea_i (ea_wi h (b0 + 55) (Int32.toNatClampNeg x1) (ea_i h (b0 + 81) (Int32.toNatClampNeg x1))) (b0 + 82) (Int32.toNatClampNeg x1))) (b0 + 57) (Int32.toNatClampNeg x1) (ea_i (ea_wi (ea_wi h (b0 + 55) (Int32.toNatClampNeg x1) (ea_i h (b0 + 81) (Int32.toNatClampNeg x1))) (b0 + 56) (Int32.toNatClampNeg x1) (ea_i (ea_wi h (b0 + 55) (Int32.toNatClampNeg x1) (ea_i h (b0 + 81) (Int32.toNatClampNeg x1))) (b0 + 82) (Int32.toNatClampNeg x1))) (b0 + 83) (Int32.toNatClampNeg x1))) (b0 + 58) (Int32.toNatClampNeg x1) (ea_i (ea_wi (ea_wi (ea_wi h (b0 + 55) (Int32.toNatClampNeg x1) (ea_i h (b0 + 81) (Int32.toNatClampNeg x1))) (b0 + 56) (Int32.toNatClampNeg x1) (ea_i (ea_wi h (b0 + 55) (Int32.toNatClampNeg x1) (ea_i h (b0 + 81) (Int32.toNatClampNeg x1))) (b0 + 82) (Int32.toNatClampNeg x1))) (b0 + 57) (Int32.toNatClampNeg x1) (ea_i (ea_wi (ea_wi h (b0 + 55) (Int32.toNatClampNeg x1) (ea_i h (b0 + 81) (Int32.toNatClampNeg x1))) (b0 + 56) (Int32.toNatClampNeg x1) (ea_i (ea_wi h (b0 + 55) (Int32.toNatClampNeg x1) (ea_i h (b0 + 81) (Int32.toNatClampNeg x1))) (b0 + 82) (Int32.toNatClampNeg x1))) (b0 + 83) (Int32.toNatClampNeg x1))) (b0 + 84) (Int32.toNatClampNeg x1))) (b0 + 85) (Int32.toNatClampNeg x1))) (b0 + 50) (Int32.toNatClampNeg x1) (ea_i (ea_wi (ea_wi (ea_wi (ea_wi (ea_wi h (b0 + 55) (Int32.toNatClampNeg x1) (ea_i h (b0 + 81) (Int32.toNatClampNeg x1))) (b0 + 56) (Int32.toNatClampNeg x1) (ea_i (ea_wi h (b0 + 55) (Int32.toNatClampNeg x1) (ea_i h (b0 + 81) (Int32.toNatClampNeg x1))) (b0 + 82) (Int32.toNatClampNeg x1))) (b0 + 57) (Int32.toNatClampNeg x1) (ea_i (ea_wi (ea_wi h (b0 + 55) (Int32.toNatClampNeg x1) (ea_i h (b0 + 81) (Int32.toNatClampNeg x1))) (b0 + 56) (Int32.toNatClampNeg x1) (ea_i (ea_wi h (b0 + 55) (Int32.toNatClampNeg x1) (ea_i h (b0 + 81) (Int32.toNatClampNeg x1))) (b0 + 82) (Int32.toNatClampNeg x1))) (b0 + 83) (Int32.toNatClampNeg x1))) (b0 + 58) (Int32.toNatClampNeg x1) (ea_i (ea_wi (ea_wi (ea_wi h (b0 + 55) (Int32.toNatClampNeg x1) (ea_i h (b0 + 81) (Int32.toNatClampNeg x1))) (b0 + 56) (Int32.toNatClampNeg x1) (ea_i (ea_wi h (b0 + 55) (Int32.toNatClampNeg x1) (ea_i h (b0 + 81) (Int32.toNatClampNeg x1))) (b0 + 82) (Int32.toNatClampNeg x1))) (b0 + 57) (Int32.toNatClampNeg x1) (ea_i (ea_wi (ea_wi h (b0 + 55) (Int32.toNatClampNeg x1) (ea_i h (b0 + 81) (Int32.toNatClampNeg x1))) (b0 + 56) (Int32.toNatClampNeg x1) (ea_i (ea_wi h (b0 + 55) (Int32.toNatClampNeg x1) (ea_i h (b0 + 81) (Int32.toNatClampNeg x1))) (b0 + 82) (Int32.toNatClampNeg x1))) (b0 + 83) (Int32.toNatClampNeg x1))) (b0 + 84) (Int32.toNatClampNeg x1))) (b0 + 59) (Int32.toNatClampNeg x1) (ea_i (ea_wi (ea_wi (ea_wi (ea_wi h (b0 + 55) (Int32.toNatClampNeg x1) (ea_i h (b0 + 81) (Int32.toNatClampNeg x1))) (b0 + 56) (Int32.toNatClampNeg x1) (ea_i (ea_wi h (b0 + 55) (Int32.toNatClampNeg x1) (ea_i h (b0 + 81) (Int32.toNatClampNeg x1))) (b0 + 82) (Int32.toNatClampNeg x1))) (b0 + 57) (Int32.toNatClampNeg x1) (ea_i (ea_wi (ea_wi h (b0 + 55) (Int32.toNatClampNeg x1) (ea_i h (b0 + 81) (Int32.toNatClampNeg x1))) (b0 + 56) (Int32.toNatClampNeg x1) (ea_i (ea_wi h (b0 + 55) (Int32.toNatClampNeg x1) (ea_i h (b0 + 81) (Int32.toNatClampNeg x1))) (b0 + 82) (Int32.toNatClampNeg x1))) (b0 + 83) (Int32.toNatClampNeg x1))) (b0 + 58) (Int32.toNatClampNeg x1) (ea_i (ea_wi (ea_wi (ea_wi h (b0 + 55) (Int32.toNatClampNeg x1) (ea_i h (b0 + 81) (Int32.toNatClampNeg x1))) (b0 + 56) (Int32.toNatClampNeg x1) (ea_i (ea_wi h (b0 + 55) (Int32.toNatClampNeg x1) (ea_i h (b0 + 81) (Int32.toNatClampNeg x1))) (b0 + 82) (Int32.toNatClampNeg x1))) (b0 + 57) (Int32.toNatClampNeg x1) (ea_i (ea_wi (ea_wi h (b0 + 55) (Int32.toNatClampNeg x1) (ea_i h (b0 + 81) (Int32.toNatClampNeg x1))) (b0 + 56) (Int32.toNatClampNeg x1) (ea_i (ea_wi h (b0 + 55) (Int32.toNatClampNeg x1) (ea_i h (b0 + 81) (Int32.toNatClampNeg x1))) (b0 + 82) (Int32.toNatClampNeg x1))) (b0 + 83) (Int32.toNatClampNeg x1))) (b0 + 84) (Int32.toNatClampNeg x1))) (b0 + 85) (Int32.toNatClampNeg x1))) (b0 + 86) (Int32.toNatClampNeg x1))) (b0 + 87) (Int32.toNatClampNeg x1))) (b0 + 89) (Int32.toNatClampNeg x1))) (ea_bn z25) (hs21.1 61 (by decide)).1 (hs21.1 61 (by decide)).2.1 (ea_vpl (hs21.1 61 (by decide)).2.2 z23) ?_
        have hs24 : ShM b0 (ea_wi (ea_wi (ea_wi (ea_wi (ea_wi (ea_wi (ea_wi (ea_wi h (b0 + 55) (Int32.toNatClampNeg x1) (ea_i h (b0 + 81) (Int32.toNatClampNeg x1))) (b0 + 56) (Int32.toNatClampNeg x1) (ea_i (ea_wi h (b0 + 55) (Int32.toNatClampNeg x1) (ea_i h (b0 + 81) (Int32.toNatClampNeg x1))) (b0 + 82) (Int32.toNatClampNeg x1))) (b0 + 57) (Int32.toNatClampNeg x1) (ea_i (ea_wi (ea_wi h (b0 + 55) (Int32.toNatClampNeg x1) (ea_i h (b0 + 81) (Int32.toNatClampNeg x1))) (b0 + 56) (Int32.toNatClampNeg x1) (ea_i (ea_wi h (b0 + 55) (Int32.toNatClampNeg x1) (ea_i h (b0 + 81) (Int32.toNatClampNeg x1))) (b0 + 82) (Int32.toNatClampNeg x1))) (b0 + 83) (Int32.toNatClampNeg x1))) (b0 + 58) (Int32.toNatClampNeg x1) (ea_i (ea_wi (ea_wi (ea_wi h (b0 + 55) (Int32.toNatClampNeg x1) (ea_i h (b0 + 81) (Int32.toNatClampNeg x1))) (b0 + 56) (Int32.toNatClampNeg x1) (ea_i (ea_wi h (b0 + 55) (Int32.toNatClampNeg x1) (ea_i h (b0 + 81) (Int32.toNatClampNeg x1))) (b0 + 82) (Int32.toNatClampNeg x1))) (b0 + 57) (Int32.toNatClampNeg x1) (ea_i (ea_wi (ea_wi h (b0 + 55) (Int32.toNatClampNeg x1) (ea_i h (b0 + 81) (Int32.toNatClampNeg x1))) (b0 + 56) (Int32.toNatClampNeg x1) (ea_i (ea_wi h (b0 + 55) (Int32.toNatClampNeg x1) (ea_i h (b0 + 81) (Int32.toNatClampNeg x1))) (b0 + 82) (Int32.toNatClampNeg x1))) (b0 + 83) (Int32.toNatClampNeg x1))) (b0 + 84) (Int32.toNatClampNeg x1))) (b0 + 59) (Int32.toNatClampNeg x1) (ea_i (ea_wi (ea_wi (ea_wi (ea_wi h (b0 + 55) (Int32.toNatClampNeg x1) (ea_i h (b0 + 81) (Int32.toNatClampNeg x1))) (b0 + 56) (Int32.toNatClampNeg x1) (ea_i (ea_wi h (b0 + 55) (Int32.toNatClampNeg x1) (ea_i h (b0 + 81) (Int32.toNatClampNeg x1))) (b0 + 82) (Int32.toNatClampNeg x1))) (b0 + 57) (Int32.toNatClampNeg x1) (ea_i (ea_wi (ea_wi h (b0 + 55) (Int32.toNatClampNeg x1) (ea_i h (b0 + 81) (Int32.toNatClampNeg x1))) (b0 + 56) (Int32.toNatClampNeg x1) (ea_i (ea_wi h (b0 + 55) (Int32.toNatClampNeg x1) (ea_i h (b0 + 81) (Int32.toNatClampNeg x1))) (b0 + 82) (Int32.toNatClampNeg x1))) (b0 + 83) (Int32.toNatClampNeg x1))) (b0 + 58) (Int32.toNatClampNeg x1) (ea_i (ea_wi (ea_wi (ea_wi h (b0 + 55) (Int32.toNatClampNeg x1) (ea_i h (b0 + 81) (Int32.toNatClampNeg x1))) (b0 + 56) (Int32.toNatClampNeg x1) (ea_i (ea_wi h (b0 + 55) (Int32.toNatClampNeg x1) (ea_i h (b0 + 81) (Int32.toNatClampNeg x1))) (b0 + 82) (Int32.toNatClampNeg x1))) (b0 + 57) (Int32.toNatClampNeg x1) (ea_i (ea_wi (ea_wi h (b0 + 55) (Int32.toNatClampNeg x1) (ea_i h (b0 + 81) (Int32.toNatClampNeg x1))) (b0 + 56) (Int32.toNatClampNeg x1) (ea_i (ea_wi h (b0 + 55) (Int32.toNatClampNeg x1) (ea_i h (b0 + 81) (Int32.toNatClampNeg x1))) (b0 + 82) (Int32.toNatClampNeg x1))) (b0 + 83) (Int32.toNatClampNeg x1))) (b0 + 84) (Int32.toNatClampNeg x1))) (b0 + 85) (Int32.toNatClampNeg x1))) (b0 + 50) (Int32.toNatClampNeg x1) (ea_i (ea_wi (ea_wi (ea_wi (ea_wi (ea_wi h (b0 + 55) (Int32.toNatClampNeg x1) (ea_i h (b0 + 81) (Int32.toNatClampNeg x1))) (b0 + 56) (Int32.toNatClampNeg x1) (ea_i (ea_wi h (b0 + 55) (Int32.toNatClampNeg x1) (ea_i h (b0 + 81) (Int32.toNatClampNeg x1))) (b0 + 82) (Int32.toNatClampNeg x1))) (b0 + 57) (Int32.toNatClampNeg x1) (ea_i (ea_wi (ea_wi h (b0 + 55) (Int32.toNatClampNeg x1) (ea_i h (b0 + 81) (Int32.toNatClampNeg x1))) (b0 + 56) (Int32.toNatClampNeg x1) (ea_i (ea_wi h (b0 + 55) (Int32.toNatClampNeg x1) (ea_i h (b0 + 81) (Int32.toNatClampNeg x1))) (b0 + 82) (Int32.toNatClampNeg x1))) (b0 + 83) (Int32.toNatClampNeg x1))) (b0 + 58) (Int32.toNatClampNeg x1) (ea_i (ea_wi (ea_wi (ea_wi h (b0 + 55) (Int32.toNatClampNeg x1) (ea_i h (b0 + 81) (Int32.toNatClampNeg x1))) (b0 + 56) (Int32.toNatClampNeg x1) (ea_i (ea_wi h (b0 + 55) (Int32.toNatClampNeg x1) (ea_i h (b0 + 81) (Int32.toNatClampNeg x1))) (b0 + 82) (Int32.toNatClampNeg x1))) (b0 + 57) (Int32.toNatClampNeg x1) (ea_i (ea_wi (ea_wi h (b0 + 55) (Int32.toNatClampNeg x1) (ea_i h (b0 + 81) (Int32.toNatClampNeg x1))) (b0 + 56) (Int32.toNatClampNeg x1) (ea_i (ea_wi h (b0 + 55) (Int32.toNatClampNeg x1) (ea_i h (b0 + 81) (Int32.toNatClampNeg x1))) (b0 + 82) (Int32.toNatClampNeg x1))) (b0 + 83) (Int32.toNatClampNeg x1))) (b0 + 84) (Int32.toNatClampNeg x1))) (b0 + 59) (Int32.toNatClampNeg x1) (ea_i (ea_wi (ea_wi (ea_wi (ea_wi h (b0 + 55) (Int32.toNatClampNeg x1) (ea_i h (b0 + 81) (Int32.toNatClampNeg x1))) (b0 + 56) (Int32.toNatClampNeg x1) (ea_i (ea_wi h (b0 + 55) (Int32.toNatClampNeg x1) (ea_i h (b0 + 81) (Int32.toNatClampNeg x1))) (b0 + 82) (Int32.toNatClampNeg x1))) (b0 + 57) (Int32.toNatClampNeg x1) (ea_i (ea_wi (ea_wi h (b0 + 55) (Int32.toNatClampNeg x1) (ea_i h (b0 + 81) (Int32.toNatClampNeg x1))) (b0 + 56) (Int32.toNatClampNeg x1) (ea_i (ea_wi h (b0 + 55) (Int32.toNatClampNeg x1) (ea_i h (b0 + 81) (Int32.toNatClampNeg x1))) (b0 + 82) (Int32.toNatClampNeg x1))) (b0 + 83) (Int32.toNatClampNeg x1))) (b0 + 58) (Int32.toNatClampNeg x1) (ea_i (ea_wi (ea_wi (ea_wi h (b0 + 55) (Int32.toNatClampNeg x1) (ea_i h (b0 + 81) (Int32.toNatClampNeg x1))) (b0 + 56) (Int32.toNatClampNeg x1) (ea_i (ea_wi h (b0 + 55) (Int32.toNatClampNeg x1) (ea_i h (b0 + 81) (Int32.toNatClampNeg x1))) (b0 + 82) (Int32.toNatClampNeg x1))) (b0 + 57) (Int32.toNatClampNeg x1) (ea_i (ea_wi (ea_wi h (b0 + 55) (Int32.toNatClampNeg x1) (ea_i h (b0 + 81) (Int32.toNatClampNeg x1))) (b0 + 56) (Int32.toNatClampNeg x1) (ea_i (ea_wi h (b0 + 55) (Int32.toNatClampNeg x1) (ea_i h (b0 + 81) (Int32.toNatClampNeg x1))) (b0 + 82) (Int32.toNatClampNeg x1))) (b0 + 83) (Int32.toNatClampNeg x1))) (b0 + 84) (Int32.toNatClampNeg x1))) (b0 + 85) (Int32.toNatClampNeg x1))) (b0 + 86) (Int32.toNatClampNeg x1))) (b0 + 51) (Int32.toNatClampNeg x1) (ea_i (ea_wi (ea_wi (ea_wi (ea_wi (ea_wi (ea_wi h (b0 + 55) (Int32.toNatClampNeg x1) (ea_i h (b0 + 81) (Int32.toNatClampNeg x1))) (b0 + 56) (Int32.toNatClampNeg x1) (ea_i (ea_wi h (b0 + 55) (Int32.toNatClampNeg x1) (ea_i h (b0 + 81) (Int32.toNatClampNeg x1))) (b0 + 82) (Int32.toNatClampNeg x1))) (b0 + 57) (Int32.toNatClampNeg x1) (ea_i (ea_wi (ea_wi h (b0 + 55) (Int32.toNatClampNeg x1) (ea_i h (b0 + 81) (Int32.toNatClampNeg x1))) (b0 + 56) (Int32.toNatClampNeg x1) (ea_i (ea_wi h (b0 + 55) (Int32.toNatClampNeg x1) (ea_i h (b0 + 81) (Int32.toNatClampNeg x1))) (b0 + 82) (Int32.toNatClampNeg x1))) (b0 + 83) (Int32.toNatClampNeg x1))) (b0 + 58) (Int32.toNatClampNeg x1) (ea_i (ea_wi (ea_wi (ea_wi h (b0 + 55) (Int32.toNatClampNeg x1) (ea_i h (b0 + 81) (Int32.toNatClampNeg x1))) (b0 + 56) (Int32.toNatClampNeg x1) (ea_i (ea_wi h (b0 + 55) (Int32.toNatClampNeg x1) (ea_i h (b0 + 81) (Int32.toNatClampNeg x1))) (b0 + 82) (Int32.toNatClampNeg x1))) (b0 + 57) (Int32.toNatClampNeg x1) (ea_i (ea_wi (ea_wi h (b0 + 55) (Int32.toNatClampNeg x1) (ea_i h (b0 + 81) (Int32.toNatClampNeg x1))) (b0 + 56) (Int32.toNatClampNeg x1) (ea_i (ea_wi h (b0 + 55) (Int32.toNatClampNeg x1) (ea_i h (b0 + 81) (Int32.toNatClampNeg x1))) (b0 + 82) (Int32.toNatClampNeg x1))) (b0 + 83) (Int32.toNatClampNeg x1))) (b0 + 84) (Int32.toNatClampNeg x1))) (b0 + 59) (Int32.toNatClampNeg x1) (ea_i (ea_wi (ea_wi (ea_wi (ea_wi h (b0 + 55) (Int32.toNatClampNeg x1) (ea_i h (b0 + 81) (Int32.toNatClampNeg x1))) (b0 + 56) (Int32.toNatClampNeg x1) (ea_i (ea_wi h (b0 + 55) (Int32.toNatClampNeg x1) (ea_i h (b0 + 81) (Int32.toNatClampNeg x1))) (b0 + 82) (Int32.toNatClampNeg x1))) (b0 + 57) (Int32.toNatClampNeg x1) (ea_i (ea_wi (ea_wi h (b0 + 55) (Int32.toNatClampNeg x1) (ea_i h (b0 + 81) (Int32.toNatClampNeg x1))) (b0 + 56) (Int32.toNatClampNeg x1) (ea_i (ea_wi h (b0 + 55) (Int32.toNatClampNeg x1) (ea_i h (b0 + 81) (Int32.toNatClampNeg x1))) (b0 + 82) (Int32.toNatClampNeg x1))) (b0 + 83) (Int32.toNatClampNeg x1))) (b0 + 58) (Int32.toNatClampNeg x1) (ea_i (ea_wi (ea_wi (ea_wi h (b0 + 55) (Int32.toNatClampNeg x1) (ea_i h (b0 + 81) (Int32.toNatClampNeg x1))) (b0 + 56) (Int32.toNatClampNeg x1) (ea_i (ea_wi h (b0 + 55) (Int32.toNatClampNeg x1) (ea_i h (b0 + 81) (Int32.toNatClampNeg x1))) (b0 + 82) (Int32.toNatClampNeg x1))) (b0 + 57) (Int32.toNatClampNeg x1) (ea_i (ea_wi (ea_wi h (b0 + 55) (Int32.toNatClampNeg x1) (ea_i h (b0 + 81) (Int32.toNatClampNeg x1))) (b0 + 56) (Int32.toNatClampNeg x1) (ea_i (ea_wi h (b0 + 55) (Int32.toNatClampNeg x1) (ea_i h (b0 + 81) (Int32.toNatClampNeg x1))) (b0 + 82) (Int32.toNatClampNeg x1))) (b0 + 83) (Int32.toNatClampNeg x1))) (b0 + 84) (Int32.toNatClampNeg x1))) (b0 + 85) (Int32.toNatClampNeg x1))) (b0 + 50) (Int32.toNatClampNeg x1) (ea_i (ea_wi (ea_wi (ea_wi (ea_wi (ea_wi h (b0 + 55) (Int32.toNatClampNeg x1) (ea_i h (b0 + 81) (Int32.toNatClampNeg x1))) (b0 + 56) (Int32.toNatClampNeg x1) (ea_i (ea_wi h (b0 + 55) (Int32.toNatClampNeg x1) (ea_i h (b0 + 81) (Int32.toNatClampNeg x1))) (b0 + 82) (Int32.toNatClampNeg x1))) (b0 + 57) (Int32.toNatClampNeg x1) (ea_i (ea_wi (ea_wi h (b0 + 55) (Int32.toNatClampNeg x1) (ea_i h (b0 + 81) (Int32.toNatClampNeg x1))) (b0 + 56) (Int32.toNatClampNeg x1) (ea_i (ea_wi h (b0 + 55) (Int32.toNatClampNeg x1) (ea_i h (b0 + 81) (Int32.toNatClampNeg x1))) (b0 + 82) (Int32.toNatClampNeg x1))) (b0 + 83) (Int32.toNatClampNeg x1))) (b0 + 58) (Int32.toNatClampNeg x1) (ea_i (ea_wi (ea_wi (ea_wi h (b0 + 55) (Int32.toNatClampNeg x1) (ea_i h (b0 + 81) (Int32.toNatClampNeg x1))) (b0 + 56) (Int32.toNatClampNeg x1) (ea_i (ea_wi h (b0 + 55) (Int32.toNatClampNeg x1) (ea_i h (b0 + 81) (Int32.toNatClampNeg x1))) (b0 + 82) (Int32.toNatClampNeg x1))) (b0 + 57) (Int32.toNatClampNeg x1) (ea_i (ea_wi (ea_wi h (b0 + 55) (Int32.toNatClampNeg x1) (ea_i h (b0 + 81) (Int32.toNatClampNeg x1))) (b0 + 56) (Int32.toNatClampNeg x1) (ea_i (ea_wi h (b0 + 55) (Int32.toNatClampNeg x1) (ea_i h (b0 + 81) (Int32.toNatClampNeg x1))) (b0 + 82) (Int32.toNatClampNeg x1))) (b0 + 83) (Int32.toNatClampNeg x1))) (b0 + 84) (Int32.toNatClampNeg x1))) (b0 + 59) (Int32.toNatClampNeg x1) (ea_i (ea_wi (ea_wi (ea_wi (ea_wi h (b0 + 55) (Int32.toNatClampNeg x1) (ea_i h (b0 + 81) (Int32.toNatClampNeg x1))) (b0 + 56) (Int32.toNatClampNeg x1) (ea_i (ea_wi h (b0 + 55) (Int32.toNatClampNeg x1) (ea_i h (b0 + 81) (Int32.toNatClampNeg x1))) (b0 + 82) (Int32.toNatClampNeg x1))) (b0 + 57) (Int32.toNatClampNeg x1) (ea_i (ea_wi (ea_wi h (b0 + 55) (Int32.toNatClampNeg x1) (ea_i h (b0 + 81) (Int32.toNatClampNeg x1))) (b0 + 56) (Int32.toNatClampNeg x1) (ea_i (ea_wi h (b0 + 55) (Int32.toNatClampNeg x1) (ea_i h (b0 + 81) (Int32.toNatClampNeg x1))) (b0 + 82) (Int32.toNatClampNeg x1))) (b0 + 83) (Int32.toNatClampNeg x1))) (b0 + 58) (Int32.toNatClampNeg x1) (ea_i (ea_wi (ea_wi (ea_wi h (b0 + 55) (Int32.toNatClampNeg x1) (ea_i h (b0 + 81) (Int32.toNatClampNeg x1))) (b0 + 56) (Int32.toNatClampNeg x1) (ea_i (ea_wi h (b0 + 55) (Int32.toNatClampNeg x1) (ea_i h (b0 + 81) (Int32.toNatClampNeg x1))) (b0 + 82) (Int32.toNatClampNeg x1))) (b0 + 57) (Int32.toNatClampNeg x1) (ea_i (ea_wi (ea_wi h (b0 + 55) (Int32.toNatClampNeg x1) (ea_i h (b0 + 81) (Int32.toNatClampNeg x1))) (b0 + 56) (Int32.toNatClampNeg x1) (ea_i (ea_wi h (b0 + 55) (Int32.toNatClampNeg x1) (ea_i h (b0 + 81) (Int32.toNatClampNeg x1))) (b0 + 82) (Int32.toNatClampNeg x1))) (b0 + 83) (Int32.toNatClampNeg x1))) (b0 + 84) (Int32.toNatClampNeg x1))) (b0 + 85) (Int32.toNatClampNeg x1))) (b0 + 86) (Int32.toNatClampNeg x1))) (b0 + 87) (Int32.toNatClampNeg x1))) (b0 + 61) (Int32.toNatClampNeg x1) (ea_i (ea_wi (ea_wi (ea_wi (ea_wi (ea_wi (ea_wi (ea_wi h (b0 + 55) (Int32.toNatClampNeg x1) (ea_i h (b0 + 81) (Int32.toNatClampNeg x1))) (b0 + 56) (Int32.toNatClampNeg x1) (ea_i (ea_wi h (b0 + 55) (Int32.toNatClampNeg x1) (ea_i h (b0 + 81) (Int32.toNatClampNeg x1))) (b0 + 82) (Int32.toNatClampNeg x1))) (b0 + 57) (Int32.toNatClampNeg x1) (ea_i (ea_wi (ea_wi h (b0 + 55) (Int32.toNatClampNeg x1) (ea_i h (b0 + 81) (Int32.toNatClampNeg x1))) (b0 + 56) (Int32.toNatClampNeg x1) (ea_i (ea_wi h (b0 + 55) (Int32.toNatClampNeg x1) (ea_i h (b0 + 81) (Int32.toNatClampNeg x1))) (b0 + 82) (Int32.toNatClampNeg x1))) (b0 + 83) (Int32.toNatClampNeg x1))) (b0 + 58) (Int32.toNatClampNeg x1) (ea_i (ea_wi (ea_wi (ea_wi h (b0 + 55) (Int32.toNatClampNeg x1) (ea_i h (b0 + 81) (Int32.toNatClampNeg x1))) (b0 + 56) (Int32.toNatClampNeg x1) (ea_i (ea_wi h (b0 + 55) (Int32.toNatClampNeg x1) (ea_i h (b0 + 81) (Int32.toNatClampNeg x1))) (b0 + 82) (Int32.toNatClampNeg x1))) (b0 + 57) (Int32.toNatClampNeg x1) (ea_i (ea_wi (ea_wi h (b0 + 55) (Int32.toNatClampNeg x1) (ea_i h (b0 + 81) (Int32.toNatClampNeg x1))) (b0 + 56) (Int32.toNatClampNeg x1) (ea_i (ea_wi h (b0 + 55) (Int32.toNatClampNeg x1) (ea_i h (b0 + 81) (Int32.toNatClampNeg x1))) (b0 + 82) (Int32.toNatClampNeg x1))) (b0 + 83) (Int32.toNatClampNeg x1))) (b0 + 84) (Int32.toNatClampNeg x1))) (b0 + 59) (Int32.toNatClampNeg x1) (ea_i (ea_wi (ea_wi (ea_wi (ea_wi h (b0 + 55) (Int32.toNatClampNeg x1) (ea_i h (b0 + 81) (Int32.toNatClampNeg x1))) (b0 + 56) (Int32.toNatClampNeg x1) (ea_i (ea_wi h (b0 + 55) (Int32.toNatClampNeg x1) (ea_i h (b0 + 81) (Int32.toNatClampNeg x1))) (b0 + 82) (Int32.toNatClampNeg x1))) (b0 + 57) (Int32.toNatClampNeg x1) (ea_i (ea_wi (ea_wi h (b0 + 55) (Int32.toNatClampNeg x1) (ea_i h (b0 + 81) (Int32.toNatClampNeg x1))) (b0 + 56) (Int32.toNatClampNeg x1) (ea_i (ea_wi h (b0 + 55) (Int32.toNatClampNeg x1) (ea_i h (b0 + 81) (Int32.toNatClampNeg x1))) (b0 + 82) (Int32.toNatClampNeg x1))) (b0 + 83) (Int32.toNatClampNeg x1))) (b0 + 58) (Int32.toNatClampNeg x1) (ea_i (ea_wi (ea_wi (ea_wi h (b0 + 55) (Int32.toNatClampNeg x1) (ea_i h (b0 + 81) (Int32.toNatClampNeg x1))) (b0 + 56) (Int32.toNatClampNeg x1) (ea_i (ea_wi h (b0 + 55) (Int32.toNatClampNeg x1) (ea_i h (b0 + 81) (Int32.toNatClampNeg x1))) (b0 + 82) (Int32.toNatClampNeg x1))) (b0 + 57) (Int32.toNatClampNeg x1) (ea_i (ea_wi (ea_wi h (b0 + 55) (Int32.toNatClampNeg x1) (ea_i h (b0 + 81) (Int32.toNatClampNeg x1))) (b0 + 56) (Int32.toNatClampNeg x1) (ea_i (ea_wi h (b0 + 55) (Int32.toNatClampNeg x1) (ea_i h (b0 + 81) (Int32.toNatClampNeg x1))) (b0 + 82) (Int32.toNatClampNeg x1))) (b0 + 83) (Int32.toNatClampNeg x1))) (b0 + 84) (Int32.toNatClampNeg x1))) (b0 + 85) (Int32.toNatClampNeg x1))) (b0 + 50) (Int32.toNatClampNeg x1) (ea_i (ea_wi (ea_wi (ea_wi (ea_wi (ea_wi h (b0 + 55) (Int32.toNatClampNeg x1) (ea_i h (b0 + 81) (Int32.toNatClampNeg x1))) (b0 + 56) (Int32.toNatClampNeg x1) (ea_i (ea_wi h (b0 + 55) (Int32.toNatClampNeg x1) (ea_i h (b0 + 81) (Int32.toNatClampNeg x1))) (b0 + 82) (Int32.toNatClampNeg x1))) (b0 + 57) (Int32.toNatClampNeg x1) (ea_i (ea_wi (ea_wi h (b0 + 55) (Int32.toNatClampNeg x1) (ea_i h (b0 + 81) (Int32.toNatClampNeg x1))) (b0 + 56) (Int32.toNatClampNeg x1) (ea_i (ea_wi h (b0 + 55) (Int32.toNatClampNeg x1) (ea_i h (b0 + 81) (Int32.toNatClampNeg x1))) (b0 + 82) (Int32.toNatClampNeg x1))) (b0 + 83) (Int32.toNatClampNeg x1))) (b0 + 58) (Int32.toNatClampNeg x1) (ea_i (ea_wi (ea_wi (ea_wi h (b0 + 55) (Int32.toNatClampNeg x1) (ea_i h (b0 + 81) (Int32.toNatClampNeg x1))) (b0 + 56) (Int32.toNatClampNeg x1) (ea_i (ea_wi h (b0 + 55) (Int32.toNatClampNeg x1) (ea_i h (b0 + 81) (Int32.toNatClampNeg x1))) (b0 + 82) (Int32.toNatClampNeg x1))) (b0 + 57) (Int32.toNatClampNeg x1) (ea_i (ea_wi (ea_wi h (b0 + 55) (Int32.toNatClampNeg x1) (ea_i h (b0 + 81) (Int32.toNatClampNeg x1))) (b0 + 56) (Int32.toNatClampNeg x1) (ea_i (ea_wi h (b0 + 55) (Int32.toNatClampNeg x1) (ea_i h (b0 + 81) (Int32.toNatClampNeg x1))) (b0 + 82) (Int32.toNatClampNeg x1))) (b0 + 83) (Int32.toNatClampNeg x1))) (b0 + 84) (Int32.toNatClampNeg x1))) (b0 + 59) (Int32.toNatClampNeg x1) (ea_i (ea_wi (ea_wi (ea_wi (ea_wi h (b0 + 55) (Int32.toNatClampNeg x1) (ea_i h (b0 + 81) (Int32.toNatClampNeg x1))) (b0 + 56) (Int32.toNatClampNeg x1) (ea_i (ea_wi h (b0 + 55) (Int32.toNatClampNeg x1) (ea_i h (b0 + 81) (Int32.toNatClampNeg x1))) (b0 + 82) (Int32.toNatClampNeg x1))) (b0 + 57) (Int32.toNatClampNeg x1) (ea_i (ea_wi (ea_wi h (b0 + 55) (Int32.toNatClampNeg x1) (ea_i h (b0 + 81) (Int32.toNatClampNeg x1))) (b0 + 56) (Int32.toNatClampNeg x1) (ea_i (ea_wi h (b0 + 55) (Int32.toNatClampNeg x1) (ea_i h (b0 + 81) (Int32.toNatClampNeg x1))) (b0 + 82) (Int32.toNatClampNeg x1))) (b0 + 83) (Int32.toNatClampNeg x1))) (b0 + 58) (Int32.toNatClampNeg x1) (ea_i (ea_wi (ea_wi (ea_wi h (b0 + 55) (Int32.toNatClampNeg x1) (ea_i h (b0 + 81) (Int32.toNatClampNeg x1))) (b0 + 56) (Int32.toNatClampNeg x1) (ea_i (ea_wi h (b0 + 55) (Int32.toNatClampNeg x1) (ea_i h (b0 + 81) (Int32.toNatClampNeg x1))) (b0 + 82) (Int32.toNatClampNeg x1))) (b0 + 57) (Int32.toNatClampNeg x1) (ea_i (ea_wi (ea_wi h (b0 + 55) (Int32.toNatClampNeg x1) (ea_i h (b0 + 81) (Int32.toNatClampNeg x1))) (b0 + 56) (Int32.toNatClampNeg x1) (ea_i (ea_wi h (b0 + 55) (Int32.toNatClampNeg x1) (ea_i h (b0 + 81) (Int32.toNatClampNeg x1))) (b0 + 82) (Int32.toNatClampNeg x1))) (b0 + 83) (Int32.toNatClampNeg x1))) (b0 + 84) (Int32.toNatClampNeg x1))) (b0 + 85) (Int32.toNatClampNeg x1))) (b0 + 86) (Int32.toNatClampNeg x1))) (b0 + 51) (Int32.toNatClampNeg x1) (ea_i (ea_wi (ea_wi (ea_wi (ea_wi (ea_wi (ea_wi h (b0 + 55) (Int32.toNatClampNeg x1) (ea_i h (b0 + 81) (Int32.toNatClampNeg x1))) (b0 + 56) (Int32.toNatClampNeg x1) (ea_i (ea_wi h (b0 + 55) (Int32.toNatClampNeg x1) (ea_i h (b0 + 81) (Int32.toNatClampNeg x1))) (b0 + 82) (Int32.toNatClampNeg x1))) (b0 + 57) (Int32.toNatClampNeg x1) (ea_i (ea_wi (ea_wi h (b0 + 55) (Int32.toNatClampNeg x1) (ea_i h (b0 + 81) (Int32.toNatClampNeg x1))) (b0 + 56) (Int32.toNatClampNeg x1) (ea_i (ea_wi h (b0 + 55) (Int32.toNatClampNeg x1) (ea_i h (b0 + 81) (Int32.toNatClampNeg x1))) (b0 + 82) (Int32.toNatClampNeg x1))) (b0 + 83) (Int32.toNatClampNeg x1))) (b0 + 58) (Int32.toNatClampNeg x1) (ea_i (ea_wi (ea_wi (ea_wi h (b0 + 55) (Int32.toNatClampNeg x1) (ea_i h (b0 + 81) (Int32.toNatClampNeg x1))) (b0 + 56) (Int32.toNatClampNeg x1) (ea_i (ea_wi h (b0 + 55) (Int32.toNatClampNeg x1) (ea_i h (b0 + 81) (Int32.toNatClampNeg x1))) (b0 + 82) (Int32.toNatClampNeg x1))) (b0 + 57) (Int32.toNatClampNeg x1) (ea_i (ea_wi (ea_wi h (b0 + 55) (Int32.toNatClampNeg x1) (ea_i h (b0 + 81) (Int32.toNatClampNeg x1))) (b0 + 56) (Int32.toNatClampNeg x1) (ea_i (ea_wi h (b0 + 55) (Int32.toNatClampNeg x1) (ea_i h (b0 + 81) (Int32.toNatClampNeg x1))) (b0 + 82) (Int32.toNatClampNeg x1))) (b0 + 83) (Int32.toNatClampNeg x1))) (b0 + 84) (Int32.toNatClampNeg x1))) (b0 + 59) (Int32.toNatClampNeg x1) (ea_i (ea_wi (ea_wi (ea_wi (ea_wi h (b0 + 55) (Int32.toNatClampNeg x1) (ea_i h (b0 + 81) (Int32.toNatClampNeg x1))) (b0 + 56) (Int32.toNatClampNeg x1) (ea_i (ea_wi h (b0 + 55) (Int32.toNatClampNeg x1) (ea_i h (b0 + 81) (Int32.toNatClampNeg x1))) (b0 + 82) (Int32.toNatClampNeg x1))) (b0 + 57) (Int32.toNatClampNeg x1) (ea_i (ea_wi (ea_wi h (b0 + 55) (Int32.toNatClampNeg x1) (ea_i h (b0 + 81) (Int32.toNatClampNeg x1))) (b0 + 56) (Int32.toNatClampNeg x1) (ea_i (ea_wi h (b0 + 55) (Int32.toNatClampNeg x1) (ea_i h (b0 + 81) (Int32.toNatClampNeg x1))) (b0 + 82) (Int32.toNatClampNeg x1))) (b0 + 83) (Int32.toNatClampNeg x1))) (b0 + 58) (Int32.toNatClampNeg x1) (ea_i (ea_wi (ea_wi (ea_wi h (b0 + 55) (Int32.toNatClampNeg x1) (ea_i h (b0 + 81) (Int32.toNatClampNeg x1))) (b0 + 56) (Int32.toNatClampNeg x1) (ea_i (ea_wi h (b0 + 55) (Int32.toNatClampNeg x1) (ea_i h (b0 + 81) (Int32.toNatClampNeg x1))) (b0 + 82) (Int32.toNatClampNeg x1))) (b0 + 57) (Int32.toNatClampNeg x1) (ea_i (ea_wi (ea_wi h (b0 + 55) (Int32.toNatClampNeg x1) (ea_i h (b0 + 81) (Int32.toNatClampNeg x1))) (b0 + 56) (Int32.toNatClampNeg x1) (ea_i (ea_wi h (b0 + 55) (Int32.toNatClampNeg x1) (ea_i h (b0 + 81) (Int32.toNatClampNeg x1))) (b0 + 82) (Int32.toNatClampNeg x1))) (b0 + 83) (Int32.toNatClampNeg x1))) (b0 + 84) (Int32.toNatClampNeg x1))) (b0 + 85) (Int32.toNatClampNeg x1))) (b0 + 50) (Int32.toNatClampNeg x1) (ea_i (ea_wi (ea_wi (ea_wi (ea_wi (ea_wi h (b0 + 55) (Int32.toNatClampNeg x1) (ea_i h (b0 + 81) (Int32.toNatClampNeg x1))) (b0 + 56) (Int32.toNatClampNeg x1) (ea_i (ea_wi h (b0 + 55) (Int32.toNatClampNeg x1) (ea_i h (b0 + 81) (Int32.toNatClampNeg x1))) (b0 + 82) (Int32.toNatClampNeg x1))) (b0 + 57) (Int32.toNatClampNeg x1) (ea_i (ea_wi (ea_wi h (b0 + 55) (Int32.toNatClampNeg x1) (ea_i h (b0 + 81) (Int32.toNatClampNeg x1))) (b0 + 56) (Int32.toNatClampNeg x1) (ea_i (ea_wi h (b0 + 55) (Int32.toNatClampNeg x1) (ea_i h (b0 + 81) (Int32.toNatClampNeg x1))) (b0 + 82) (Int32.toNatClampNeg x1))) (b0 + 83) (Int32.toNatClampNeg x1))) (b0 + 58) (Int32.toNatClampNeg x1) (ea_i (ea_wi (ea_wi (ea_wi h (b0 + 55) (Int32.toNatClampNeg x1) (ea_i h (b0 + 81) (Int32.toNatClampNeg x1))) (b0 + 56) (Int32.toNatClampNeg x1) (ea_i (ea_wi h (b0 + 55) (Int32.toNatClampNeg x1) (ea_i h (b0 + 81) (Int32.toNatClampNeg x1))) (b0 + 82) (Int32.toNatClampNeg x1))) (b0 + 57) (Int32.toNatClampNeg x1) (ea_i (ea_wi (ea_wi h (b0 + 55) (Int32.toNatClampNeg x1) (ea_i h (b0 + 81) (Int32.toNatClampNeg x1))) (b0 + 56) (Int32.toNatClampNeg x1) (ea_i (ea_wi h (b0 + 55) (Int32.toNatClampNeg x1) (ea_i h (b0 + 81) (Int32.toNatClampNeg x1))) (b0 + 82) (Int32.toNatClampNeg x1))) (b0 + 83) (Int32.toNatClampNeg x1))) (b0 + 84) (Int32.toNatClampNeg x1))) (b0 + 59) (Int32.toNatClampNeg x1) (ea_i (ea_wi (ea_wi (ea_wi (ea_wi h (b0 + 55) (Int32.toNatClampNeg x1) (ea_i h (b0 + 81) (Int32.toNatClampNeg x1))) (b0 + 56) (Int32.toNatClampNeg x1) (ea_i (ea_wi h (b0 + 55) (Int32.toNatClampNeg x1) (ea_i h (b0 + 81) (Int32.toNatClampNeg x1))) (b0 + 82) (Int32.toNatClampNeg x1))) (b0 + 57) (Int32.toNatClampNeg x1) (ea_i (ea_wi (ea_wi h (b0 + 55) (Int32.toNatClampNeg x1) (ea_i h (b0 + 81) (Int32.toNatClampNeg x1))) (b0 + 56) (Int32.toNatClampNeg x1) (ea_i (ea_wi h (b0 + 55) (Int32.toNatClampNeg x1) (ea_i h (b0 + 81) (Int32.toNatClampNeg x1))) (b0 + 82) (Int32.toNatClampNeg x1))) (b0 + 83) (Int32.toNatClampNeg x1))) (b0 + 58) (Int32.toNatClampNeg x1) (ea_i (ea_wi (ea_wi (ea_wi h (b0 + 55) (Int32.toNatClampNeg x1) (ea_i h (b0 + 81) (Int32.toNatClampNeg x1))) (b0 + 56) (Int32.toNatClampNeg x1) (ea_i (ea_wi h (b0 + 55) (Int32.toNatClampNeg x1) (ea_i h (b0 + 81) (Int32.toNatClampNeg x1))) (b0 + 82) (Int32.toNatClampNeg x1))) (b0 + 57) (Int32.toNatClampNeg x1) (ea_i (ea_wi (ea_wi h (b0 + 55) (Int32.toNatClampNeg x1) (ea_i h (b0 + 81) (Int32.toNatClampNeg x1))) (b0 + 56) (Int32.toNatClampNeg x1) (ea_i (ea_wi h (b0 + 55) (Int32.toNatClampNeg x1) (ea_i h (b0 + 81) (Int32.toNatClampNeg x1))) (b0 + 82) (Int32.toNatClampNeg x1))) (b0 + 83) (Int32.toNatClampNeg x1))) (b0 + 84) (Int32.toNatClampNeg x1))) (b0 + 85) (Int32.toNatClampNeg x1))) (b0 + 86) (Int32.toNatClampNeg x1))) (b0 + 87) (Int32.toNatClampNeg x1))) (b0 + 89) (Int32.toNatClampNeg x1))) := ShM_wi hs21
        refine ea_iinc (pc := 106) (v := 1) (lv' := [(0, vR (some (b0 + 0))), (1, vI (x1 + (1 : Int32)))]) dX12_putsBack_106 1 rfl rfl (Nat.le_of_ble_eq_true rfl) [1, 0] rfl ?_
        refine ea_goto (pc := 109) (tgt := 2) dX12_putsBack_109 rfl ?_
        exact ((ih 2 ((x1 + (1 : Int32)) : Int32) (ea_wi (ea_wi (ea_wi (ea_wi (ea_wi (ea_wi (ea_wi (ea_wi h (b0 + 55) (Int32.toNatClampNeg x1) (ea_i h (b0 + 81) (Int32.toNatClampNeg x1))) (b0 + 56) (Int32.toNatClampNeg x1) (ea_i (ea_wi h (b0 + 55) (Int32.toNatClampNeg x1) (ea_i h (b0 + 81) (Int32.toNatClampNeg x1))) (b0 + 82) (Int32.toNatClampNeg x1))) (b0 + 57) (Int32.toNatClampNeg x1) (ea_i (ea_wi (ea_wi h (b0 + 55) (Int32.toNatClampNeg x1) (ea_i h (b0 + 81) (Int32.toNatClampNeg x1))) (b0 + 56) (Int32.toNatClampNeg x1) (ea_i (ea_wi h (b0 + 55) (Int32.toNatClampNeg x1) (ea_i h (b0 + 81) (Int32.toNatClampNeg x1))) (b0 + 82) (Int32.toNatClampNeg x1))) (b0 + 83) (Int32.toNatClampNeg x1))) (b0 + 58) (Int32.toNatClampNeg x1) (ea_i (ea_wi (ea_wi (ea_wi h (b0 + 55) (Int32.toNatClampNeg x1) (ea_i h (b0 + 81) (Int32.toNatClampNeg x1))) (b0 + 56) (Int32.toNatClampNeg x1) (ea_i (ea_wi h (b0 + 55) (Int32.toNatClampNeg x1) (ea_i h (b0 + 81) (Int32.toNatClampNeg x1))) (b0 + 82) (Int32.toNatClampNeg x1))) (b0 + 57) (Int32.toNatClampNeg x1) (ea_i (ea_wi (ea_wi h (b0 + 55) (Int32.toNatClampNeg x1) (ea_i h (b0 + 81) (Int32.toNatClampNeg x1))) (b0 + 56) (Int32.toNatClampNeg x1) (ea_i (ea_wi h (b0 + 55) (Int32.toNatClampNeg x1) (ea_i h (b0 + 81) (Int32.toNatClampNeg x1))) (b0 + 82) (Int32.toNatClampNeg x1))) (b0 + 83) (Int32.toNatClampNeg x1))) (b0 + 84) (Int32.toNatClampNeg x1))) (b0 + 59) (Int32.toNatClampNeg x1) (ea_i (ea_wi (ea_wi (ea_wi (ea_wi h (b0 + 55) (Int32.toNatClampNeg x1) (ea_i h (b0 + 81) (Int32.toNatClampNeg x1))) (b0 + 56) (Int32.toNatClampNeg x1) (ea_i (ea_wi h (b0 + 55) (Int32.toNatClampNeg x1) (ea_i h (b0 + 81) (Int32.toNatClampNeg x1))) (b0 + 82) (Int32.toNatClampNeg x1))) (b0 + 57) (Int32.toNatClampNeg x1) (ea_i (ea_wi (ea_wi h (b0 + 55) (Int32.toNatClampNeg x1) (ea_i h (b0 + 81) (Int32.toNatClampNeg x1))) (b0 + 56) (Int32.toNatClampNeg x1) (ea_i (ea_wi h (b0 + 55) (Int32.toNatClampNeg x1) (ea_i h (b0 + 81) (Int32.toNatClampNeg x1))) (b0 + 82) (Int32.toNatClampNeg x1))) (b0 + 83) (Int32.toNatClampNeg x1))) (b0 + 58) (Int32.toNatClampNeg x1) (ea_i (ea_wi (ea_wi (ea_wi h (b0 + 55) (Int32.toNatClampNeg x1) (ea_i h (b0 + 81) (Int32.toNatClampNeg x1))) (b0 + 56) (Int32.toNatClampNeg x1) (ea_i (ea_wi h (b0 + 55) (Int32.toNatClampNeg x1) (ea_i h (b0 + 81) (Int32.toNatClampNeg x1))) (b0 + 82) (Int32.toNatClampNeg x1))) (b0 + 57) (Int32.toNatClampNeg x1) (ea_i (ea_wi (ea_wi h (b0 + 55) (Int32.toNatClampNeg x1) (ea_i h (b0 + 81) (Int32.toNatClampNeg x1))) (b0 + 56) (Int32.toNatClampNeg x1) (ea_i (ea_wi h (b0 + 55) (Int32.toNatClampNeg x1) (ea_i h (b0 + 81) (Int32.toNatClampNeg x1))) (b0 + 82) (Int32.toNatClampNeg x1))) (b0 + 83) (Int32.toNatClampNeg x1))) (b0 + 84) (Int32.toNatClampNeg x1))) (b0 + 85) (Int32.toNatClampNeg x1))) (b0 + 50) (Int32.toNatClampNeg x1) (ea_i (ea_wi (ea_wi (ea_wi (ea_wi (ea_wi h (b0 + 55) (Int32.toNatClampNeg x1) (ea_i h (b0 + 81) (Int32.toNatClampNeg x1))) (b0 + 56) (Int32.toNatClampNeg x1) (ea_i (ea_wi h (b0 + 55) (Int32.toNatClampNeg x1) (ea_i h (b0 + 81) (Int32.toNatClampNeg x1))) (b0 + 82) (Int32.toNatClampNeg x1))) (b0 + 57) (Int32.toNatClampNeg x1) (ea_i (ea_wi (ea_wi h (b0 + 55) (Int32.toNatClampNeg x1) (ea_i h (b0 + 81) (Int32.toNatClampNeg x1))) (b0 + 56) (Int32.toNatClampNeg x1) (ea_i (ea_wi h (b0 + 55) (Int32.toNatClampNeg x1) (ea_i h (b0 + 81) (Int32.toNatClampNeg x1))) (b0 + 82) (Int32.toNatClampNeg x1))) (b0 + 83) (Int32.toNatClampNeg x1))) (b0 + 58) (Int32.toNatClampNeg x1) (ea_i (ea_wi (ea_wi (ea_wi h (b0 + 55) (Int32.toNatClampNeg x1) (ea_i h (b0 + 81) (Int32.toNatClampNeg x1))) (b0 + 56) (Int32.toNatClampNeg x1) (ea_i (ea_wi h (b0 + 55) (Int32.toNatClampNeg x1) (ea_i h (b0 + 81) (Int32.toNatClampNeg x1))) (b0 + 82) (Int32.toNatClampNeg x1))) (b0 + 57) (Int32.toNatClampNeg x1) (ea_i (ea_wi (ea_wi h (b0 + 55) (Int32.toNatClampNeg x1) (ea_i h (b0 + 81) (Int32.toNatClampNeg x1))) (b0 + 56) (Int32.toNatClampNeg x1) (ea_i (ea_wi h (b0 + 55) (Int32.toNatClampNeg x1) (ea_i h (b0 + 81) (Int32.toNatClampNeg x1))) (b0 + 82) (Int32.toNatClampNeg x1))) (b0 + 83) (Int32.toNatClampNeg x1))) (b0 + 84) (Int32.toNatClampNeg x1))) (b0 + 59) (Int32.toNatClampNeg x1) (ea_i (ea_wi (ea_wi (ea_wi (ea_wi h (b0 + 55) (Int32.toNatClampNeg x1) (ea_i h (b0 + 81) (Int32.toNatClampNeg x1))) (b0 + 56) (Int32.toNatClampNeg x1) (ea_i (ea_wi h (b0 + 55) (Int32.toNatClampNeg x1) (ea_i h (b0 + 81) (Int32.toNatClampNeg x1))) (b0 + 82) (Int32.toNatClampNeg x1))) (b0 + 57) (Int32.toNatClampNeg x1) (ea_i (ea_wi (ea_wi h (b0 + 55) (Int32.toNatClampNeg x1) (ea_i h (b0 + 81) (Int32.toNatClampNeg x1))) (b0 + 56) (Int32.toNatClampNeg x1) (ea_i (ea_wi h (b0 + 55) (Int32.toNatClampNeg x1) (ea_i h (b0 + 81) (Int32.toNatClampNeg x1))) (b0 + 82) (Int32.toNatClampNeg x1))) (b0 + 83) (Int32.toNatClampNeg x1))) (b0 + 58) (Int32.toNatClampNeg x1) (ea_i (ea_wi (ea_wi (ea_wi h (b0 + 55) (Int32.toNatClampNeg x1) (ea_i h (b0 + 81) (Int32.toNatClampNeg x1))) (b0 + 56) (Int32.toNatClampNeg x1) (ea_i (ea_wi h (b0 + 55) (Int32.toNatClampNeg x1) (ea_i h (b0 + 81) (Int32.toNatClampNeg x1))) (b0 + 82) (Int32.toNatClampNeg x1))) (b0 + 57) (Int32.toNatClampNeg x1) (ea_i (ea_wi (ea_wi h (b0 + 55) (Int32.toNatClampNeg x1) (ea_i h (b0 + 81) (Int32.toNatClampNeg x1))) (b0 + 56) (Int32.toNatClampNeg x1) (ea_i (ea_wi h (b0 + 55) (Int32.toNatClampNeg x1) (ea_i h (b0 + 81) (Int32.toNatClampNeg x1))) (b0 + 82) (Int32.toNatClampNeg x1))) (b0 + 83) (Int32.toNatClampNeg x1))) (b0 + 84) (Int32.toNatClampNeg x1))) (b0 + 85) (Int32.toNatClampNeg x1))) (b0 + 86) (Int32.toNatClampNeg x1))) (b0 + 51) (Int32.toNatClampNeg x1) (ea_i (ea_wi (ea_wi (ea_wi (ea_wi (ea_wi (ea_wi h (b0 + 55) (Int32.toNatClampNeg x1) (ea_i h (b0 + 81) (Int32.toNatClampNeg x1))) (b0 + 56) (Int32.toNatClampNeg x1) (ea_i (ea_wi h (b0 + 55) (Int32.toNatClampNeg x1) (ea_i h (b0 + 81) (Int32.toNatClampNeg x1))) (b0 + 82) (Int32.toNatClampNeg x1))) (b0 + 57) (Int32.toNatClampNeg x1) (ea_i (ea_wi (ea_wi h (b0 + 55) (Int32.toNatClampNeg x1) (ea_i h (b0 + 81) (Int32.toNatClampNeg x1))) (b0 + 56) (Int32.toNatClampNeg x1) (ea_i (ea_wi h (b0 + 55) (Int32.toNatClampNeg x1) (ea_i h (b0 + 81) (Int32.toNatClampNeg x1))) (b0 + 82) (Int32.toNatClampNeg x1))) (b0 + 83) (Int32.toNatClampNeg x1))) (b0 + 58) (Int32.toNatClampNeg x1) (ea_i (ea_wi (ea_wi (ea_wi h (b0 + 55) (Int32.toNatClampNeg x1) (ea_i h (b0 + 81) (Int32.toNatClampNeg x1))) (b0 + 56) (Int32.toNatClampNeg x1) (ea_i (ea_wi h (b0 + 55) (Int32.toNatClampNeg x1) (ea_i h (b0 + 81) (Int32.toNatClampNeg x1))) (b0 + 82) (Int32.toNatClampNeg x1))) (b0 + 57) (Int32.toNatClampNeg x1) (ea_i (ea_wi (ea_wi h (b0 + 55) (Int32.toNatClampNeg x1) (ea_i h (b0 + 81) (Int32.toNatClampNeg x1))) (b0 + 56) (Int32.toNatClampNeg x1) (ea_i (ea_wi h (b0 + 55) (Int32.toNatClampNeg x1) (ea_i h (b0 + 81) (Int32.toNatClampNeg x1))) (b0 + 82) (Int32.toNatClampNeg x1))) (b0 + 83) (Int32.toNatClampNeg x1))) (b0 + 84) (Int32.toNatClampNeg x1))) (b0 + 59) (Int32.toNatClampNeg x1) (ea_i (ea_wi (ea_wi (ea_wi (ea_wi h (b0 + 55) (Int32.toNatClampNeg x1) (ea_i h (b0 + 81) (Int32.toNatClampNeg x1))) (b0 + 56) (Int32.toNatClampNeg x1) (ea_i (ea_wi h (b0 + 55) (Int32.toNatClampNeg x1) (ea_i h (b0 + 81) (Int32.toNatClampNeg x1))) (b0 + 82) (Int32.toNatClampNeg x1))) (b0 + 57) (Int32.toNatClampNeg x1) (ea_i (ea_wi (ea_wi h (b0 + 55) (Int32.toNatClampNeg x1) (ea_i h (b0 + 81) (Int32.toNatClampNeg x1))) (b0 + 56) (Int32.toNatClampNeg x1) (ea_i (ea_wi h (b0 + 55) (Int32.toNatClampNeg x1) (ea_i h (b0 + 81) (Int32.toNatClampNeg x1))) (b0 + 82) (Int32.toNatClampNeg x1))) (b0 + 83) (Int32.toNatClampNeg x1))) (b0 + 58) (Int32.toNatClampNeg x1) (ea_i (ea_wi (ea_wi (ea_wi h (b0 + 55) (Int32.toNatClampNeg x1) (ea_i h (b0 + 81) (Int32.toNatClampNeg x1))) (b0 + 56) (Int32.toNatClampNeg x1) (ea_i (ea_wi h (b0 + 55) (Int32.toNatClampNeg x1) (ea_i h (b0 + 81) (Int32.toNatClampNeg x1))) (b0 + 82) (Int32.toNatClampNeg x1))) (b0 + 57) (Int32.toNatClampNeg x1) (ea_i (ea_wi (ea_wi h (b0 + 55) (Int32.toNatClampNeg x1) (ea_i h (b0 + 81) (Int32.toNatClampNeg x1))) (b0 + 56) (Int32.toNatClampNeg x1) (ea_i (ea_wi h (b0 + 55) (Int32.toNatClampNeg x1) (ea_i h (b0 + 81) (Int32.toNatClampNeg x1))) (b0 + 82) (Int32.toNatClampNeg x1))) (b0 + 83) (Int32.toNatClampNeg x1))) (b0 + 84) (Int32.toNatClampNeg x1))) (b0 + 85) (Int32.toNatClampNeg x1))) (b0 + 50) (Int32.toNatClampNeg x1) (ea_i (ea_wi (ea_wi (ea_wi (ea_wi (ea_wi h (b0 + 55) (Int32.toNatClampNeg x1) (ea_i h (b0 + 81) (Int32.toNatClampNeg x1))) (b0 + 56) (Int32.toNatClampNeg x1) (ea_i (ea_wi h (b0 + 55) (Int32.toNatClampNeg x1) (ea_i h (b0 + 81) (Int32.toNatClampNeg x1))) (b0 + 82) (Int32.toNatClampNeg x1))) (b0 + 57) (Int32.toNatClampNeg x1) (ea_i (ea_wi (ea_wi h (b0 + 55) (Int32.toNatClampNeg x1) (ea_i h (b0 + 81) (Int32.toNatClampNeg x1))) (b0 + 56) (Int32.toNatClampNeg x1) (ea_i (ea_wi h (b0 + 55) (Int32.toNatClampNeg x1) (ea_i h (b0 + 81) (Int32.toNatClampNeg x1))) (b0 + 82) (Int32.toNatClampNeg x1))) (b0 + 83) (Int32.toNatClampNeg x1))) (b0 + 58) (Int32.toNatClampNeg x1) (ea_i (ea_wi (ea_wi (ea_wi h (b0 + 55) (Int32.toNatClampNeg x1) (ea_i h (b0 + 81) (Int32.toNatClampNeg x1))) (b0 + 56) (Int32.toNatClampNeg x1) (ea_i (ea_wi h (b0 + 55) (Int32.toNatClampNeg x1) (ea_i h (b0 + 81) (Int32.toNatClampNeg x1))) (b0 + 82) (Int32.toNatClampNeg x1))) (b0 + 57) (Int32.toNatClampNeg x1) (ea_i (ea_wi (ea_wi h (b0 + 55) (Int32.toNatClampNeg x1) (ea_i h (b0 + 81) (Int32.toNatClampNeg x1))) (b0 + 56) (Int32.toNatClampNeg x1) (ea_i (ea_wi h (b0 + 55) (Int32.toNatClampNeg x1) (ea_i h (b0 + 81) (Int32.toNatClampNeg x1))) (b0 + 82) (Int32.toNatClampNeg x1))) (b0 + 83) (Int32.toNatClampNeg x1))) (b0 + 84) (Int32.toNatClampNeg x1))) (b0 + 59) (Int32.toNatClampNeg x1) (ea_i (ea_wi (ea_wi (ea_wi (ea_wi h (b0 + 55) (Int32.toNatClampNeg x1) (ea_i h (b0 + 81) (Int32.toNatClampNeg x1))) (b0 + 56) (Int32.toNatClampNeg x1) (ea_i (ea_wi h (b0 + 55) (Int32.toNatClampNeg x1) (ea_i h (b0 + 81) (Int32.toNatClampNeg x1))) (b0 + 82) (Int32.toNatClampNeg x1))) (b0 + 57) (Int32.toNatClampNeg x1) (ea_i (ea_wi (ea_wi h (b0 + 55) (Int32.toNatClampNeg x1) (ea_i h (b0 + 81) (Int32.toNatClampNeg x1))) (b0 + 56) (Int32.toNatClampNeg x1) (ea_i (ea_wi h (b0 + 55) (Int32.toNatClampNeg x1) (ea_i h (b0 + 81) (Int32.toNatClampNeg x1))) (b0 + 82) (Int32.toNatClampNeg x1))) (b0 + 83) (Int32.toNatClampNeg x1))) (b0 + 58) (Int32.toNatClampNeg x1) (ea_i (ea_wi (ea_wi (ea_wi h (b0 + 55) (Int32.toNatClampNeg x1) (ea_i h (b0 + 81) (Int32.toNatClampNeg x1))) (b0 + 56) (Int32.toNatClampNeg x1) (ea_i (ea_wi h (b0 + 55) (Int32.toNatClampNeg x1) (ea_i h (b0 + 81) (Int32.toNatClampNeg x1))) (b0 + 82) (Int32.toNatClampNeg x1))) (b0 + 57) (Int32.toNatClampNeg x1) (ea_i (ea_wi (ea_wi h (b0 + 55) (Int32.toNatClampNeg x1) (ea_i h (b0 + 81) (Int32.toNatClampNeg x1))) (b0 + 56) (Int32.toNatClampNeg x1) (ea_i (ea_wi h (b0 + 55) (Int32.toNatClampNeg x1) (ea_i h (b0 + 81) (Int32.toNatClampNeg x1))) (b0 + 82) (Int32.toNatClampNeg x1))) (b0 + 83) (Int32.toNatClampNeg x1))) (b0 + 84) (Int32.toNatClampNeg x1))) (b0 + 85) (Int32.toNatClampNeg x1))) (b0 + 86) (Int32.toNatClampNeg x1))) (b0 + 87) (Int32.toNatClampNeg x1))) (b0 + 61) (Int32.toNatClampNeg x1) (ea_i (ea_wi (ea_wi (ea_wi (ea_wi (ea_wi (ea_wi (ea_wi h (b0 + 55) (Int32.toNatClampNeg x1) (ea_i h (b0 + 81) (Int32.toNatClampNeg x1))) (b0 + 56) (Int32.toNatClampNeg x1) (ea_i (ea_wi h (b0 + 55) (Int32.toNatClampNeg x1) (ea_i h (b0 + 81) (Int32.toNatClampNeg x1))) (b0 + 82) (Int32.toNatClampNeg x1))) (b0 + 57) (Int32.toNatClampNeg x1) (ea_i (ea_wi (ea_wi h (b0 + 55) (Int32.toNatClampNeg x1) (ea_i h (b0 + 81) (Int32.toNatClampNeg x1))) (b0 + 56) (Int32.toNatClampNeg x1) (ea_i (ea_wi h (b0 + 55) (Int32.toNatClampNeg x1) (ea_i h (b0 + 81) (Int32.toNatClampNeg x1))) (b0 + 82) (Int32.toNatClampNeg x1))) (b0 + 83) (Int32.toNatClampNeg x1))) (b0 + 58) (Int32.toNatClampNeg x1) (ea_i (ea_wi (ea_wi (ea_wi h (b0 + 55) (Int32.toNatClampNeg x1) (ea_i h (b0 + 81) (Int32.toNatClampNeg x1))) (b0 + 56) (Int32.toNatClampNeg x1) (ea_i (ea_wi h (b0 + 55) (Int32.toNatClampNeg x1) (ea_i h (b0 + 81) (Int32.toNatClampNeg x1))) (b0 + 82) (Int32.toNatClampNeg x1))) (b0 + 57) (Int32.toNatClampNeg x1) (ea_i (ea_wi (ea_wi h (b0 + 55) (Int32.toNatClampNeg x1) (ea_i h (b0 + 81) (Int32.toNatClampNeg x1))) (b0 + 56) (Int32.toNatClampNeg x1) (ea_i (ea_wi h (b0 + 55) (Int32.toNatClampNeg x1) (ea_i h (b0 + 81) (Int32.toNatClampNeg x1))) (b0 + 82) (Int32.toNatClampNeg x1))) (b0 + 83) (Int32.toNatClampNeg x1))) (b0 + 84) (Int32.toNatClampNeg x1))) (b0 + 59) (Int32.toNatClampNeg x1) (ea_i (ea_wi (ea_wi (ea_wi (ea_wi h (b0 + 55) (Int32.toNatClampNeg x1) (ea_i h (b0 + 81) (Int32.toNatClampNeg x1))) (b0 + 56) (Int32.toNatClampNeg x1) (ea_i (ea_wi h (b0 + 55) (Int32.toNatClampNeg x1) (ea_i h (b0 + 81) (Int32.toNatClampNeg x1))) (b0 + 82) (Int32.toNatClampNeg x1))) (b0 + 57) (Int32.toNatClampNeg x1) (ea_i (ea_wi (ea_wi h (b0 + 55) (Int32.toNatClampNeg x1) (ea_i h (b0 + 81) (Int32.toNatClampNeg x1))) (b0 + 56) (Int32.toNatClampNeg x1) (ea_i (ea_wi h (b0 + 55) (Int32.toNatClampNeg x1) (ea_i h (b0 + 81) (Int32.toNatClampNeg x1))) (b0 + 82) (Int32.toNatClampNeg x1))) (b0 + 83) (Int32.toNatClampNeg x1))) (b0 + 58) (Int32.toNatClampNeg x1) (ea_i (ea_wi (ea_wi (ea_wi h (b0 + 55) (Int32.toNatClampNeg x1) (ea_i h (b0 + 81) (Int32.toNatClampNeg x1))) (b0 + 56) (Int32.toNatClampNeg x1) (ea_i (ea_wi h (b0 + 55) (Int32.toNatClampNeg x1) (ea_i h (b0 + 81) (Int32.toNatClampNeg x1))) (b0 + 82) (Int32.toNatClampNeg x1))) (b0 + 57) (Int32.toNatClampNeg x1) (ea_i (ea_wi (ea_wi h (b0 + 55) (Int32.toNatClampNeg x1) (ea_i h (b0 + 81) (Int32.toNatClampNeg x1))) (b0 + 56) (Int32.toNatClampNeg x1) (ea_i (ea_wi h (b0 + 55) (Int32.toNatClampNeg x1) (ea_i h (b0 + 81) (Int32.toNatClampNeg x1))) (b0 + 82) (Int32.toNatClampNeg x1))) (b0 + 83) (Int32.toNatClampNeg x1))) (b0 + 84) (Int32.toNatClampNeg x1))) (b0 + 85) (Int32.toNatClampNeg x1))) (b0 + 50) (Int32.toNatClampNeg x1) (ea_i (ea_wi (ea_wi (ea_wi (ea_wi (ea_wi h (b0 + 55) (Int32.toNatClampNeg x1) (ea_i h (b0 + 81) (Int32.toNatClampNeg x1))) (b0 + 56) (Int32.toNatClampNeg x1) (ea_i (ea_wi h (b0 + 55) (Int32.toNatClampNeg x1) (ea_i h (b0 + 81) (Int32.toNatClampNeg x1))) (b0 + 82) (Int32.toNatClampNeg x1))) (b0 + 57) (Int32.toNatClampNeg x1) (ea_i (ea_wi (ea_wi h (b0 + 55) (Int32.toNatClampNeg x1) (ea_i h (b0 + 81) (Int32.toNatClampNeg x1))) (b0 + 56) (Int32.toNatClampNeg x1) (ea_i (ea_wi h (b0 + 55) (Int32.toNatClampNeg x1) (ea_i h (b0 + 81) (Int32.toNatClampNeg x1))) (b0 + 82) (Int32.toNatClampNeg x1))) (b0 + 83) (Int32.toNatClampNeg x1))) (b0 + 58) (Int32.toNatClampNeg x1) (ea_i (ea_wi (ea_wi (ea_wi h (b0 + 55) (Int32.toNatClampNeg x1) (ea_i h (b0 + 81) (Int32.toNatClampNeg x1))) (b0 + 56) (Int32.toNatClampNeg x1) (ea_i (ea_wi h (b0 + 55) (Int32.toNatClampNeg x1) (ea_i h (b0 + 81) (Int32.toNatClampNeg x1))) (b0 + 82) (Int32.toNatClampNeg x1))) (b0 + 57) (Int32.toNatClampNeg x1) (ea_i (ea_wi (ea_wi h (b0 + 55) (Int32.toNatClampNeg x1) (ea_i h (b0 + 81) (Int32.toNatClampNeg x1))) (b0 + 56) (Int32.toNatClampNeg x1) (ea_i (ea_wi h (b0 + 55) (Int32.toNatClampNeg x1) (ea_i h (b0 + 81) (Int32.toNatClampNeg x1))) (b0 + 82) (Int32.toNatClampNeg x1))) (b0 + 83) (Int32.toNatClampNeg x1))) (b0 + 84) (Int32.toNatClampNeg x1))) (b0 + 59) (Int32.toNatClampNeg x1) (ea_i (ea_wi (ea_wi (ea_wi (ea_wi h (b0 + 55) (Int32.toNatClampNeg x1) (ea_i h (b0 + 81) (Int32.toNatClampNeg x1))) (b0 + 56) (Int32.toNatClampNeg x1) (ea_i (ea_wi h (b0 + 55) (Int32.toNatClampNeg x1) (ea_i h (b0 + 81) (Int32.toNatClampNeg x1))) (b0 + 82) (Int32.toNatClampNeg x1))) (b0 + 57) (Int32.toNatClampNeg x1) (ea_i (ea_wi (ea_wi h (b0 + 55) (Int32.toNatClampNeg x1) (ea_i h (b0 + 81) (Int32.toNatClampNeg x1))) (b0 + 56) (Int32.toNatClampNeg x1) (ea_i (ea_wi h (b0 + 55) (Int32.toNatClampNeg x1) (ea_i h (b0 + 81) (Int32.toNatClampNeg x1))) (b0 + 82) (Int32.toNatClampNeg x1))) (b0 + 83) (Int32.toNatClampNeg x1))) (b0 + 58) (Int32.toNatClampNeg x1) (ea_i (ea_wi (ea_wi (ea_wi h (b0 + 55) (Int32.toNatClampNeg x1) (ea_i h (b0 + 81) (Int32.toNatClampNeg x1))) (b0 + 56) (Int32.toNatClampNeg x1) (ea_i (ea_wi h (b0 + 55) (Int32.toNatClampNeg x1) (ea_i h (b0 + 81) (Int32.toNatClampNeg x1))) (b0 + 82) (Int32.toNatClampNeg x1))) (b0 + 57) (Int32.toNatClampNeg x1) (ea_i (ea_wi (ea_wi h (b0 + 55) (Int32.toNatClampNeg x1) (ea_i h (b0 + 81) (Int32.toNatClampNeg x1))) (b0 + 56) (Int32.toNatClampNeg x1) (ea_i (ea_wi h (b0 + 55) (Int32.toNatClampNeg x1) (ea_i h (b0 + 81) (Int32.toNatClampNeg x1))) (b0 + 82) (Int32.toNatClampNeg x1))) (b0 + 83) (Int32.toNatClampNeg x1))) (b0 + 84) (Int32.toNatClampNeg x1))) (b0 + 85) (Int32.toNatClampNeg x1))) (b0 + 86) (Int32.toNatClampNeg x1))) (b0 + 51) (Int32.toNatClampNeg x1) (ea_i (ea_wi (ea_wi (ea_wi (ea_wi (ea_wi (ea_wi h (b0 + 55) (Int32.toNatClampNeg x1) (ea_i h (b0 + 81) (Int32.toNatClampNeg x1))) (b0 + 56) (Int32.toNatClampNeg x1) (ea_i (ea_wi h (b0 + 55) (Int32.toNatClampNeg x1) (ea_i h (b0 + 81) (Int32.toNatClampNeg x1))) (b0 + 82) (Int32.toNatClampNeg x1))) (b0 + 57) (Int32.toNatClampNeg x1) (ea_i (ea_wi (ea_wi h (b0 + 55) (Int32.toNatClampNeg x1) (ea_i h (b0 + 81) (Int32.toNatClampNeg x1))) (b0 + 56) (Int32.toNatClampNeg x1) (ea_i (ea_wi h (b0 + 55) (Int32.toNatClampNeg x1) (ea_i h (b0 + 81) (Int32.toNatClampNeg x1))) (b0 + 82) (Int32.toNatClampNeg x1))) (b0 + 83) (Int32.toNatClampNeg x1))) (b0 + 58) (Int32.toNatClampNeg x1) (ea_i (ea_wi (ea_wi (ea_wi h (b0 + 55) (Int32.toNatClampNeg x1) (ea_i h (b0 + 81) (Int32.toNatClampNeg x1))) (b0 + 56) (Int32.toNatClampNeg x1) (ea_i (ea_wi h (b0 + 55) (Int32.toNatClampNeg x1) (ea_i h (b0 + 81) (Int32.toNatClampNeg x1))) (b0 + 82) (Int32.toNatClampNeg x1))) (b0 + 57) (Int32.toNatClampNeg x1) (ea_i (ea_wi (ea_wi h (b0 + 55) (Int32.toNatClampNeg x1) (ea_i h (b0 + 81) (Int32.toNatClampNeg x1))) (b0 + 56) (Int32.toNatClampNeg x1) (ea_i (ea_wi h (b0 + 55) (Int32.toNatClampNeg x1) (ea_i h (b0 + 81) (Int32.toNatClampNeg x1))) (b0 + 82) (Int32.toNatClampNeg x1))) (b0 + 83) (Int32.toNatClampNeg x1))) (b0 + 84) (Int32.toNatClampNeg x1))) (b0 + 59) (Int32.toNatClampNeg x1) (ea_i (ea_wi (ea_wi (ea_wi (ea_wi h (b0 + 55) (Int32.toNatClampNeg x1) (ea_i h (b0 + 81) (Int32.toNatClampNeg x1))) (b0 + 56) (Int32.toNatClampNeg x1) (ea_i (ea_wi h (b0 + 55) (Int32.toNatClampNeg x1) (ea_i h (b0 + 81) (Int32.toNatClampNeg x1))) (b0 + 82) (Int32.toNatClampNeg x1))) (b0 + 57) (Int32.toNatClampNeg x1) (ea_i (ea_wi (ea_wi h (b0 + 55) (Int32.toNatClampNeg x1) (ea_i h (b0 + 81) (Int32.toNatClampNeg x1))) (b0 + 56) (Int32.toNatClampNeg x1) (ea_i (ea_wi h (b0 + 55) (Int32.toNatClampNeg x1) (ea_i h (b0 + 81) (Int32.toNatClampNeg x1))) (b0 + 82) (Int32.toNatClampNeg x1))) (b0 + 83) (Int32.toNatClampNeg x1))) (b0 + 58) (Int32.toNatClampNeg x1) (ea_i (ea_wi (ea_wi (ea_wi h (b0 + 55) (Int32.toNatClampNeg x1) (ea_i h (b0 + 81) (Int32.toNatClampNeg x1))) (b0 + 56) (Int32.toNatClampNeg x1) (ea_i (ea_wi h (b0 + 55) (Int32.toNatClampNeg x1) (ea_i h (b0 + 81) (Int32.toNatClampNeg x1))) (b0 + 82) (Int32.toNatClampNeg x1))) (b0 + 57) (Int32.toNatClampNeg x1) (ea_i (ea_wi (ea_wi h (b0 + 55) (Int32.toNatClampNeg x1) (ea_i h (b0 + 81) (Int32.toNatClampNeg x1))) (b0 + 56) (Int32.toNatClampNeg x1) (ea_i (ea_wi h (b0 + 55) (Int32.toNatClampNeg x1) (ea_i h (b0 + 81) (Int32.toNatClampNeg x1))) (b0 + 82) (Int32.toNatClampNeg x1))) (b0 + 83) (Int32.toNatClampNeg x1))) (b0 + 84) (Int32.toNatClampNeg x1))) (b0 + 85) (Int32.toNatClampNeg x1))) (b0 + 50) (Int32.toNatClampNeg x1) (ea_i (ea_wi (ea_wi (ea_wi (ea_wi (ea_wi h (b0 + 55) (Int32.toNatClampNeg x1) (ea_i h (b0 + 81) (Int32.toNatClampNeg x1))) (b0 + 56) (Int32.toNatClampNeg x1) (ea_i (ea_wi h (b0 + 55) (Int32.toNatClampNeg x1) (ea_i h (b0 + 81) (Int32.toNatClampNeg x1))) (b0 + 82) (Int32.toNatClampNeg x1))) (b0 + 57) (Int32.toNatClampNeg x1) (ea_i (ea_wi (ea_wi h (b0 + 55) (Int32.toNatClampNeg x1) (ea_i h (b0 + 81) (Int32.toNatClampNeg x1))) (b0 + 56) (Int32.toNatClampNeg x1) (ea_i (ea_wi h (b0 + 55) (Int32.toNatClampNeg x1) (ea_i h (b0 + 81) (Int32.toNatClampNeg x1))) (b0 + 82) (Int32.toNatClampNeg x1))) (b0 + 83) (Int32.toNatClampNeg x1))) (b0 + 58) (Int32.toNatClampNeg x1) (ea_i (ea_wi (ea_wi (ea_wi h (b0 + 55) (Int32.toNatClampNeg x1) (ea_i h (b0 + 81) (Int32.toNatClampNeg x1))) (b0 + 56) (Int32.toNatClampNeg x1) (ea_i (ea_wi h (b0 + 55) (Int32.toNatClampNeg x1) (ea_i h (b0 + 81) (Int32.toNatClampNeg x1))) (b0 + 82) (Int32.toNatClampNeg x1))) (b0 + 57) (Int32.toNatClampNeg x1) (ea_i (ea_wi (ea_wi h (b0 + 55) (Int32.toNatClampNeg x1) (ea_i h (b0 + 81) (Int32.toNatClampNeg x1))) (b0 + 56) (Int32.toNatClampNeg x1) (ea_i (ea_wi h (b0 + 55) (Int32.toNatClampNeg x1) (ea_i h (b0 + 81) (Int32.toNatClampNeg x1))) (b0 + 82) (Int32.toNatClampNeg x1))) (b0 + 83) (Int32.toNatClampNeg x1))) (b0 + 84) (Int32.toNatClampNeg x1))) (b0 + 59) (Int32.toNatClampNeg x1) (ea_i (ea_wi (ea_wi (ea_wi (ea_wi h (b0 + 55) (Int32.toNatClampNeg x1) (ea_i h (b0 + 81) (Int32.toNatClampNeg x1))) (b0 + 56) (Int32.toNatClampNeg x1) (ea_i (ea_wi h (b0 + 55) (Int32.toNatClampNeg x1) (ea_i h (b0 + 81) (Int32.toNatClampNeg x1))) (b0 + 82) (Int32.toNatClampNeg x1))) (b0 + 57) (Int32.toNatClampNeg x1) (ea_i (ea_wi (ea_wi h (b0 + 55) (Int32.toNatClampNeg x1) (ea_i h (b0 + 81) (Int32.toNatClampNeg x1))) (b0 + 56) (Int32.toNatClampNeg x1) (ea_i (ea_wi h (b0 + 55) (Int32.toNatClampNeg x1) (ea_i h (b0 + 81) (Int32.toNatClampNeg x1))) (b0 + 82) (Int32.toNatClampNeg x1))) (b0 + 83) (Int32.toNatClampNeg x1))) (b0 + 58) (Int32.toNatClampNeg x1) (ea_i (ea_wi (ea_wi (ea_wi h (b0 + 55) (Int32.toNatClampNeg x1) (ea_i h (b0 + 81) (Int32.toNatClampNeg x1))) (b0 + 56) (Int32.toNatClampNeg x1) (ea_i (ea_wi h (b0 + 55) (Int32.toNatClampNeg x1) (ea_i h (b0 + 81) (Int32.toNatClampNeg x1))) (b0 + 82) (Int32.toNatClampNeg x1))) (b0 + 57) (Int32.toNatClampNeg x1) (ea_i (ea_wi (ea_wi h (b0 + 55) (Int32.toNatClampNeg x1) (ea_i h (b0 + 81) (Int32.toNatClampNeg x1))) (b0 + 56) (Int32.toNatClampNeg x1) (ea_i (ea_wi h (b0 + 55) (Int32.toNatClampNeg x1) (ea_i h (b0 + 81) (Int32.toNatClampNeg x1))) (b0 + 82) (Int32.toNatClampNeg x1))) (b0 + 83) (Int32.toNatClampNeg x1))) (b0 + 84) (Int32.toNatClampNeg x1))) (b0 + 85) (Int32.toNatClampNeg x1))) (b0 + 86) (Int32.toNatClampNeg x1))) (b0 + 87) (Int32.toNatClampNeg x1))) (b0 + 89) (Int32.toNatClampNeg x1))) _ _ E hs24).2.1 rfl)
    intro el
    subst el
    have E := (if_neg (by decide)).symm.trans E
    have E := (if_neg (by decide)).symm.trans E
    have E := (if_pos rfl).symm.trans E
    refine ea_iload_n (pc := 114) dX12_putsBack_114 rfl 1 rfl ?_
    refine ea_bipush (pc := 115) dX12_putsBack_115 (v := 70) rfl ?_
    refine ea_icmp_ge (pc := 117) (tgt := 138) dX12_putsBack_117 rfl (fun c30 => ?_) (fun c30 => ?_)
    · have E := (if_pos c30).symm.trans E
      cases E
      exact ea_return (pc := 138) dX12_putsBack_138 rfl
    · have E := (if_neg c30).symm.trans E
      refine ea_aload_n (pc := 120) dX12_putsBack_120 rfl 0 rfl ?_
      refine ea_getR (pc := 121) dX12_putsBack_121 ec_12 (k := 86) (Nat.le_of_ble_eq_true rfl) rfl (Or.inl ew_1431) (hs.1 0 (by decide)).1 (hs.1 0 (by decide)).2.1 (hs.2 0 86 rfl) ?_
      refine ea_iload_n (pc := 124) dX12_putsBack_124 rfl 1 rfl ?_
      refine ea_aload_n (pc := 125) dX12_putsBack_125 rfl 0 rfl ?_
      refine ea_getR (pc := 126) dX12_putsBack_126 ec_12 (k := 116) (Nat.le_of_ble_eq_true rfl) rfl (Or.inl ew_1461) (hs.1 0 (by decide)).1 (hs.1 0 (by decide)).2.1 (hs.2 0 116 rfl) ?_
      refine ea_iload_n (pc := 129) dX12_putsBack_129 rfl 1 rfl ?_
      obtain ⟨z27, E⟩ := gd_some E
      refine ea_iald (pc := 130) dX12_putsBack_130 (hs.1 88 (by decide)).1 (hs.1 88 (by decide)).2.1 (ea_vpl (hs.1 88 (by decide)).2.2 z27) ?_
      obtain ⟨z28, E⟩ := gd_some E
      refine ea_iast (pc := 131) dX12_putsBack_131 (hs.1 60 (by decide)).1 (hs.1 60 (by decide)).2.1 (ea_vpl (hs.1 60 (by decide)).2.2 z28) ?_
      have hs29 : ShM b0 (ea_wi h (b0 + 60) (Int32.toNatClampNeg x1) (ea_i h (b0 + 88) (Int32.toNatClampNeg x1))) := ShM_wi hs
      refine ea_iinc (pc := 132) (v := 1) (lv' := [(0, vR (some (b0 + 0))), (1, vI (x1 + (1 : Int32)))]) dX12_putsBack_132 1 rfl rfl (Nat.le_of_ble_eq_true rfl) [1, 0] rfl ?_
      refine ea_goto (pc := 135) (tgt := 114) dX12_putsBack_135 rfl ?_
      exact ((ih 114 ((x1 + (1 : Int32)) : Int32) (ea_wi h (b0 + 60) (Int32.toNatClampNeg x1) (ea_i h (b0 + 88) (Int32.toNatClampNeg x1))) _ _ E hs29).2.2 rfl)
noncomputable def qX12_putsBack (b0 : Nat) (h : ea_H) : Option (Unit × ea_H) := gX12_putsBack b0 1000000000 0 0 h
def okX12_putsBack (b0 : Nat) (h : ea_H) : Prop := ∃ x, qX12_putsBack b0 h = some x
noncomputable def wX12_putsBack (b0 : Nat) (h : ea_H) : ea_H := ((qX12_putsBack b0 h).getD ((), h)).2
theorem sX12_putsBack {d : Nat} {b0 : Nat} {h : ea_H} (hd : 1 ≤ d) (hs : ShM b0 h) (K : okX12_putsBack b0 h) : ea_Met mX12_putsBack d [vR (some (b0 + 0))] h none (wX12_putsBack b0 h) := by
  obtain ⟨⟨x, y⟩, K⟩ := K
  unfold wX12_putsBack
  rw [K]
  unfold qX12_putsBack at K
  exact ea_enter rfl (Nat.le_of_ble_eq_true rfl) ((tX12_putsBack hd 1000000000 0 0 h x y K hs).1 rfl)
theorem zX12_putsBack {b0 : Nat} : ∀ (f lbl : Nat) (x1 : Int32) (h : ea_H) (r : Unit) (h' : ea_H), gX12_putsBack b0 f lbl x1 h = some (r, h') → ShM b0 h → ShM b0 h' := by
  intro f
  induction f with
  | zero => intro lbl x1 h r h' E; cases E
  | succ f ih =>
    intro lbl x1 h r h' E hs
    unfold gX12_putsBack at E
    by_cases el0 : lbl = 0
    · have E := (if_pos el0).symm.trans E
      exact ih 2 (0 : Int32) h _ _ E hs
    have E := (if_neg el0).symm.trans E
    by_cases el1 : lbl = 2
    · have E := (if_pos el1).symm.trans E
      by_cases c26 : (ea_i h (b0 + 0) 63) ≤ x1
      · have E := (if_pos c26).symm.trans E
        exact ih 114 (0 : Int32) h _ _ E hs
      have E := (if_neg c26).symm.trans E
      obtain ⟨z1, E⟩ := gd_some E
      obtain ⟨z2, E⟩ := gd_some E
      obtain ⟨z4, E⟩ := gd_some E
      obtain ⟨z5, E⟩ := gd_some E
      obtain ⟨z7, E⟩ := gd_some E
      obtain ⟨z8, E⟩ := gd_some E
      obtain ⟨z10, E⟩ := gd_some E
      obtain ⟨z11, E⟩ := gd_some E
      obtain ⟨z13, E⟩ := gd_some E
      obtain ⟨z14, E⟩ := gd_some E
      obtain ⟨z16, E⟩ := gd_some E
      obtain ⟨z17, E⟩ := gd_some E
      obtain ⟨z19, E⟩ := gd_some E
      obtain ⟨z20, E⟩ := gd_some E
      obtain ⟨z22, E⟩ := gd_some E
      obtain ⟨z23, E⟩ := gd_some E
      obtain ⟨z25, E⟩ := gd_some E
      exact ih 2 ((x1 + (1 : Int32)) : Int32) (ea_wi (ea_wi (ea_wi (ea_wi (ea_wi (ea_wi (ea_wi (ea_wi h (b0 + 55) (Int32.toNatClampNeg x1) (ea_i h (b0 + 81) (Int32.toNatClampNeg x1))) (b0 + 56) (Int32.toNatClampNeg x1) (ea_i (ea_wi h (b0 + 55) (Int32.toNatClampNeg x1) (ea_i h (b0 + 81) (Int32.toNatClampNeg x1))) (b0 + 82) (Int32.toNatClampNeg x1))) (b0 + 57) (Int32.toNatClampNeg x1) (ea_i (ea_wi (ea_wi h (b0 + 55) (Int32.toNatClampNeg x1) (ea_i h (b0 + 81) (Int32.toNatClampNeg x1))) (b0 + 56) (Int32.toNatClampNeg x1) (ea_i (ea_wi h (b0 + 55) (Int32.toNatClampNeg x1) (ea_i h (b0 + 81) (Int32.toNatClampNeg x1))) (b0 + 82) (Int32.toNatClampNeg x1))) (b0 + 83) (Int32.toNatClampNeg x1))) (b0 + 58) (Int32.toNatClampNeg x1) (ea_i (ea_wi (ea_wi (ea_wi h (b0 + 55) (Int32.toNatClampNeg x1) (ea_i h (b0 + 81) (Int32.toNatClampNeg x1))) (b0 + 56) (Int32.toNatClampNeg x1) (ea_i (ea_wi h (b0 + 55) (Int32.toNatClampNeg x1) (ea_i h (b0 + 81) (Int32.toNatClampNeg x1))) (b0 + 82) (Int32.toNatClampNeg x1))) (b0 + 57) (Int32.toNatClampNeg x1) (ea_i (ea_wi (ea_wi h (b0 + 55) (Int32.toNatClampNeg x1) (ea_i h (b0 + 81) (Int32.toNatClampNeg x1))) (b0 + 56) (Int32.toNatClampNeg x1) (ea_i (ea_wi h (b0 + 55) (Int32.toNatClampNeg x1) (ea_i h (b0 + 81) (Int32.toNatClampNeg x1))) (b0 + 82) (Int32.toNatClampNeg x1))) (b0 + 83) (Int32.toNatClampNeg x1))) (b0 + 84) (Int32.toNatClampNeg x1))) (b0 + 59) (Int32.toNatClampNeg x1) (ea_i (ea_wi (ea_wi (ea_wi (ea_wi h (b0 + 55) (Int32.toNatClampNeg x1) (ea_i h (b0 + 81) (Int32.toNatClampNeg x1))) (b0 + 56) (Int32.toNatClampNeg x1) (ea_i (ea_wi h (b0 + 55) (Int32.toNatClampNeg x1) (ea_i h (b0 + 81) (Int32.toNatClampNeg x1))) (b0 + 82) (Int32.toNatClampNeg x1))) (b0 + 57) (Int32.toNatClampNeg x1) (ea_i (ea_wi (ea_wi h (b0 + 55) (Int32.toNatClampNeg x1) (ea_i h (b0 + 81) (Int32.toNatClampNeg x1))) (b0 + 56) (Int32.toNatClampNeg x1) (ea_i (ea_wi h (b0 + 55) (Int32.toNatClampNeg x1) (ea_i h (b0 + 81) (Int32.toNatClampNeg x1))) (b0 + 82) (Int32.toNatClampNeg x1))) (b0 + 83) (Int32.toNatClampNeg x1))) (b0 + 58) (Int32.toNatClampNeg x1) (ea_i (ea_wi (ea_wi (ea_wi h (b0 + 55) (Int32.toNatClampNeg x1) (ea_i h (b0 + 81) (Int32.toNatClampNeg x1))) (b0 + 56) (Int32.toNatClampNeg x1) (ea_i (ea_wi h (b0 + 55) (Int32.toNatClampNeg x1) (ea_i h (b0 + 81) (Int32.toNatClampNeg x1))) (b0 + 82) (Int32.toNatClampNeg x1))) (b0 + 57) (Int32.toNatClampNeg x1) (ea_i (ea_wi (ea_wi h (b0 + 55) (Int32.toNatClampNeg x1) (ea_i h (b0 + 81) (Int32.toNatClampNeg x1))) (b0 + 56) (Int32.toNatClampNeg x1) (ea_i (ea_wi h (b0 + 55) (Int32.toNatClampNeg x1) (ea_i h (b0 + 81) (Int32.toNatClampNeg x1))) (b0 + 82) (Int32.toNatClampNeg x1))) (b0 + 83) (Int32.toNatClampNeg x1))) (b0 + 84) (Int32.toNatClampNeg x1))) (b0 + 85) (Int32.toNatClampNeg x1))) (b0 + 50) (Int32.toNatClampNeg x1) (ea_i (ea_wi (ea_wi (ea_wi (ea_wi (ea_wi h (b0 + 55) (Int32.toNatClampNeg x1) (ea_i h (b0 + 81) (Int32.toNatClampNeg x1))) (b0 + 56) (Int32.toNatClampNeg x1) (ea_i (ea_wi h (b0 + 55) (Int32.toNatClampNeg x1) (ea_i h (b0 + 81) (Int32.toNatClampNeg x1))) (b0 + 82) (Int32.toNatClampNeg x1))) (b0 + 57) (Int32.toNatClampNeg x1) (ea_i (ea_wi (ea_wi h (b0 + 55) (Int32.toNatClampNeg x1) (ea_i h (b0 + 81) (Int32.toNatClampNeg x1))) (b0 + 56) (Int32.toNatClampNeg x1) (ea_i (ea_wi h (b0 + 55) (Int32.toNatClampNeg x1) (ea_i h (b0 + 81) (Int32.toNatClampNeg x1))) (b0 + 82) (Int32.toNatClampNeg x1))) (b0 + 83) (Int32.toNatClampNeg x1))) (b0 + 58) (Int32.toNatClampNeg x1) (ea_i (ea_wi (ea_wi (ea_wi h (b0 + 55) (Int32.toNatClampNeg x1) (ea_i h (b0 + 81) (Int32.toNatClampNeg x1))) (b0 + 56) (Int32.toNatClampNeg x1) (ea_i (ea_wi h (b0 + 55) (Int32.toNatClampNeg x1) (ea_i h (b0 + 81) (Int32.toNatClampNeg x1))) (b0 + 82) (Int32.toNatClampNeg x1))) (b0 + 57) (Int32.toNatClampNeg x1) (ea_i (ea_wi (ea_wi h (b0 + 55) (Int32.toNatClampNeg x1) (ea_i h (b0 + 81) (Int32.toNatClampNeg x1))) (b0 + 56) (Int32.toNatClampNeg x1) (ea_i (ea_wi h (b0 + 55) (Int32.toNatClampNeg x1) (ea_i h (b0 + 81) (Int32.toNatClampNeg x1))) (b0 + 82) (Int32.toNatClampNeg x1))) (b0 + 83) (Int32.toNatClampNeg x1))) (b0 + 84) (Int32.toNatClampNeg x1))) (b0 + 59) (Int32.toNatClampNeg x1) (ea_i (ea_wi (ea_wi (ea_wi (ea_wi h (b0 + 55) (Int32.toNatClampNeg x1) (ea_i h (b0 + 81) (Int32.toNatClampNeg x1))) (b0 + 56) (Int32.toNatClampNeg x1) (ea_i (ea_wi h (b0 + 55) (Int32.toNatClampNeg x1) (ea_i h (b0 + 81) (Int32.toNatClampNeg x1))) (b0 + 82) (Int32.toNatClampNeg x1))) (b0 + 57) (Int32.toNatClampNeg x1) (ea_i (ea_wi (ea_wi h (b0 + 55) (Int32.toNatClampNeg x1) (ea_i h (b0 + 81) (Int32.toNatClampNeg x1))) (b0 + 56) (Int32.toNatClampNeg x1) (ea_i (ea_wi h (b0 + 55) (Int32.toNatClampNeg x1) (ea_i h (b0 + 81) (Int32.toNatClampNeg x1))) (b0 + 82) (Int32.toNatClampNeg x1))) (b0 + 83) (Int32.toNatClampNeg x1))) (b0 + 58) (Int32.toNatClampNeg x1) (ea_i (ea_wi (ea_wi (ea_wi h (b0 + 55) (Int32.toNatClampNeg x1) (ea_i h (b0 + 81) (Int32.toNatClampNeg x1))) (b0 + 56) (Int32.toNatClampNeg x1) (ea_i (ea_wi h (b0 + 55) (Int32.toNatClampNeg x1) (ea_i h (b0 + 81) (Int32.toNatClampNeg x1))) (b0 + 82) (Int32.toNatClampNeg x1))) (b0 + 57) (Int32.toNatClampNeg x1) (ea_i (ea_wi (ea_wi h (b0 + 55) (Int32.toNatClampNeg x1) (ea_i h (b0 + 81) (Int32.toNatClampNeg x1))) (b0 + 56) (Int32.toNatClampNeg x1) (ea_i (ea_wi h (b0 + 55) (Int32.toNatClampNeg x1) (ea_i h (b0 + 81) (Int32.toNatClampNeg x1))) (b0 + 82) (Int32.toNatClampNeg x1))) (b0 + 83) (Int32.toNatClampNeg x1))) (b0 + 84) (Int32.toNatClampNeg x1))) (b0 + 85) (Int32.toNatClampNeg x1))) (b0 + 86) (Int32.toNatClampNeg x1))) (b0 + 51) (Int32.toNatClampNeg x1) (ea_i (ea_wi (ea_wi (ea_wi (ea_wi (ea_wi (ea_wi h (b0 + 55) (Int32.toNatClampNeg x1) (ea_i h (b0 + 81) (Int32.toNatClampNeg x1))) (b0 + 56) (Int32.toNatClampNeg x1) (ea_i (ea_wi h (b0 + 55) (Int32.toNatClampNeg x1) (ea_i h (b0 + 81) (Int32.toNatClampNeg x1))) (b0 + 82) (Int32.toNatClampNeg x1))) (b0 + 57) (Int32.toNatClampNeg x1) (ea_i (ea_wi (ea_wi h (b0 + 55) (Int32.toNatClampNeg x1) (ea_i h (b0 + 81) (Int32.toNatClampNeg x1))) (b0 + 56) (Int32.toNatClampNeg x1) (ea_i (ea_wi h (b0 + 55) (Int32.toNatClampNeg x1) (ea_i h (b0 + 81) (Int32.toNatClampNeg x1))) (b0 + 82) (Int32.toNatClampNeg x1))) (b0 + 83) (Int32.toNatClampNeg x1))) (b0 + 58) (Int32.toNatClampNeg x1) (ea_i (ea_wi (ea_wi (ea_wi h (b0 + 55) (Int32.toNatClampNeg x1) (ea_i h (b0 + 81) (Int32.toNatClampNeg x1))) (b0 + 56) (Int32.toNatClampNeg x1) (ea_i (ea_wi h (b0 + 55) (Int32.toNatClampNeg x1) (ea_i h (b0 + 81) (Int32.toNatClampNeg x1))) (b0 + 82) (Int32.toNatClampNeg x1))) (b0 + 57) (Int32.toNatClampNeg x1) (ea_i (ea_wi (ea_wi h (b0 + 55) (Int32.toNatClampNeg x1) (ea_i h (b0 + 81) (Int32.toNatClampNeg x1))) (b0 + 56) (Int32.toNatClampNeg x1) (ea_i (ea_wi h (b0 + 55) (Int32.toNatClampNeg x1) (ea_i h (b0 + 81) (Int32.toNatClampNeg x1))) (b0 + 82) (Int32.toNatClampNeg x1))) (b0 + 83) (Int32.toNatClampNeg x1))) (b0 + 84) (Int32.toNatClampNeg x1))) (b0 + 59) (Int32.toNatClampNeg x1) (ea_i (ea_wi (ea_wi (ea_wi (ea_wi h (b0 + 55) (Int32.toNatClampNeg x1) (ea_i h (b0 + 81) (Int32.toNatClampNeg x1))) (b0 + 56) (Int32.toNatClampNeg x1) (ea_i (ea_wi h (b0 + 55) (Int32.toNatClampNeg x1) (ea_i h (b0 + 81) (Int32.toNatClampNeg x1))) (b0 + 82) (Int32.toNatClampNeg x1))) (b0 + 57) (Int32.toNatClampNeg x1) (ea_i (ea_wi (ea_wi h (b0 + 55) (Int32.toNatClampNeg x1) (ea_i h (b0 + 81) (Int32.toNatClampNeg x1))) (b0 + 56) (Int32.toNatClampNeg x1) (ea_i (ea_wi h (b0 + 55) (Int32.toNatClampNeg x1) (ea_i h (b0 + 81) (Int32.toNatClampNeg x1))) (b0 + 82) (Int32.toNatClampNeg x1))) (b0 + 83) (Int32.toNatClampNeg x1))) (b0 + 58) (Int32.toNatClampNeg x1) (ea_i (ea_wi (ea_wi (ea_wi h (b0 + 55) (Int32.toNatClampNeg x1) (ea_i h (b0 + 81) (Int32.toNatClampNeg x1))) (b0 + 56) (Int32.toNatClampNeg x1) (ea_i (ea_wi h (b0 + 55) (Int32.toNatClampNeg x1) (ea_i h (b0 + 81) (Int32.toNatClampNeg x1))) (b0 + 82) (Int32.toNatClampNeg x1))) (b0 + 57) (Int32.toNatClampNeg x1) (ea_i (ea_wi (ea_wi h (b0 + 55) (Int32.toNatClampNeg x1) (ea_i h (b0 + 81) (Int32.toNatClampNeg x1))) (b0 + 56) (Int32.toNatClampNeg x1) (ea_i (ea_wi h (b0 + 55) (Int32.toNatClampNeg x1) (ea_i h (b0 + 81) (Int32.toNatClampNeg x1))) (b0 + 82) (Int32.toNatClampNeg x1))) (b0 + 83) (Int32.toNatClampNeg x1))) (b0 + 84) (Int32.toNatClampNeg x1))) (b0 + 85) (Int32.toNatClampNeg x1))) (b0 + 50) (Int32.toNatClampNeg x1) (ea_i (ea_wi (ea_wi (ea_wi (ea_wi (ea_wi h (b0 + 55) (Int32.toNatClampNeg x1) (ea_i h (b0 + 81) (Int32.toNatClampNeg x1))) (b0 + 56) (Int32.toNatClampNeg x1) (ea_i (ea_wi h (b0 + 55) (Int32.toNatClampNeg x1) (ea_i h (b0 + 81) (Int32.toNatClampNeg x1))) (b0 + 82) (Int32.toNatClampNeg x1))) (b0 + 57) (Int32.toNatClampNeg x1) (ea_i (ea_wi (ea_wi h (b0 + 55) (Int32.toNatClampNeg x1) (ea_i h (b0 + 81) (Int32.toNatClampNeg x1))) (b0 + 56) (Int32.toNatClampNeg x1) (ea_i (ea_wi h (b0 + 55) (Int32.toNatClampNeg x1) (ea_i h (b0 + 81) (Int32.toNatClampNeg x1))) (b0 + 82) (Int32.toNatClampNeg x1))) (b0 + 83) (Int32.toNatClampNeg x1))) (b0 + 58) (Int32.toNatClampNeg x1) (ea_i (ea_wi (ea_wi (ea_wi h (b0 + 55) (Int32.toNatClampNeg x1) (ea_i h (b0 + 81) (Int32.toNatClampNeg x1))) (b0 + 56) (Int32.toNatClampNeg x1) (ea_i (ea_wi h (b0 + 55) (Int32.toNatClampNeg x1) (ea_i h (b0 + 81) (Int32.toNatClampNeg x1))) (b0 + 82) (Int32.toNatClampNeg x1))) (b0 + 57) (Int32.toNatClampNeg x1) (ea_i (ea_wi (ea_wi h (b0 + 55) (Int32.toNatClampNeg x1) (ea_i h (b0 + 81) (Int32.toNatClampNeg x1))) (b0 + 56) (Int32.toNatClampNeg x1) (ea_i (ea_wi h (b0 + 55) (Int32.toNatClampNeg x1) (ea_i h (b0 + 81) (Int32.toNatClampNeg x1))) (b0 + 82) (Int32.toNatClampNeg x1))) (b0 + 83) (Int32.toNatClampNeg x1))) (b0 + 84) (Int32.toNatClampNeg x1))) (b0 + 59) (Int32.toNatClampNeg x1) (ea_i (ea_wi (ea_wi (ea_wi (ea_wi h (b0 + 55) (Int32.toNatClampNeg x1) (ea_i h (b0 + 81) (Int32.toNatClampNeg x1))) (b0 + 56) (Int32.toNatClampNeg x1) (ea_i (ea_wi h (b0 + 55) (Int32.toNatClampNeg x1) (ea_i h (b0 + 81) (Int32.toNatClampNeg x1))) (b0 + 82) (Int32.toNatClampNeg x1))) (b0 + 57) (Int32.toNatClampNeg x1) (ea_i (ea_wi (ea_wi h (b0 + 55) (Int32.toNatClampNeg x1) (ea_i h (b0 + 81) (Int32.toNatClampNeg x1))) (b0 + 56) (Int32.toNatClampNeg x1) (ea_i (ea_wi h (b0 + 55) (Int32.toNatClampNeg x1) (ea_i h (b0 + 81) (Int32.toNatClampNeg x1))) (b0 + 82) (Int32.toNatClampNeg x1))) (b0 + 83) (Int32.toNatClampNeg x1))) (b0 + 58) (Int32.toNatClampNeg x1) (ea_i (ea_wi (ea_wi (ea_wi h (b0 + 55) (Int32.toNatClampNeg x1) (ea_i h (b0 + 81) (Int32.toNatClampNeg x1))) (b0 + 56) (Int32.toNatClampNeg x1) (ea_i (ea_wi h (b0 + 55) (Int32.toNatClampNeg x1) (ea_i h (b0 + 81) (Int32.toNatClampNeg x1))) (b0 + 82) (Int32.toNatClampNeg x1))) (b0 + 57) (Int32.toNatClampNeg x1) (ea_i (ea_wi (ea_wi h (b0 + 55) (Int32.toNatClampNeg x1) (ea_i h (b0 + 81) (Int32.toNatClampNeg x1))) (b0 + 56) (Int32.toNatClampNeg x1) (ea_i (ea_wi h (b0 + 55) (Int32.toNatClampNeg x1) (ea_i h (b0 + 81) (Int32.toNatClampNeg x1))) (b0 + 82) (Int32.toNatClampNeg x1))) (b0 + 83) (Int32.toNatClampNeg x1))) (b0 + 84) (Int32.toNatClampNeg x1))) (b0 + 85) (Int32.toNatClampNeg x1))) (b0 + 86) (Int32.toNatClampNeg x1))) (b0 + 87) (Int32.toNatClampNeg x1))) (b0 + 61) (Int32.toNatClampNeg x1) (ea_i (ea_wi (ea_wi (ea_wi (ea_wi (ea_wi (ea_wi (ea_wi h (b0 + 55) (Int32.toNatClampNeg x1) (ea_i h (b0 + 81) (Int32.toNatClampNeg x1))) (b0 + 56) (Int32.toNatClampNeg x1) (ea_i (ea_wi h (b0 + 55) (Int32.toNatClampNeg x1) (ea_i h (b0 + 81) (Int32.toNatClampNeg x1))) (b0 + 82) (Int32.toNatClampNeg x1))) (b0 + 57) (Int32.toNatClampNeg x1) (ea_i (ea_wi (ea_wi h (b0 + 55) (Int32.toNatClampNeg x1) (ea_i h (b0 + 81) (Int32.toNatClampNeg x1))) (b0 + 56) (Int32.toNatClampNeg x1) (ea_i (ea_wi h (b0 + 55) (Int32.toNatClampNeg x1) (ea_i h (b0 + 81) (Int32.toNatClampNeg x1))) (b0 + 82) (Int32.toNatClampNeg x1))) (b0 + 83) (Int32.toNatClampNeg x1))) (b0 + 58) (Int32.toNatClampNeg x1) (ea_i (ea_wi (ea_wi (ea_wi h (b0 + 55) (Int32.toNatClampNeg x1) (ea_i h (b0 + 81) (Int32.toNatClampNeg x1))) (b0 + 56) (Int32.toNatClampNeg x1) (ea_i (ea_wi h (b0 + 55) (Int32.toNatClampNeg x1) (ea_i h (b0 + 81) (Int32.toNatClampNeg x1))) (b0 + 82) (Int32.toNatClampNeg x1))) (b0 + 57) (Int32.toNatClampNeg x1) (ea_i (ea_wi (ea_wi h (b0 + 55) (Int32.toNatClampNeg x1) (ea_i h (b0 + 81) (Int32.toNatClampNeg x1))) (b0 + 56) (Int32.toNatClampNeg x1) (ea_i (ea_wi h (b0 + 55) (Int32.toNatClampNeg x1) (ea_i h (b0 + 81) (Int32.toNatClampNeg x1))) (b0 + 82) (Int32.toNatClampNeg x1))) (b0 + 83) (Int32.toNatClampNeg x1))) (b0 + 84) (Int32.toNatClampNeg x1))) (b0 + 59) (Int32.toNatClampNeg x1) (ea_i (ea_wi (ea_wi (ea_wi (ea_wi h (b0 + 55) (Int32.toNatClampNeg x1) (ea_i h (b0 + 81) (Int32.toNatClampNeg x1))) (b0 + 56) (Int32.toNatClampNeg x1) (ea_i (ea_wi h (b0 + 55) (Int32.toNatClampNeg x1) (ea_i h (b0 + 81) (Int32.toNatClampNeg x1))) (b0 + 82) (Int32.toNatClampNeg x1))) (b0 + 57) (Int32.toNatClampNeg x1) (ea_i (ea_wi (ea_wi h (b0 + 55) (Int32.toNatClampNeg x1) (ea_i h (b0 + 81) (Int32.toNatClampNeg x1))) (b0 + 56) (Int32.toNatClampNeg x1) (ea_i (ea_wi h (b0 + 55) (Int32.toNatClampNeg x1) (ea_i h (b0 + 81) (Int32.toNatClampNeg x1))) (b0 + 82) (Int32.toNatClampNeg x1))) (b0 + 83) (Int32.toNatClampNeg x1))) (b0 + 58) (Int32.toNatClampNeg x1) (ea_i (ea_wi (ea_wi (ea_wi h (b0 + 55) (Int32.toNatClampNeg x1) (ea_i h (b0 + 81) (Int32.toNatClampNeg x1))) (b0 + 56) (Int32.toNatClampNeg x1) (ea_i (ea_wi h (b0 + 55) (Int32.toNatClampNeg x1) (ea_i h (b0 + 81) (Int32.toNatClampNeg x1))) (b0 + 82) (Int32.toNatClampNeg x1))) (b0 + 57) (Int32.toNatClampNeg x1) (ea_i (ea_wi (ea_wi h (b0 + 55) (Int32.toNatClampNeg x1) (ea_i h (b0 + 81) (Int32.toNatClampNeg x1))) (b0 + 56) (Int32.toNatClampNeg x1) (ea_i (ea_wi h (b0 + 55) (Int32.toNatClampNeg x1) (ea_i h (b0 + 81) (Int32.toNatClampNeg x1))) (b0 + 82) (Int32.toNatClampNeg x1))) (b0 + 83) (Int32.toNatClampNeg x1))) (b0 + 84) (Int32.toNatClampNeg x1))) (b0 + 85) (Int32.toNatClampNeg x1))) (b0 + 50) (Int32.toNatClampNeg x1) (ea_i (ea_wi (ea_wi (ea_wi (ea_wi (ea_wi h (b0 + 55) (Int32.toNatClampNeg x1) (ea_i h (b0 + 81) (Int32.toNatClampNeg x1))) (b0 + 56) (Int32.toNatClampNeg x1) (ea_i (ea_wi h (b0 + 55) (Int32.toNatClampNeg x1) (ea_i h (b0 + 81) (Int32.toNatClampNeg x1))) (b0 + 82) (Int32.toNatClampNeg x1))) (b0 + 57) (Int32.toNatClampNeg x1) (ea_i (ea_wi (ea_wi h (b0 + 55) (Int32.toNatClampNeg x1) (ea_i h (b0 + 81) (Int32.toNatClampNeg x1))) (b0 + 56) (Int32.toNatClampNeg x1) (ea_i (ea_wi h (b0 + 55) (Int32.toNatClampNeg x1) (ea_i h (b0 + 81) (Int32.toNatClampNeg x1))) (b0 + 82) (Int32.toNatClampNeg x1))) (b0 + 83) (Int32.toNatClampNeg x1))) (b0 + 58) (Int32.toNatClampNeg x1) (ea_i (ea_wi (ea_wi (ea_wi h (b0 + 55) (Int32.toNatClampNeg x1) (ea_i h (b0 + 81) (Int32.toNatClampNeg x1))) (b0 + 56) (Int32.toNatClampNeg x1) (ea_i (ea_wi h (b0 + 55) (Int32.toNatClampNeg x1) (ea_i h (b0 + 81) (Int32.toNatClampNeg x1))) (b0 + 82) (Int32.toNatClampNeg x1))) (b0 + 57) (Int32.toNatClampNeg x1) (ea_i (ea_wi (ea_wi h (b0 + 55) (Int32.toNatClampNeg x1) (ea_i h (b0 + 81) (Int32.toNatClampNeg x1))) (b0 + 56) (Int32.toNatClampNeg x1) (ea_i (ea_wi h (b0 + 55) (Int32.toNatClampNeg x1) (ea_i h (b0 + 81) (Int32.toNatClampNeg x1))) (b0 + 82) (Int32.toNatClampNeg x1))) (b0 + 83) (Int32.toNatClampNeg x1))) (b0 + 84) (Int32.toNatClampNeg x1))) (b0 + 59) (Int32.toNatClampNeg x1) (ea_i (ea_wi (ea_wi (ea_wi (ea_wi h (b0 + 55) (Int32.toNatClampNeg x1) (ea_i h (b0 + 81) (Int32.toNatClampNeg x1))) (b0 + 56) (Int32.toNatClampNeg x1) (ea_i (ea_wi h (b0 + 55) (Int32.toNatClampNeg x1) (ea_i h (b0 + 81) (Int32.toNatClampNeg x1))) (b0 + 82) (Int32.toNatClampNeg x1))) (b0 + 57) (Int32.toNatClampNeg x1) (ea_i (ea_wi (ea_wi h (b0 + 55) (Int32.toNatClampNeg x1) (ea_i h (b0 + 81) (Int32.toNatClampNeg x1))) (b0 + 56) (Int32.toNatClampNeg x1) (ea_i (ea_wi h (b0 + 55) (Int32.toNatClampNeg x1) (ea_i h (b0 + 81) (Int32.toNatClampNeg x1))) (b0 + 82) (Int32.toNatClampNeg x1))) (b0 + 83) (Int32.toNatClampNeg x1))) (b0 + 58) (Int32.toNatClampNeg x1) (ea_i (ea_wi (ea_wi (ea_wi h (b0 + 55) (Int32.toNatClampNeg x1) (ea_i h (b0 + 81) (Int32.toNatClampNeg x1))) (b0 + 56) (Int32.toNatClampNeg x1) (ea_i (ea_wi h (b0 + 55) (Int32.toNatClampNeg x1) (ea_i h (b0 + 81) (Int32.toNatClampNeg x1))) (b0 + 82) (Int32.toNatClampNeg x1))) (b0 + 57) (Int32.toNatClampNeg x1) (ea_i (ea_wi (ea_wi h (b0 + 55) (Int32.toNatClampNeg x1) (ea_i h (b0 + 81) (Int32.toNatClampNeg x1))) (b0 + 56) (Int32.toNatClampNeg x1) (ea_i (ea_wi h (b0 + 55) (Int32.toNatClampNeg x1) (ea_i h (b0 + 81) (Int32.toNatClampNeg x1))) (b0 + 82) (Int32.toNatClampNeg x1))) (b0 + 83) (Int32.toNatClampNeg x1))) (b0 + 84) (Int32.toNatClampNeg x1))) (b0 + 85) (Int32.toNatClampNeg x1))) (b0 + 86) (Int32.toNatClampNeg x1))) (b0 + 51) (Int32.toNatClampNeg x1) (ea_i (ea_wi (ea_wi (ea_wi (ea_wi (ea_wi (ea_wi h (b0 + 55) (Int32.toNatClampNeg x1) (ea_i h (b0 + 81) (Int32.toNatClampNeg x1))) (b0 + 56) (Int32.toNatClampNeg x1) (ea_i (ea_wi h (b0 + 55) (Int32.toNatClampNeg x1) (ea_i h (b0 + 81) (Int32.toNatClampNeg x1))) (b0 + 82) (Int32.toNatClampNeg x1))) (b0 + 57) (Int32.toNatClampNeg x1) (ea_i (ea_wi (ea_wi h (b0 + 55) (Int32.toNatClampNeg x1) (ea_i h (b0 + 81) (Int32.toNatClampNeg x1))) (b0 + 56) (Int32.toNatClampNeg x1) (ea_i (ea_wi h (b0 + 55) (Int32.toNatClampNeg x1) (ea_i h (b0 + 81) (Int32.toNatClampNeg x1))) (b0 + 82) (Int32.toNatClampNeg x1))) (b0 + 83) (Int32.toNatClampNeg x1))) (b0 + 58) (Int32.toNatClampNeg x1) (ea_i (ea_wi (ea_wi (ea_wi h (b0 + 55) (Int32.toNatClampNeg x1) (ea_i h (b0 + 81) (Int32.toNatClampNeg x1))) (b0 + 56) (Int32.toNatClampNeg x1) (ea_i (ea_wi h (b0 + 55) (Int32.toNatClampNeg x1) (ea_i h (b0 + 81) (Int32.toNatClampNeg x1))) (b0 + 82) (Int32.toNatClampNeg x1))) (b0 + 57) (Int32.toNatClampNeg x1) (ea_i (ea_wi (ea_wi h (b0 + 55) (Int32.toNatClampNeg x1) (ea_i h (b0 + 81) (Int32.toNatClampNeg x1))) (b0 + 56) (Int32.toNatClampNeg x1) (ea_i (ea_wi h (b0 + 55) (Int32.toNatClampNeg x1) (ea_i h (b0 + 81) (Int32.toNatClampNeg x1))) (b0 + 82) (Int32.toNatClampNeg x1))) (b0 + 83) (Int32.toNatClampNeg x1))) (b0 + 84) (Int32.toNatClampNeg x1))) (b0 + 59) (Int32.toNatClampNeg x1) (ea_i (ea_wi (ea_wi (ea_wi (ea_wi h (b0 + 55) (Int32.toNatClampNeg x1) (ea_i h (b0 + 81) (Int32.toNatClampNeg x1))) (b0 + 56) (Int32.toNatClampNeg x1) (ea_i (ea_wi h (b0 + 55) (Int32.toNatClampNeg x1) (ea_i h (b0 + 81) (Int32.toNatClampNeg x1))) (b0 + 82) (Int32.toNatClampNeg x1))) (b0 + 57) (Int32.toNatClampNeg x1) (ea_i (ea_wi (ea_wi h (b0 + 55) (Int32.toNatClampNeg x1) (ea_i h (b0 + 81) (Int32.toNatClampNeg x1))) (b0 + 56) (Int32.toNatClampNeg x1) (ea_i (ea_wi h (b0 + 55) (Int32.toNatClampNeg x1) (ea_i h (b0 + 81) (Int32.toNatClampNeg x1))) (b0 + 82) (Int32.toNatClampNeg x1))) (b0 + 83) (Int32.toNatClampNeg x1))) (b0 + 58) (Int32.toNatClampNeg x1) (ea_i (ea_wi (ea_wi (ea_wi h (b0 + 55) (Int32.toNatClampNeg x1) (ea_i h (b0 + 81) (Int32.toNatClampNeg x1))) (b0 + 56) (Int32.toNatClampNeg x1) (ea_i (ea_wi h (b0 + 55) (Int32.toNatClampNeg x1) (ea_i h (b0 + 81) (Int32.toNatClampNeg x1))) (b0 + 82) (Int32.toNatClampNeg x1))) (b0 + 57) (Int32.toNatClampNeg x1) (ea_i (ea_wi (ea_wi h (b0 + 55) (Int32.toNatClampNeg x1) (ea_i h (b0 + 81) (Int32.toNatClampNeg x1))) (b0 + 56) (Int32.toNatClampNeg x1) (ea_i (ea_wi h (b0 + 55) (Int32.toNatClampNeg x1) (ea_i h (b0 + 81) (Int32.toNatClampNeg x1))) (b0 + 82) (Int32.toNatClampNeg x1))) (b0 + 83) (Int32.toNatClampNeg x1))) (b0 + 84) (Int32.toNatClampNeg x1))) (b0 + 85) (Int32.toNatClampNeg x1))) (b0 + 50) (Int32.toNatClampNeg x1) (ea_i (ea_wi (ea_wi (ea_wi (ea_wi (ea_wi h (b0 + 55) (Int32.toNatClampNeg x1) (ea_i h (b0 + 81) (Int32.toNatClampNeg x1))) (b0 + 56) (Int32.toNatClampNeg x1) (ea_i (ea_wi h (b0 + 55) (Int32.toNatClampNeg x1) (ea_i h (b0 + 81) (Int32.toNatClampNeg x1))) (b0 + 82) (Int32.toNatClampNeg x1))) (b0 + 57) (Int32.toNatClampNeg x1) (ea_i (ea_wi (ea_wi h (b0 + 55) (Int32.toNatClampNeg x1) (ea_i h (b0 + 81) (Int32.toNatClampNeg x1))) (b0 + 56) (Int32.toNatClampNeg x1) (ea_i (ea_wi h (b0 + 55) (Int32.toNatClampNeg x1) (ea_i h (b0 + 81) (Int32.toNatClampNeg x1))) (b0 + 82) (Int32.toNatClampNeg x1))) (b0 + 83) (Int32.toNatClampNeg x1))) (b0 + 58) (Int32.toNatClampNeg x1) (ea_i (ea_wi (ea_wi (ea_wi h (b0 + 55) (Int32.toNatClampNeg x1) (ea_i h (b0 + 81) (Int32.toNatClampNeg x1))) (b0 + 56) (Int32.toNatClampNeg x1) (ea_i (ea_wi h (b0 + 55) (Int32.toNatClampNeg x1) (ea_i h (b0 + 81) (Int32.toNatClampNeg x1))) (b0 + 82) (Int32.toNatClampNeg x1))) (b0 + 57) (Int32.toNatClampNeg x1) (ea_i (ea_wi (ea_wi h (b0 + 55) (Int32.toNatClampNeg x1) (ea_i h (b0 + 81) (Int32.toNatClampNeg x1))) (b0 + 56) (Int32.toNatClampNeg x1) (ea_i (ea_wi h (b0 + 55) (Int32.toNatClampNeg x1) (ea_i h (b0 + 81) (Int32.toNatClampNeg x1))) (b0 + 82) (Int32.toNatClampNeg x1))) (b0 + 83) (Int32.toNatClampNeg x1))) (b0 + 84) (Int32.toNatClampNeg x1))) (b0 + 59) (Int32.toNatClampNeg x1) (ea_i (ea_wi (ea_wi (ea_wi (ea_wi h (b0 + 55) (Int32.toNatClampNeg x1) (ea_i h (b0 + 81) (Int32.toNatClampNeg x1))) (b0 + 56) (Int32.toNatClampNeg x1) (ea_i (ea_wi h (b0 + 55) (Int32.toNatClampNeg x1) (ea_i h (b0 + 81) (Int32.toNatClampNeg x1))) (b0 + 82) (Int32.toNatClampNeg x1))) (b0 + 57) (Int32.toNatClampNeg x1) (ea_i (ea_wi (ea_wi h (b0 + 55) (Int32.toNatClampNeg x1) (ea_i h (b0 + 81) (Int32.toNatClampNeg x1))) (b0 + 56) (Int32.toNatClampNeg x1) (ea_i (ea_wi h (b0 + 55) (Int32.toNatClampNeg x1) (ea_i h (b0 + 81) (Int32.toNatClampNeg x1))) (b0 + 82) (Int32.toNatClampNeg x1))) (b0 + 83) (Int32.toNatClampNeg x1))) (b0 + 58) (Int32.toNatClampNeg x1) (ea_i (ea_wi (ea_wi (ea_wi h (b0 + 55) (Int32.toNatClampNeg x1) (ea_i h (b0 + 81) (Int32.toNatClampNeg x1))) (b0 + 56) (Int32.toNatClampNeg x1) (ea_i (ea_wi h (b0 + 55) (Int32.toNatClampNeg x1) (ea_i h (b0 + 81) (Int32.toNatClampNeg x1))) (b0 + 82) (Int32.toNatClampNeg x1))) (b0 + 57) (Int32.toNatClampNeg x1) (ea_i (ea_wi (ea_wi h (b0 + 55) (Int32.toNatClampNeg x1) (ea_i h (b0 + 81) (Int32.toNatClampNeg x1))) (b0 + 56) (Int32.toNatClampNeg x1) (ea_i (ea_wi h (b0 + 55) (Int32.toNatClampNeg x1) (ea_i h (b0 + 81) (Int32.toNatClampNeg x1))) (b0 + 82) (Int32.toNatClampNeg x1))) (b0 + 83) (Int32.toNatClampNeg x1))) (b0 + 84) (Int32.toNatClampNeg x1))) (b0 + 85) (Int32.toNatClampNeg x1))) (b0 + 86) (Int32.toNatClampNeg x1))) (b0 + 87) (Int32.toNatClampNeg x1))) (b0 + 89) (Int32.toNatClampNeg x1))) _ _ E (ShM_wi (ShM_wi (ShM_wi (ShM_wi (ShM_wi (ShM_wi (ShM_wi (ShM_wi hs))))))))
    have E := (if_neg el1).symm.trans E
    by_cases el2 : lbl = 114
    · have E := (if_pos el2).symm.trans E
      by_cases c30 : (70 : Int32) ≤ x1
      · have E := (if_pos c30).symm.trans E
        cases E
        exact hs
      have E := (if_neg c30).symm.trans E
      obtain ⟨z27, E⟩ := gd_some E
      obtain ⟨z28, E⟩ := gd_some E
      exact ih 114 ((x1 + (1 : Int32)) : Int32) (ea_wi h (b0 + 60) (Int32.toNatClampNeg x1) (ea_i h (b0 + 88) (Int32.toNatClampNeg x1))) _ _ E (ShM_wi hs)
    have E := (if_neg el2).symm.trans E
    cases E
theorem shX12_putsBack {b0 : Nat} {h : ea_H} (hs : ShM b0 h) : ShM b0 (wX12_putsBack b0 h) := by
  unfold wX12_putsBack
  cases K : qX12_putsBack b0 h with
  | none => exact hs
  | some x => obtain ⟨x, y⟩ := x; unfold qX12_putsBack at K; exact zX12_putsBack _ _ _ _ _ _ K hs
noncomputable def gX12_goings (b0 : Nat) : Nat → Nat → Int32 → Int32 → Int32 → Int32 → Int32 → Int32 → Int32 → Int32 → Int32 → Int32 → Int32 → Int32 → ea_H → Option (Unit × ea_H)
  | 0, _, _, _, _, _, _, _, _, _, _, _, _, _, _ => none
  | f + 1, lbl, sx0, x1, x10, x11, x12, x2, x3, x4, x5, x6, x7, x8, h =>
    if lbl = 0 then (gd (vp_in x1 1000) (gd (vp_in x1 1000) (gd ((okX12_townOf b0 ((ea_i h (b0 + 12) (Int32.toNatClampNeg x1)) : Int32) ((ea_i h (b0 + 13) (Int32.toNatClampNeg x1)) : Int32) h)) (gX12_goings b0 f 22 0 (x1 : Int32) 0 0 0 ((ea_i h (b0 + 12) (Int32.toNatClampNeg x1)) : Int32) ((vX12_townOf b0 ((ea_i h (b0 + 12) (Int32.toNatClampNeg x1)) : Int32) ((ea_i h (b0 + 13) (Int32.toNatClampNeg x1)) : Int32) h) : Int32) (0 : Int32) 0 0 0 0 h)))) else
    if lbl = 22 then (if (ea_i h (b0 + 0) 1) ≤ x4 then (gd (vp_in x3 12) (gd (vp_in x1 1000) (gd (vp_in x3 12) (gX12_goings b0 f 320 0 (x1 : Int32) 0 0 0 0 0 (0 : Int32) 0 0 0 0 (ea_wi (ea_wi h (b0 + 19) (Int32.toNatClampNeg x1) (ea_i h (b0 + 20) (Int32.toNatClampNeg x3))) (b0 + 20) (Int32.toNatClampNeg x3) x1))))) else (gd (vp_in (((12 : Int32) * x1) + x4) 12000) (gd (vp_in x1 1000) (gX12_goings b0 f 60 0 (x1 : Int32) 0 0 0 (x2 : Int32) (x3 : Int32) (x4 : Int32) ((((12 : Int32) * x1) + x4) : Int32) (((ea_i (ea_wi h (b0 + 15) (Int32.toNatClampNeg (((12 : Int32) * x1) + x4)) 1000000) (b0 + 13) (Int32.toNatClampNeg x1)) + (1 : Int32)) : Int32) 0 0 (ea_wi h (b0 + 15) (Int32.toNatClampNeg (((12 : Int32) * x1) + x4)) 1000000))))) else
    if lbl = 60 then (gd (vp_in (x2 / (7 : Int32)) 10) (if (ea_i h (b0 + 2) (Int32.toNatClampNeg (x2 / (7 : Int32)))) ≤ x6 then (gX12_goings b0 f 22 0 (x1 : Int32) 0 0 0 (x2 : Int32) (x3 : Int32) ((x4 + (1 : Int32)) : Int32) 0 0 0 0 h) else (gd ((okX12_comesAt b0 (x2 : Int32) (x6 : Int32) h)) (if (vX12_comesAt b0 (x2 : Int32) (x6 : Int32) h) ≤ (10079 : Int32) then (gd ((okX12_townOf b0 (x2 : Int32) (x6 : Int32) h)) (if (vX12_townOf b0 (x2 : Int32) (x6 : Int32) h) = x4 then (gX12_goings b0 f 122 ((-1) : Int32) (x1 : Int32) 0 0 0 (x2 : Int32) (x3 : Int32) (x4 : Int32) (x5 : Int32) (x6 : Int32) ((vX12_comesAt b0 (x2 : Int32) (x6 : Int32) h) : Int32) ((vX12_townOf b0 (x2 : Int32) (x6 : Int32) h) : Int32) h) else (gd ((okX12_going b0 ((vX12_townOf b0 (x2 : Int32) (x6 : Int32) h) : Int32) ((vX12_comesAt b0 (x2 : Int32) (x6 : Int32) h) : Int32) h)) (gX12_goings b0 f 122 ((vX12_going b0 ((vX12_townOf b0 (x2 : Int32) (x6 : Int32) h) : Int32) ((vX12_comesAt b0 (x2 : Int32) (x6 : Int32) h) : Int32) h) : Int32) (x1 : Int32) 0 0 0 (x2 : Int32) (x3 : Int32) (x4 : Int32) (x5 : Int32) (x6 : Int32) ((vX12_comesAt b0 (x2 : Int32) (x6 : Int32) h) : Int32) ((vX12_townOf b0 (x2 : Int32) (x6 : Int32) h) : Int32) (wX12_going b0 ((vX12_townOf b0 (x2 : Int32) (x6 : Int32) h) : Int32) ((vX12_comesAt b0 (x2 : Int32) (x6 : Int32) h) : Int32) h))))) else (gX12_goings b0 f 22 0 (x1 : Int32) 0 0 0 (x2 : Int32) (x3 : Int32) ((x4 + (1 : Int32)) : Int32) 0 0 0 0 h))))) else
    if lbl = 122 then (if sx0 = ((-1) : Int32) then (gX12_goings b0 f 147 ((-1) : Int32) (x1 : Int32) 0 0 0 (x2 : Int32) (x3 : Int32) (x4 : Int32) (x5 : Int32) (x6 : Int32) (x7 : Int32) (x8 : Int32) h) else (gd (vp_in (((12 : Int32) * sx0) + x4) 12000) (gX12_goings b0 f 147 ((ea_i h (b0 + 18) (Int32.toNatClampNeg (((12 : Int32) * sx0) + x4))) : Int32) (x1 : Int32) 0 0 0 (x2 : Int32) (x3 : Int32) (x4 : Int32) (x5 : Int32) (x6 : Int32) (x7 : Int32) (x8 : Int32) h))) else
    if lbl = 147 then (if x8 = x4 then (gX12_goings b0 f 165 0 (x1 : Int32) (sx0 : Int32) 0 0 (x2 : Int32) (x3 : Int32) (x4 : Int32) (x5 : Int32) (x6 : Int32) (x7 : Int32) (x8 : Int32) h) else (if sx0 = ((-1) : Int32) then (gX12_goings b0 f 60 0 (x1 : Int32) 0 0 0 (x2 : Int32) (x3 : Int32) (x4 : Int32) (x5 : Int32) ((x6 + (1 : Int32)) : Int32) 0 0 h) else (gX12_goings b0 f 165 0 (x1 : Int32) (sx0 : Int32) 0 0 (x2 : Int32) (x3 : Int32) (x4 : Int32) (x5 : Int32) (x6 : Int32) (x7 : Int32) (x8 : Int32) h))) else
    if lbl = 165 then (if x8 = x4 then (gX12_goings b0 f 190 (x7 : Int32) (x1 : Int32) (x10 : Int32) 0 0 (x2 : Int32) (x3 : Int32) (x4 : Int32) (x5 : Int32) (x6 : Int32) 0 (x8 : Int32) h) else (gd (vp_in (((12 : Int32) * x10) + x4) 12000) (gX12_goings b0 f 190 ((ea_i h (b0 + 15) (Int32.toNatClampNeg (((12 : Int32) * x10) + x4))) : Int32) (x1 : Int32) (x10 : Int32) 0 0 (x2 : Int32) (x3 : Int32) (x4 : Int32) (x5 : Int32) (x6 : Int32) 0 (x8 : Int32) h))) else
    if lbl = 190 then (if x8 = x4 then (gX12_goings b0 f 218 (1 : Int32) (x1 : Int32) 0 (sx0 : Int32) 0 (x2 : Int32) (x3 : Int32) (x4 : Int32) (x5 : Int32) (x6 : Int32) 0 0 h) else (gd (vp_in (((12 : Int32) * x10) + x4) 12000) (gX12_goings b0 f 218 (((ea_i h (b0 + 16) (Int32.toNatClampNeg (((12 : Int32) * x10) + x4))) + (1 : Int32)) : Int32) (x1 : Int32) 0 (sx0 : Int32) 0 (x2 : Int32) (x3 : Int32) (x4 : Int32) (x5 : Int32) (x6 : Int32) 0 0 h))) else
    if lbl = 218 then (gd (vp_in x5 12000) (if (ea_i h (b0 + 15) (Int32.toNatClampNeg x5)) < x11 then (gX12_goings b0 f 60 0 (x1 : Int32) 0 0 0 (x2 : Int32) (x3 : Int32) (x4 : Int32) (x5 : Int32) ((x6 + (1 : Int32)) : Int32) 0 0 h) else (gd (vp_in x5 12000) (if x11 = (ea_i h (b0 + 15) (Int32.toNatClampNeg x5)) then (gd (vp_in x5 12000) (if sx0 < (ea_i h (b0 + 16) (Int32.toNatClampNeg x5)) then (gX12_goings b0 f 259 0 (x1 : Int32) 0 (x11 : Int32) (sx0 : Int32) (x2 : Int32) (x3 : Int32) (x4 : Int32) (x5 : Int32) (x6 : Int32) 0 0 h) else (gX12_goings b0 f 60 0 (x1 : Int32) 0 0 0 (x2 : Int32) (x3 : Int32) (x4 : Int32) (x5 : Int32) ((x6 + (1 : Int32)) : Int32) 0 0 h))) else (gX12_goings b0 f 259 0 (x1 : Int32) 0 (x11 : Int32) (sx0 : Int32) (x2 : Int32) (x3 : Int32) (x4 : Int32) (x5 : Int32) (x6 : Int32) 0 0 h))))) else
    if lbl = 259 then (gd (vp_in x5 12000) (gd (vp_in x5 12000) (gd (vp_in x5 12000) (gX12_goings b0 f 60 0 (x1 : Int32) 0 0 0 (x2 : Int32) (x3 : Int32) (x4 : Int32) (x5 : Int32) ((x6 + (1 : Int32)) : Int32) 0 0 (ea_wi (ea_wi (ea_wi h (b0 + 15) (Int32.toNatClampNeg x5) x11) (b0 + 16) (Int32.toNatClampNeg x5) x12) (b0 + 17) (Int32.toNatClampNeg x5) x6))))) else
    if lbl = 320 then (if (ea_i h (b0 + 0) 1) ≤ x4 then (some ((), h)) else (gd (vp_in x1 1000) (if (ea_i h (b0 + 19) (Int32.toNatClampNeg x1)) = ((-1) : Int32) then (gX12_goings b0 f 360 ((-1) : Int32) (x1 : Int32) 0 0 0 0 0 (x4 : Int32) 0 0 0 0 h) else (gd (vp_in x1 1000) (gd (vp_in (((12 : Int32) * (ea_i h (b0 + 19) (Int32.toNatClampNeg x1))) + x4) 12000) (gX12_goings b0 f 360 ((ea_i h (b0 + 18) (Int32.toNatClampNeg (((12 : Int32) * (ea_i h (b0 + 19) (Int32.toNatClampNeg x1))) + x4))) : Int32) (x1 : Int32) 0 0 0 0 0 (x4 : Int32) 0 0 0 0 h)))))) else
    if lbl = 360 then (gd (vp_in (((12 : Int32) * x1) + x4) 12000) (if (ea_i h (b0 + 15) (Int32.toNatClampNeg (((12 : Int32) * x1) + x4))) = (1000000 : Int32) then (gd (vp_in (((12 : Int32) * x1) + x4) 12000) (gX12_goings b0 f 320 0 (x1 : Int32) 0 0 0 0 0 ((x4 + (1 : Int32)) : Int32) 0 0 0 0 (ea_wi h (b0 + 18) (Int32.toNatClampNeg (((12 : Int32) * x1) + x4)) sx0))) else (if sx0 = ((-1) : Int32) then (gd (vp_in (((12 : Int32) * x1) + x4) 12000) (gX12_goings b0 f 320 0 (x1 : Int32) 0 0 0 0 0 ((x4 + (1 : Int32)) : Int32) 0 0 0 0 (ea_wi h (b0 + 18) (Int32.toNatClampNeg (((12 : Int32) * x1) + x4)) x1))) else (gd ((okX12_isBetter b0 (x1 : Int32) (sx0 : Int32) (x4 : Int32) h)) (if (vX12_isBetter b0 (x1 : Int32) (sx0 : Int32) (x4 : Int32) h) = (0 : Int32) then (gd (vp_in (((12 : Int32) * x1) + x4) 12000) (gX12_goings b0 f 320 0 (x1 : Int32) 0 0 0 0 0 ((x4 + (1 : Int32)) : Int32) 0 0 0 0 (ea_wi h (b0 + 18) (Int32.toNatClampNeg (((12 : Int32) * x1) + x4)) sx0))) else (gd (vp_in (((12 : Int32) * x1) + x4) 12000) (gX12_goings b0 f 320 0 (x1 : Int32) 0 0 0 0 0 ((x4 + (1 : Int32)) : Int32) 0 0 0 0 (ea_wi h (b0 + 18) (Int32.toNatClampNeg (((12 : Int32) * x1) + x4)) x1)))))))) else none
theorem tX12_goings {d : Nat} {b0 : Nat} {h0 : ea_H} (hd : 2 ≤ d) : ∀ (f lbl : Nat) (sx0 : Int32) (x1 : Int32) (x10 : Int32) (x11 : Int32) (x12 : Int32) (x2 : Int32) (x3 : Int32) (x4 : Int32) (x5 : Int32) (x6 : Int32) (x7 : Int32) (x8 : Int32) (h : ea_H) (r : Unit) (h' : ea_H), gX12_goings b0 f lbl sx0 x1 x10 x11 x12 x2 x3 x4 x5 x6 x7 x8 h = some (r, h') → ShM b0 h → (lbl = 0 → ea_W mX12_goings d h0 none h' 0 [(0, vR (some (b0 + 0))), (1, vI x1)] [] h) ∧ (lbl = 22 → ea_W mX12_goings d h0 none h' 22 [(0, vR (some (b0 + 0))), (1, vI x1), (2, vI x2), (3, vI x3), (4, vI x4)] [] h) ∧ (lbl = 60 → ea_W mX12_goings d h0 none h' 60 [(0, vR (some (b0 + 0))), (1, vI x1), (2, vI x2), (3, vI x3), (4, vI x4), (5, vI x5), (6, vI x6)] [] h) ∧ (lbl = 122 → ea_W mX12_goings d h0 none h' 122 [(0, vR (some (b0 + 0))), (1, vI x1), (2, vI x2), (3, vI x3), (4, vI x4), (5, vI x5), (6, vI x6), (7, vI x7), (8, vI x8)] [vI sx0] h) ∧ (lbl = 147 → ea_W mX12_goings d h0 none h' 147 [(0, vR (some (b0 + 0))), (1, vI x1), (2, vI x2), (3, vI x3), (4, vI x4), (5, vI x5), (6, vI x6), (7, vI x7), (8, vI x8)] [vI sx0] h) ∧ (lbl = 165 → ea_W mX12_goings d h0 none h' 165 [(0, vR (some (b0 + 0))), (1, vI x1), (2, vI x2), (3, vI x3), (4, vI x4), (5, vI x5), (6, vI x6), (7, vI x7), (8, vI x8), (10, vI x10)] [] h) ∧ (lbl = 190 → ea_W mX12_goings d h0 none h' 190 [(0, vR (some (b0 + 0))), (1, vI x1), (2, vI x2), (3, vI x3), (4, vI x4), (5, vI x5), (6, vI x6), (8, vI x8), (10, vI x10)] [vI sx0] h) ∧ (lbl = 218 → ea_W mX12_goings d h0 none h' 218 [(0, vR (some (b0 + 0))), (1, vI x1), (2, vI x2), (3, vI x3), (4, vI x4), (5, vI x5), (6, vI x6), (11, vI x11)] [vI sx0] h) ∧ (lbl = 259 → ea_W mX12_goings d h0 none h' 259 [(0, vR (some (b0 + 0))), (1, vI x1), (2, vI x2), (3, vI x3), (4, vI x4), (5, vI x5), (6, vI x6), (11, vI x11), (12, vI x12)] [] h) ∧ (lbl = 320 → ea_W mX12_goings d h0 none h' 320 [(0, vR (some (b0 + 0))), (1, vI x1), (4, vI x4)] [] h) ∧ (lbl = 360 → ea_W mX12_goings d h0 none h' 360 [(0, vR (some (b0 + 0))), (1, vI x1), (4, vI x4)] [vI sx0] h) := by
  intro f
  induction f with
  | zero => intro lbl sx0 x1 x10 x11 x12 x2 x3 x4 x5 x6 x7 x8 h r h' E; cases E
  | succ f ih =>
    intro lbl sx0 x1 x10 x11 x12 x2 x3 x4 x5 x6 x7 x8 h r h' E hs
    unfold gX12_goings at E
    refine ⟨?_, ?_⟩
    · intro el
      subst el
      have E := (if_pos rfl).symm.trans E
      refine ea_aload_n (pc := 0) dX12_goings_0 rfl 0 rfl ?_
      refine ea_getR (pc := 1) dX12_goings_1 ec_12 (k := 16) (Nat.le_of_ble_eq_true rfl) rfl (Or.inl ew_1361) (hs.1 0 (by decide)).1 (hs.1 0 (by decide)).2.1 (hs.2 0 16 rfl) ?_
      refine ea_iload_n (pc := 4) dX12_goings_4 rfl 1 rfl ?_
      obtain ⟨z1, E⟩ := gd_some E
      refine ea_iald (pc := 5) dX12_goings_5 (hs.1 12 (by decide)).1 (hs.1 12 (by decide)).2.1 (ea_vpl (hs.1 12 (by decide)).2.2 z1) ?_
      refine ea_istore_n (pc := 6) (lv' := [(0, vR (some (b0 + 0))), (1, vI x1), (2, vI (ea_i h (b0 + 12) (Int32.toNatClampNeg x1)))]) dX12_goings_6 rfl (Nat.le_of_ble_eq_true rfl) [1, 2, 0] rfl ?_
      refine ea_aload_n (pc := 7) dX12_goings_7 rfl 0 rfl ?_
      refine ea_iload_n (pc := 8) dX12_goings_8 rfl 2 rfl ?_
      refine ea_aload_n (pc := 9) dX12_goings_9 rfl 0 rfl ?_
      refine ea_getR (pc := 10) dX12_goings_10 ec_12 (k := 17) (Nat.le_of_ble_eq_true rfl) rfl (Or.inl ew_1362) (hs.1 0 (by decide)).1 (hs.1 0 (by decide)).2.1 (hs.2 0 17 rfl) ?_
      refine ea_iload_n (pc := 13) dX12_goings_13 rfl 1 rfl ?_
      obtain ⟨z2, E⟩ := gd_some E
      refine ea_iald (pc := 14) dX12_goings_14 (hs.1 13 (by decide)).1 (hs.1 13 (by decide)).2.1 (ea_vpl (hs.1 13 (by decide)).2.2 z2) ?_
      obtain ⟨z3, E⟩ := gd_some E
      refine ea_callV (pc := 15) (d' := d - 1) (As := [vI (ea_i h (b0 + 12) (Int32.toNatClampNeg x1)), vI (ea_i h (b0 + 13) (Int32.toNatClampNeg x1))]) (st := []) dX12_goings_15 kX12_townOf (sX12_townOf (d := d - 1) (by omega) hs z3) (by omega) rfl (Nat.le_of_ble_eq_true rfl) ew_1798 ew_1800 ew_60 (ci := 12) rfl (by decide) (hs.1 0 (by decide)).1 (hs.1 0 (by decide)).2.1 ?_
      refine ea_istore_n (pc := 18) (lv' := [(0, vR (some (b0 + 0))), (1, vI x1), (2, vI (ea_i h (b0 + 12) (Int32.toNatClampNeg x1))), (3, vI (vX12_townOf b0 ((ea_i h (b0 + 12) (Int32.toNatClampNeg x1)) : Int32) ((ea_i h (b0 + 13) (Int32.toNatClampNeg x1)) : Int32) h))]) dX12_goings_18 rfl (Nat.le_of_ble_eq_true rfl) [1, 2, 3, 0] rfl ?_
      refine ea_iconst (pc := 19) dX12_goings_19 (v := 0) rfl ?_
      refine ea_istore (pc := 20) (lv' := [(0, vR (some (b0 + 0))), (1, vI x1), (2, vI (ea_i h (b0 + 12) (Int32.toNatClampNeg x1))), (3, vI (vX12_townOf b0 ((ea_i h (b0 + 12) (Int32.toNatClampNeg x1)) : Int32) ((ea_i h (b0 + 13) (Int32.toNatClampNeg x1)) : Int32) h)), (4, vI 0)]) dX12_goings_20 (Nat.le_of_ble_eq_true rfl) [1, 2, 3, 4, 0] rfl ?_
      exact ((ih 22 0 (x1 : Int32) 0 0 0 ((ea_i h (b0 + 12) (Int32.toNatClampNeg x1)) : Int32) ((vX12_townOf b0 ((ea_i h (b0 + 12) (Int32.toNatClampNeg x1)) : Int32) ((ea_i h (b0 + 13) (Int32.toNatClampNeg x1)) : Int32) h) : Int32) (0 : Int32) 0 0 0 0 h _ _ E hs).2.1 rfl)
    refine ⟨?_, ?_⟩
    · intro el
      subst el
      have E := (if_neg (by decide)).symm.trans E
      have E := (if_pos rfl).symm.trans E
      refine ea_iload (pc := 22) dX12_goings_22 4 rfl ?_
      refine ea_aload_n (pc := 24) dX12_goings_24 rfl 0 rfl ?_
      refine ea_getI (pc := 25) dX12_goings_25 ec_12 (k := 1) (Nat.le_of_ble_eq_true rfl) rfl (Or.inl ew_1346) (hs.1 0 (by decide)).1 (hs.1 0 (by decide)).2.1 ?_
      refine ea_icmp_ge (pc := 28) (tgt := 298) dX12_goings_28 rfl (fun c12 => ?_) (fun c12 => ?_)
      · have E := (if_pos c12).symm.trans E
        refine ea_aload_n (pc := 298) dX12_goings_298 rfl 0 rfl ?_
        refine ea_getR (pc := 299) dX12_goings_299 ec_12 (k := 23) (Nat.le_of_ble_eq_true rfl) rfl (Or.inl ew_1368) (hs.1 0 (by decide)).1 (hs.1 0 (by decide)).2.1 (hs.2 0 23 rfl) ?_
        refine ea_iload_n (pc := 302) dX12_goings_302 rfl 1 rfl ?_
        refine ea_aload_n (pc := 303) dX12_goings_303 rfl 0 rfl ?_
        refine ea_getR (pc := 304) dX12_goings_304 ec_12 (k := 24) (Nat.le_of_ble_eq_true rfl) rfl (Or.inl ew_1369) (hs.1 0 (by decide)).1 (hs.1 0 (by decide)).2.1 (hs.2 0 24 rfl) ?_
        refine ea_iload_n (pc := 307) dX12_goings_307 rfl 3 rfl ?_
        obtain ⟨z4, E⟩ := gd_some E
        refine ea_iald (pc := 308) dX12_goings_308 (hs.1 20 (by decide)).1 (hs.1 20 (by decide)).2.1 (ea_vpl (hs.1 20 (by decide)).2.2 z4) ?_
        obtain ⟨z5, E⟩ := gd_some E
        refine ea_iast (pc := 309) dX12_goings_309 (hs.1 19 (by decide)).1 (hs.1 19 (by decide)).2.1 (ea_vpl (hs.1 19 (by decide)).2.2 z5) ?_
        have hs6 : ShM b0 (ea_wi h (b0 + 19) (Int32.toNatClampNeg x1) (ea_i h (b0 + 20) (Int32.toNatClampNeg x3))) := ShM_wi hs
        refine ea_aload_n (pc := 310) dX12_goings_310 rfl 0 rfl ?_
        refine ea_getR (pc := 311) dX12_goings_311 ec_12 (k := 24) (Nat.le_of_ble_eq_true rfl) rfl (Or.inl ew_1369) (hs6.1 0 (by decide)).1 (hs6.1 0 (by decide)).2.1 (hs6.2 0 24 rfl) ?_
        refine ea_iload_n (pc := 314) dX12_goings_314 rfl 3 rfl ?_
        refine ea_iload_n (pc := 315) dX12_goings_315 rfl 1 rfl ?_
        obtain ⟨z7, E⟩ := gd_some E
        refine ea_iast (pc := 316) dX12_goings_316 (hs6.1 20 (by decide)).1 (hs6.1 20 (by decide)).2.1 (ea_vpl (hs6.1 20 (by decide)).2.2 z7) ?_
        have hs8 : ShM b0 (ea_wi (ea_wi h (b0 + 19) (Int32.toNatClampNeg x1) (ea_i h (b0 + 20) (Int32.toNatClampNeg x3))) (b0 + 20) (Int32.toNatClampNeg x3) x1) := ShM_wi hs6
        refine ea_iconst (pc := 317) dX12_goings_317 (v := 0) rfl ?_
        refine ea_istore (pc := 318) (lv' := [(0, vR (some (b0 + 0))), (1, vI x1), (4, vI 0)]) dX12_goings_318 (Nat.le_of_ble_eq_true rfl) [1, 2, 0] rfl ?_
        exact ((ih 320 0 (x1 : Int32) 0 0 0 0 0 (0 : Int32) 0 0 0 0 (ea_wi (ea_wi h (b0 + 19) (Int32.toNatClampNeg x1) (ea_i h (b0 + 20) (Int32.toNatClampNeg x3))) (b0 + 20) (Int32.toNatClampNeg x3) x1) _ _ E hs8).2.2.2.2.2.2.2.2.2.1 rfl)
      · have E := (if_neg c12).symm.trans E
        refine ea_bipush (pc := 31) dX12_goings_31 (v := 12) rfl ?_
        refine ea_iload_n (pc := 33) dX12_goings_33 rfl 1 rfl ?_
        refine ea_imul (pc := 34) dX12_goings_34 ?_
        refine ea_iload (pc := 35) dX12_goings_35 4 rfl ?_
        refine ea_iadd (pc := 37) dX12_goings_37 ?_
        refine ea_istore (pc := 38) (lv' := [(0, vR (some (b0 + 0))), (1, vI x1), (2, vI x2), (3, vI x3), (4, vI x4), (5, vI (((12 : Int32) * x1) + x4))]) dX12_goings_38 (Nat.le_of_ble_eq_true rfl) [1, 2, 3, 4, 5, 0] rfl ?_
        refine ea_aload_n (pc := 40) dX12_goings_40 rfl 0 rfl ?_
        refine ea_getR (pc := 41) dX12_goings_41 ec_12 (k := 19) (Nat.le_of_ble_eq_true rfl) rfl (Or.inl ew_1364) (hs.1 0 (by decide)).1 (hs.1 0 (by decide)).2.1 (hs.2 0 19 rfl) ?_
        refine ea_iload (pc := 44) dX12_goings_44 5 rfl ?_
        refine ea_ldcw (pc := 46) dX12_goings_46 ew_1727 ?_
        obtain ⟨z9, E⟩ := gd_some E
        refine ea_iast (pc := 49) dX12_goings_49 (hs.1 15 (by decide)).1 (hs.1 15 (by decide)).2.1 (ea_vpl (hs.1 15 (by decide)).2.2 z9) ?_
        have hs10 : ShM b0 (ea_wi h (b0 + 15) (Int32.toNatClampNeg (((12 : Int32) * x1) + x4)) 1000000) := ShM_wi hs
        refine ea_aload_n (pc := 50) dX12_goings_50 rfl 0 rfl ?_
        refine ea_getR (pc := 51) dX12_goings_51 ec_12 (k := 17) (Nat.le_of_ble_eq_true rfl) rfl (Or.inl ew_1362) (hs10.1 0 (by decide)).1 (hs10.1 0 (by decide)).2.1 (hs10.2 0 17 rfl) ?_
        refine ea_iload_n (pc := 54) dX12_goings_54 rfl 1 rfl ?_
        obtain ⟨z11, E⟩ := gd_some E
        refine ea_iald (pc := 55) dX12_goings_55 (hs10.1 13 (by decide)).1 (hs10.1 13 (by decide)).2.1 (ea_vpl (hs10.1 13 (by decide)).2.2 z11) ?_
        refine ea_iconst (pc := 56) dX12_goings_56 (v := 1) rfl ?_
        refine ea_iadd (pc := 57) dX12_goings_57 ?_
        refine ea_istore (pc := 58) (lv' := [(0, vR (some (b0 + 0))), (1, vI x1), (2, vI x2), (3, vI x3), (4, vI x4), (5, vI (((12 : Int32) * x1) + x4)), (6, vI ((ea_i (ea_wi h (b0 + 15) (Int32.toNatClampNeg (((12 : Int32) * x1) + x4)) 1000000) (b0 + 13) (Int32.toNatClampNeg x1)) + (1 : Int32)))]) dX12_goings_58 (Nat.le_of_ble_eq_true rfl) [1, 2, 3, 4, 5, 6, 0] rfl ?_
        exact ((ih 60 0 (x1 : Int32) 0 0 0 (x2 : Int32) (x3 : Int32) (x4 : Int32) ((((12 : Int32) * x1) + x4) : Int32) (((ea_i (ea_wi h (b0 + 15) (Int32.toNatClampNeg (((12 : Int32) * x1) + x4)) 1000000) (b0 + 13) (Int32.toNatClampNeg x1)) + (1 : Int32)) : Int32) 0 0 (ea_wi h (b0 + 15) (Int32.toNatClampNeg (((12 : Int32) * x1) + x4)) 1000000) _ _ E hs10).2.2.1 rfl)
    refine ⟨?_, ?_⟩
    · intro el
      subst el
      have E := (if_neg (by decide)).symm.trans E
      have E := (if_neg (by decide)).symm.trans E
      have E := (if_pos rfl).symm.trans E
      refine ea_iload (pc := 60) dX12_goings_60 6 rfl ?_
      refine ea_aload_n (pc := 62) dX12_goings_62 rfl 0 rfl ?_
      refine ea_getR (pc := 63) dX12_goings_63 ec_12 (k := 4) (Nat.le_of_ble_eq_true rfl) rfl (Or.inl ew_1349) (hs.1 0 (by decide)).1 (hs.1 0 (by decide)).2.1 (hs.2 0 4 rfl) ?_
      refine ea_iload_n (pc := 66) dX12_goings_66 rfl 2 rfl ?_
      refine ea_bipush (pc := 67) dX12_goings_67 (v := 7) rfl ?_
      refine ea_idiv (pc := 69) dX12_goings_69 (by decide) ?_
      obtain ⟨z13, E⟩ := gd_some E
      refine ea_iald (pc := 70) dX12_goings_70 (hs.1 2 (by decide)).1 (hs.1 2 (by decide)).2.1 (ea_vpl (hs.1 2 (by decide)).2.2 z13) ?_
      refine ea_icmp_ge (pc := 71) (tgt := 292) dX12_goings_71 rfl (fun c20 => ?_) (fun c20 => ?_)
      · have E := (if_pos c20).symm.trans E
        refine ea_iinc (pc := 292) (v := 1) (lv' := [(0, vR (some (b0 + 0))), (1, vI x1), (2, vI x2), (3, vI x3), (4, vI (x4 + (1 : Int32)))]) dX12_goings_292 4 rfl rfl (Nat.le_of_ble_eq_true rfl) [1, 2, 3, 4, 0] rfl ?_
        refine ea_goto (pc := 295) (tgt := 22) dX12_goings_295 rfl ?_
        exact ((ih 22 0 (x1 : Int32) 0 0 0 (x2 : Int32) (x3 : Int32) ((x4 + (1 : Int32)) : Int32) 0 0 0 0 h _ _ E hs).2.1 rfl)
      · have E := (if_neg c20).symm.trans E
        refine ea_aload_n (pc := 74) dX12_goings_74 rfl 0 rfl ?_
        refine ea_iload_n (pc := 75) dX12_goings_75 rfl 2 rfl ?_
        refine ea_iload (pc := 76) dX12_goings_76 6 rfl ?_
        obtain ⟨z14, E⟩ := gd_some E
        refine ea_callV (pc := 78) (d' := d - 1) (As := [vI x2, vI x6]) (st := []) dX12_goings_78 kX12_comesAt (sX12_comesAt (d := d - 1) (by omega) hs z14) (by omega) rfl (Nat.le_of_ble_eq_true rfl) ew_1762 ew_1764 ew_52 (ci := 12) rfl (by decide) (hs.1 0 (by decide)).1 (hs.1 0 (by decide)).2.1 ?_
        refine ea_istore (pc := 81) (lv' := [(0, vR (some (b0 + 0))), (1, vI x1), (2, vI x2), (3, vI x3), (4, vI x4), (5, vI x5), (6, vI x6), (7, vI (vX12_comesAt b0 (x2 : Int32) (x6 : Int32) h))]) dX12_goings_81 (Nat.le_of_ble_eq_true rfl) [1, 2, 3, 4, 5, 6, 7, 0] rfl ?_
        refine ea_iload (pc := 83) dX12_goings_83 7 rfl ?_
        refine ea_sipush (pc := 85) dX12_goings_85 (v := 10079) rfl ?_
        refine ea_icmp_le (pc := 88) (tgt := 94) dX12_goings_88 rfl (fun c19 => ?_) (fun c19 => ?_)
        · have E := (if_pos c19).symm.trans E
          refine ea_aload_n (pc := 94) dX12_goings_94 rfl 0 rfl ?_
          refine ea_iload_n (pc := 95) dX12_goings_95 rfl 2 rfl ?_
          refine ea_iload (pc := 96) dX12_goings_96 6 rfl ?_
          obtain ⟨z15, E⟩ := gd_some E
          refine ea_callV (pc := 98) (d' := d - 1) (As := [vI x2, vI x6]) (st := []) dX12_goings_98 kX12_townOf (sX12_townOf (d := d - 1) (by omega) hs z15) (by omega) rfl (Nat.le_of_ble_eq_true rfl) ew_1798 ew_1800 ew_60 (ci := 12) rfl (by decide) (hs.1 0 (by decide)).1 (hs.1 0 (by decide)).2.1 ?_
          refine ea_istore (pc := 101) (lv' := [(0, vR (some (b0 + 0))), (1, vI x1), (2, vI x2), (3, vI x3), (4, vI x4), (5, vI x5), (6, vI x6), (7, vI (vX12_comesAt b0 (x2 : Int32) (x6 : Int32) h)), (8, vI (vX12_townOf b0 (x2 : Int32) (x6 : Int32) h))]) dX12_goings_101 (Nat.le_of_ble_eq_true rfl) [1, 2, 3, 4, 5, 6, 7, 8, 0] rfl ?_
          refine ea_iload (pc := 103) dX12_goings_103 8 rfl ?_
          refine ea_iload (pc := 105) dX12_goings_105 4 rfl ?_
          refine ea_icmp_ne (pc := 107) (tgt := 114) dX12_goings_107 rfl (fun c18 => ?_) (fun c18 => ?_)
          · have E := (if_neg c18).symm.trans E
            refine ea_aload_n (pc := 114) dX12_goings_114 rfl 0 rfl ?_
            refine ea_iload (pc := 115) dX12_goings_115 8 rfl ?_
            refine ea_iload (pc := 117) dX12_goings_117 7 rfl ?_
            obtain ⟨z16, E⟩ := gd_some E
            refine ea_callV (pc := 119) (d' := d - 1) (As := [vI (vX12_townOf b0 (x2 : Int32) (x6 : Int32) h), vI (vX12_comesAt b0 (x2 : Int32) (x6 : Int32) h)]) (st := []) dX12_goings_119 kX12_going (sX12_going (d := d - 1) (by omega) hs z16) (by omega) rfl (Nat.le_of_ble_eq_true rfl) ew_1802 ew_1804 ew_61 (ci := 12) rfl (by decide) (hs.1 0 (by decide)).1 (hs.1 0 (by decide)).2.1 ?_
            have hs17 : ShM b0 (wX12_going b0 ((vX12_townOf b0 (x2 : Int32) (x6 : Int32) h) : Int32) ((vX12_comesAt b0 (x2 : Int32) (x6 : Int32) h) : Int32) h) := shX12_going hs
            exact ((ih 122 ((vX12_going b0 ((vX12_townOf b0 (x2 : Int32) (x6 : Int32) h) : Int32) ((vX12_comesAt b0 (x2 : Int32) (x6 : Int32) h) : Int32) h) : Int32) (x1 : Int32) 0 0 0 (x2 : Int32) (x3 : Int32) (x4 : Int32) (x5 : Int32) (x6 : Int32) ((vX12_comesAt b0 (x2 : Int32) (x6 : Int32) h) : Int32) ((vX12_townOf b0 (x2 : Int32) (x6 : Int32) h) : Int32) (wX12_going b0 ((vX12_townOf b0 (x2 : Int32) (x6 : Int32) h) : Int32) ((vX12_comesAt b0 (x2 : Int32) (x6 : Int32) h) : Int32) h) _ _ E hs17).2.2.2.1 rfl)
          · have E := (if_pos c18).symm.trans E
            refine ea_iconst (pc := 110) dX12_goings_110 (v := (-1)) rfl ?_
            refine ea_goto (pc := 111) (tgt := 122) dX12_goings_111 rfl ?_
            exact ((ih 122 ((-1) : Int32) (x1 : Int32) 0 0 0 (x2 : Int32) (x3 : Int32) (x4 : Int32) (x5 : Int32) (x6 : Int32) ((vX12_comesAt b0 (x2 : Int32) (x6 : Int32) h) : Int32) ((vX12_townOf b0 (x2 : Int32) (x6 : Int32) h) : Int32) h _ _ E hs).2.2.2.1 rfl)
        · have E := (if_neg c19).symm.trans E
          refine ea_goto (pc := 91) (tgt := 292) dX12_goings_91 rfl ?_
          refine ea_iinc (pc := 292) (v := 1) (lv' := [(0, vR (some (b0 + 0))), (1, vI x1), (2, vI x2), (3, vI x3), (4, vI (x4 + (1 : Int32)))]) dX12_goings_292 4 rfl rfl (Nat.le_of_ble_eq_true rfl) [1, 2, 3, 4, 0] rfl ?_
          refine ea_goto (pc := 295) (tgt := 22) dX12_goings_295 rfl ?_
          exact ((ih 22 0 (x1 : Int32) 0 0 0 (x2 : Int32) (x3 : Int32) ((x4 + (1 : Int32)) : Int32) 0 0 0 0 h _ _ E hs).2.1 rfl)
    refine ⟨?_, ?_⟩
    · intro el
      subst el
      have E := (if_neg (by decide)).symm.trans E
      have E := (if_neg (by decide)).symm.trans E
      have E := (if_neg (by decide)).symm.trans E
      have E := (if_pos rfl).symm.trans E
      refine ea_istore (pc := 122) (lv' := [(0, vR (some (b0 + 0))), (1, vI x1), (2, vI x2), (3, vI x3), (4, vI x4), (5, vI x5), (6, vI x6), (7, vI x7), (8, vI x8), (9, vI sx0)]) dX12_goings_122 (Nat.le_of_ble_eq_true rfl) [1, 2, 3, 4, 5, 6, 7, 8, 9, 0] rfl ?_
      refine ea_iload (pc := 124) dX12_goings_124 9 rfl ?_
      refine ea_iconst (pc := 126) dX12_goings_126 (v := (-1)) rfl ?_
      refine ea_icmp_ne (pc := 127) (tgt := 134) dX12_goings_127 rfl (fun c22 => ?_) (fun c22 => ?_)
      · have E := (if_neg c22).symm.trans E
        refine ea_aload_n (pc := 134) dX12_goings_134 rfl 0 rfl ?_
        refine ea_getR (pc := 135) dX12_goings_135 ec_12 (k := 22) (Nat.le_of_ble_eq_true rfl) rfl (Or.inl ew_1367) (hs.1 0 (by decide)).1 (hs.1 0 (by decide)).2.1 (hs.2 0 22 rfl) ?_
        refine ea_bipush (pc := 138) dX12_goings_138 (v := 12) rfl ?_
        refine ea_iload (pc := 140) dX12_goings_140 9 rfl ?_
        refine ea_imul (pc := 142) dX12_goings_142 ?_
        refine ea_iload (pc := 143) dX12_goings_143 4 rfl ?_
        refine ea_iadd (pc := 145) dX12_goings_145 ?_
        obtain ⟨z21, E⟩ := gd_some E
        refine ea_iald (pc := 146) dX12_goings_146 (hs.1 18 (by decide)).1 (hs.1 18 (by decide)).2.1 (ea_vpl (hs.1 18 (by decide)).2.2 z21) ?_
        exact (ea_fewer [0, 1, 2, 3, 4, 5, 6, 7, 8] rfl ((ih 147 ((ea_i h (b0 + 18) (Int32.toNatClampNeg (((12 : Int32) * sx0) + x4))) : Int32) (x1 : Int32) 0 0 0 (x2 : Int32) (x3 : Int32) (x4 : Int32) (x5 : Int32) (x6 : Int32) (x7 : Int32) (x8 : Int32) h _ _ E hs).2.2.2.2.1 rfl))
      · have E := (if_pos c22).symm.trans E
        refine ea_iconst (pc := 130) dX12_goings_130 (v := (-1)) rfl ?_
        refine ea_goto (pc := 131) (tgt := 147) dX12_goings_131 rfl ?_
        exact (ea_fewer [0, 1, 2, 3, 4, 5, 6, 7, 8] rfl ((ih 147 ((-1) : Int32) (x1 : Int32) 0 0 0 (x2 : Int32) (x3 : Int32) (x4 : Int32) (x5 : Int32) (x6 : Int32) (x7 : Int32) (x8 : Int32) h _ _ E hs).2.2.2.2.1 rfl))
    refine ⟨?_, ?_⟩
    · intro el
      subst el
      have E := (if_neg (by decide)).symm.trans E
      have E := (if_neg (by decide)).symm.trans E
      have E := (if_neg (by decide)).symm.trans E
      have E := (if_neg (by decide)).symm.trans E
      have E := (if_pos rfl).symm.trans E
      refine ea_istore (pc := 147) (lv' := [(0, vR (some (b0 + 0))), (1, vI x1), (2, vI x2), (3, vI x3), (4, vI x4), (5, vI x5), (6, vI x6), (7, vI x7), (8, vI x8), (10, vI sx0)]) dX12_goings_147 (Nat.le_of_ble_eq_true rfl) [1, 2, 3, 4, 5, 6, 7, 8, 9, 0] rfl ?_
      refine ea_iload (pc := 149) dX12_goings_149 8 rfl ?_
      refine ea_iload (pc := 151) dX12_goings_151 4 rfl ?_
      refine ea_icmp_eq (pc := 153) (tgt := 165) dX12_goings_153 rfl (fun c24 => ?_) (fun c24 => ?_)
      · have E := (if_pos c24).symm.trans E
        exact ((ih 165 0 (x1 : Int32) (sx0 : Int32) 0 0 (x2 : Int32) (x3 : Int32) (x4 : Int32) (x5 : Int32) (x6 : Int32) (x7 : Int32) (x8 : Int32) h _ _ E hs).2.2.2.2.2.1 rfl)
      · have E := (if_neg c24).symm.trans E
        refine ea_iload (pc := 156) dX12_goings_156 9 rfl ?_
        refine ea_iconst (pc := 158) dX12_goings_158 (v := (-1)) rfl ?_
        refine ea_icmp_ne (pc := 159) (tgt := 165) dX12_goings_159 rfl (fun c23 => ?_) (fun c23 => ?_)
        · have E := (if_neg c23).symm.trans E
          exact ((ih 165 0 (x1 : Int32) (sx0 : Int32) 0 0 (x2 : Int32) (x3 : Int32) (x4 : Int32) (x5 : Int32) (x6 : Int32) (x7 : Int32) (x8 : Int32) h _ _ E hs).2.2.2.2.2.1 rfl)
        · have E := (if_pos c23).symm.trans E
          refine ea_goto (pc := 162) (tgt := 286) dX12_goings_162 rfl ?_
          refine ea_iinc (pc := 286) (v := 1) (lv' := [(0, vR (some (b0 + 0))), (1, vI x1), (2, vI x2), (3, vI x3), (4, vI x4), (5, vI x5), (6, vI (x6 + (1 : Int32)))]) dX12_goings_286 6 rfl rfl (Nat.le_of_ble_eq_true rfl) [1, 2, 3, 4, 5, 6, 0] rfl ?_
          refine ea_goto (pc := 289) (tgt := 60) dX12_goings_289 rfl ?_
          exact ((ih 60 0 (x1 : Int32) 0 0 0 (x2 : Int32) (x3 : Int32) (x4 : Int32) (x5 : Int32) ((x6 + (1 : Int32)) : Int32) 0 0 h _ _ E hs).2.2.1 rfl)
    refine ⟨?_, ?_⟩
    · intro el
      subst el
      have E := (if_neg (by decide)).symm.trans E
      have E := (if_neg (by decide)).symm.trans E
      have E := (if_neg (by decide)).symm.trans E
      have E := (if_neg (by decide)).symm.trans E
      have E := (if_neg (by decide)).symm.trans E
      have E := (if_pos rfl).symm.trans E
      refine ea_iload (pc := 165) dX12_goings_165 8 rfl ?_
      refine ea_iload (pc := 167) dX12_goings_167 4 rfl ?_
      refine ea_icmp_ne (pc := 169) (tgt := 177) dX12_goings_169 rfl (fun c26 => ?_) (fun c26 => ?_)
      · have E := (if_neg c26).symm.trans E
        refine ea_aload_n (pc := 177) dX12_goings_177 rfl 0 rfl ?_
        refine ea_getR (pc := 178) dX12_goings_178 ec_12 (k := 19) (Nat.le_of_ble_eq_true rfl) rfl (Or.inl ew_1364) (hs.1 0 (by decide)).1 (hs.1 0 (by decide)).2.1 (hs.2 0 19 rfl) ?_
        refine ea_bipush (pc := 181) dX12_goings_181 (v := 12) rfl ?_
        refine ea_iload (pc := 183) dX12_goings_183 9 rfl ?_
        refine ea_imul (pc := 185) dX12_goings_185 ?_
        refine ea_iload (pc := 186) dX12_goings_186 4 rfl ?_
        refine ea_iadd (pc := 188) dX12_goings_188 ?_
        obtain ⟨z25, E⟩ := gd_some E
        refine ea_iald (pc := 189) dX12_goings_189 (hs.1 15 (by decide)).1 (hs.1 15 (by decide)).2.1 (ea_vpl (hs.1 15 (by decide)).2.2 z25) ?_
        exact (ea_fewer [0, 1, 2, 3, 4, 5, 6, 8, 9] rfl ((ih 190 ((ea_i h (b0 + 15) (Int32.toNatClampNeg (((12 : Int32) * x10) + x4))) : Int32) (x1 : Int32) (x10 : Int32) 0 0 (x2 : Int32) (x3 : Int32) (x4 : Int32) (x5 : Int32) (x6 : Int32) 0 (x8 : Int32) h _ _ E hs).2.2.2.2.2.2.1 rfl))
      · have E := (if_pos c26).symm.trans E
        refine ea_iload (pc := 172) dX12_goings_172 7 rfl ?_
        refine ea_goto (pc := 174) (tgt := 190) dX12_goings_174 rfl ?_
        exact (ea_fewer [0, 1, 2, 3, 4, 5, 6, 8, 9] rfl ((ih 190 (x7 : Int32) (x1 : Int32) (x10 : Int32) 0 0 (x2 : Int32) (x3 : Int32) (x4 : Int32) (x5 : Int32) (x6 : Int32) 0 (x8 : Int32) h _ _ E hs).2.2.2.2.2.2.1 rfl))
    refine ⟨?_, ?_⟩
    · intro el
      subst el
      have E := (if_neg (by decide)).symm.trans E
      have E := (if_neg (by decide)).symm.trans E
      have E := (if_neg (by decide)).symm.trans E
      have E := (if_neg (by decide)).symm.trans E
      have E := (if_neg (by decide)).symm.trans E
      have E := (if_neg (by decide)).symm.trans E
      have E := (if_pos rfl).symm.trans E
      refine ea_istore (pc := 190) (lv' := [(0, vR (some (b0 + 0))), (1, vI x1), (2, vI x2), (3, vI x3), (4, vI x4), (5, vI x5), (6, vI x6), (8, vI x8), (10, vI x10), (11, vI sx0)]) dX12_goings_190 (Nat.le_of_ble_eq_true rfl) [1, 2, 3, 4, 5, 6, 7, 8, 9, 0] rfl ?_
      refine ea_iload (pc := 192) dX12_goings_192 7 rfl ?_
      refine ea_iload (pc := 194) dX12_goings_194 4 rfl ?_
      refine ea_icmp_ne (pc := 196) (tgt := 203) dX12_goings_196 rfl (fun c28 => ?_) (fun c28 => ?_)
      · have E := (if_neg c28).symm.trans E
        refine ea_aload_n (pc := 203) dX12_goings_203 rfl 0 rfl ?_
        refine ea_getR (pc := 204) dX12_goings_204 ec_12 (k := 20) (Nat.le_of_ble_eq_true rfl) rfl (Or.inl ew_1365) (hs.1 0 (by decide)).1 (hs.1 0 (by decide)).2.1 (hs.2 0 20 rfl) ?_
        refine ea_bipush (pc := 207) dX12_goings_207 (v := 12) rfl ?_
        refine ea_iload (pc := 209) dX12_goings_209 8 rfl ?_
        refine ea_imul (pc := 211) dX12_goings_211 ?_
        refine ea_iload (pc := 212) dX12_goings_212 4 rfl ?_
        refine ea_iadd (pc := 214) dX12_goings_214 ?_
        obtain ⟨z27, E⟩ := gd_some E
        refine ea_iald (pc := 215) dX12_goings_215 (hs.1 16 (by decide)).1 (hs.1 16 (by decide)).2.1 (ea_vpl (hs.1 16 (by decide)).2.2 z27) ?_
        refine ea_iconst (pc := 216) dX12_goings_216 (v := 1) rfl ?_
        refine ea_iadd (pc := 217) dX12_goings_217 ?_
        exact (ea_fewer [0, 1, 2, 3, 4, 5, 6, 9] rfl ((ih 218 (((ea_i h (b0 + 16) (Int32.toNatClampNeg (((12 : Int32) * x10) + x4))) + (1 : Int32)) : Int32) (x1 : Int32) 0 (sx0 : Int32) 0 (x2 : Int32) (x3 : Int32) (x4 : Int32) (x5 : Int32) (x6 : Int32) 0 0 h _ _ E hs).2.2.2.2.2.2.2.1 rfl))
      · have E := (if_pos c28).symm.trans E
        refine ea_iconst (pc := 199) dX12_goings_199 (v := 1) rfl ?_
        refine ea_goto (pc := 200) (tgt := 218) dX12_goings_200 rfl ?_
        exact (ea_fewer [0, 1, 2, 3, 4, 5, 6, 9] rfl ((ih 218 (1 : Int32) (x1 : Int32) 0 (sx0 : Int32) 0 (x2 : Int32) (x3 : Int32) (x4 : Int32) (x5 : Int32) (x6 : Int32) 0 0 h _ _ E hs).2.2.2.2.2.2.2.1 rfl))
    refine ⟨?_, ?_⟩
    · intro el
      subst el
      have E := (if_neg (by decide)).symm.trans E
      have E := (if_neg (by decide)).symm.trans E
      have E := (if_neg (by decide)).symm.trans E
      have E := (if_neg (by decide)).symm.trans E
      have E := (if_neg (by decide)).symm.trans E
      have E := (if_neg (by decide)).symm.trans E
      have E := (if_neg (by decide)).symm.trans E
      have E := (if_pos rfl).symm.trans E
      refine ea_istore (pc := 218) (lv' := [(0, vR (some (b0 + 0))), (1, vI x1), (2, vI x2), (3, vI x3), (4, vI x4), (5, vI x5), (6, vI x6), (11, vI x11), (12, vI sx0)]) dX12_goings_218 (Nat.le_of_ble_eq_true rfl) [1, 2, 3, 4, 5, 6, 7, 8, 0] rfl ?_
      refine ea_iload (pc := 220) dX12_goings_220 7 rfl ?_
      refine ea_aload_n (pc := 222) dX12_goings_222 rfl 0 rfl ?_
      refine ea_getR (pc := 223) dX12_goings_223 ec_12 (k := 19) (Nat.le_of_ble_eq_true rfl) rfl (Or.inl ew_1364) (hs.1 0 (by decide)).1 (hs.1 0 (by decide)).2.1 (hs.2 0 19 rfl) ?_
      refine ea_iload (pc := 226) dX12_goings_226 5 rfl ?_
      obtain ⟨z29, E⟩ := gd_some E
      refine ea_iald (pc := 228) dX12_goings_228 (hs.1 15 (by decide)).1 (hs.1 15 (by decide)).2.1 (ea_vpl (hs.1 15 (by decide)).2.2 z29) ?_
      refine ea_icmp_gt (pc := 229) (tgt := 286) dX12_goings_229 rfl (fun c34 => ?_) (fun c34 => ?_)
      · have E := (if_pos c34).symm.trans E
        refine ea_iinc (pc := 286) (v := 1) (lv' := [(0, vR (some (b0 + 0))), (1, vI x1), (2, vI x2), (3, vI x3), (4, vI x4), (5, vI x5), (6, vI (x6 + (1 : Int32)))]) dX12_goings_286 6 rfl rfl (Nat.le_of_ble_eq_true rfl) [1, 2, 3, 4, 5, 6, 0] rfl ?_
        refine ea_goto (pc := 289) (tgt := 60) dX12_goings_289 rfl ?_
        exact ((ih 60 0 (x1 : Int32) 0 0 0 (x2 : Int32) (x3 : Int32) (x4 : Int32) (x5 : Int32) ((x6 + (1 : Int32)) : Int32) 0 0 h _ _ E hs).2.2.1 rfl)
      · have E := (if_neg c34).symm.trans E
        refine ea_iload (pc := 232) dX12_goings_232 7 rfl ?_
        refine ea_aload_n (pc := 234) dX12_goings_234 rfl 0 rfl ?_
        refine ea_getR (pc := 235) dX12_goings_235 ec_12 (k := 19) (Nat.le_of_ble_eq_true rfl) rfl (Or.inl ew_1364) (hs.1 0 (by decide)).1 (hs.1 0 (by decide)).2.1 (hs.2 0 19 rfl) ?_
        refine ea_iload (pc := 238) dX12_goings_238 5 rfl ?_
        obtain ⟨z30, E⟩ := gd_some E
        refine ea_iald (pc := 240) dX12_goings_240 (hs.1 15 (by decide)).1 (hs.1 15 (by decide)).2.1 (ea_vpl (hs.1 15 (by decide)).2.2 z30) ?_
        refine ea_icmp_ne (pc := 241) (tgt := 259) dX12_goings_241 rfl (fun c33 => ?_) (fun c33 => ?_)
        · have E := (if_neg c33).symm.trans E
          exact ((ih 259 0 (x1 : Int32) 0 (x11 : Int32) (sx0 : Int32) (x2 : Int32) (x3 : Int32) (x4 : Int32) (x5 : Int32) (x6 : Int32) 0 0 h _ _ E hs).2.2.2.2.2.2.2.2.1 rfl)
        · have E := (if_pos c33).symm.trans E
          refine ea_iload (pc := 244) dX12_goings_244 8 rfl ?_
          refine ea_aload_n (pc := 246) dX12_goings_246 rfl 0 rfl ?_
          refine ea_getR (pc := 247) dX12_goings_247 ec_12 (k := 20) (Nat.le_of_ble_eq_true rfl) rfl (Or.inl ew_1365) (hs.1 0 (by decide)).1 (hs.1 0 (by decide)).2.1 (hs.2 0 20 rfl) ?_
          refine ea_iload (pc := 250) dX12_goings_250 5 rfl ?_
          obtain ⟨z31, E⟩ := gd_some E
          refine ea_iald (pc := 252) dX12_goings_252 (hs.1 16 (by decide)).1 (hs.1 16 (by decide)).2.1 (ea_vpl (hs.1 16 (by decide)).2.2 z31) ?_
          refine ea_icmp_lt (pc := 253) (tgt := 259) dX12_goings_253 rfl (fun c32 => ?_) (fun c32 => ?_)
          · have E := (if_pos c32).symm.trans E
            exact ((ih 259 0 (x1 : Int32) 0 (x11 : Int32) (sx0 : Int32) (x2 : Int32) (x3 : Int32) (x4 : Int32) (x5 : Int32) (x6 : Int32) 0 0 h _ _ E hs).2.2.2.2.2.2.2.2.1 rfl)
          · have E := (if_neg c32).symm.trans E
            refine ea_goto (pc := 256) (tgt := 286) dX12_goings_256 rfl ?_
            refine ea_iinc (pc := 286) (v := 1) (lv' := [(0, vR (some (b0 + 0))), (1, vI x1), (2, vI x2), (3, vI x3), (4, vI x4), (5, vI x5), (6, vI (x6 + (1 : Int32)))]) dX12_goings_286 6 rfl rfl (Nat.le_of_ble_eq_true rfl) [1, 2, 3, 4, 5, 6, 0] rfl ?_
            refine ea_goto (pc := 289) (tgt := 60) dX12_goings_289 rfl ?_
            exact ((ih 60 0 (x1 : Int32) 0 0 0 (x2 : Int32) (x3 : Int32) (x4 : Int32) (x5 : Int32) ((x6 + (1 : Int32)) : Int32) 0 0 h _ _ E hs).2.2.1 rfl)
    refine ⟨?_, ?_⟩
    · intro el
      subst el
      have E := (if_neg (by decide)).symm.trans E
      have E := (if_neg (by decide)).symm.trans E
      have E := (if_neg (by decide)).symm.trans E
      have E := (if_neg (by decide)).symm.trans E
      have E := (if_neg (by decide)).symm.trans E
      have E := (if_neg (by decide)).symm.trans E
      have E := (if_neg (by decide)).symm.trans E
      have E := (if_neg (by decide)).symm.trans E
      have E := (if_pos rfl).symm.trans E
      refine ea_aload_n (pc := 259) dX12_goings_259 rfl 0 rfl ?_
      refine ea_getR (pc := 260) dX12_goings_260 ec_12 (k := 19) (Nat.le_of_ble_eq_true rfl) rfl (Or.inl ew_1364) (hs.1 0 (by decide)).1 (hs.1 0 (by decide)).2.1 (hs.2 0 19 rfl) ?_
      refine ea_iload (pc := 263) dX12_goings_263 5 rfl ?_
      refine ea_iload (pc := 265) dX12_goings_265 7 rfl ?_
      obtain ⟨z35, E⟩ := gd_some E
      refine ea_iast (pc := 267) dX12_goings_267 (hs.1 15 (by decide)).1 (hs.1 15 (by decide)).2.1 (ea_vpl (hs.1 15 (by decide)).2.2 z35) ?_
      have hs36 : ShM b0 (ea_wi h (b0 + 15) (Int32.toNatClampNeg x5) x11) := ShM_wi hs
      refine ea_aload_n (pc := 268) dX12_goings_268 rfl 0 rfl ?_
      refine ea_getR (pc := 269) dX12_goings_269 ec_12 (k := 20) (Nat.le_of_ble_eq_true rfl) rfl (Or.inl ew_1365) (hs36.1 0 (by decide)).1 (hs36.1 0 (by decide)).2.1 (hs36.2 0 20 rfl) ?_
      refine ea_iload (pc := 272) dX12_goings_272 5 rfl ?_
      refine ea_iload (pc := 274) dX12_goings_274 8 rfl ?_
      obtain ⟨z37, E⟩ := gd_some E
      refine ea_iast (pc := 276) dX12_goings_276 (hs36.1 16 (by decide)).1 (hs36.1 16 (by decide)).2.1 (ea_vpl (hs36.1 16 (by decide)).2.2 z37) ?_
      have hs38 : ShM b0 (ea_wi (ea_wi h (b0 + 15) (Int32.toNatClampNeg x5) x11) (b0 + 16) (Int32.toNatClampNeg x5) x12) := ShM_wi hs36
      refine ea_aload_n (pc := 277) dX12_goings_277 rfl 0 rfl ?_
      refine ea_getR (pc := 278) dX12_goings_278 ec_12 (k := 21) (Nat.le_of_ble_eq_true rfl) rfl (Or.inl ew_1366) (hs38.1 0 (by decide)).1 (hs38.1 0 (by decide)).2.1 (hs38.2 0 21 rfl) ?_
      refine ea_iload (pc := 281) dX12_goings_281 5 rfl ?_
      refine ea_iload (pc := 283) dX12_goings_283 6 rfl ?_
      obtain ⟨z39, E⟩ := gd_some E
      refine ea_iast (pc := 285) dX12_goings_285 (hs38.1 17 (by decide)).1 (hs38.1 17 (by decide)).2.1 (ea_vpl (hs38.1 17 (by decide)).2.2 z39) ?_
      have hs40 : ShM b0 (ea_wi (ea_wi (ea_wi h (b0 + 15) (Int32.toNatClampNeg x5) x11) (b0 + 16) (Int32.toNatClampNeg x5) x12) (b0 + 17) (Int32.toNatClampNeg x5) x6) := ShM_wi hs38
      refine ea_iinc (pc := 286) (v := 1) (lv' := [(0, vR (some (b0 + 0))), (1, vI x1), (2, vI x2), (3, vI x3), (4, vI x4), (5, vI x5), (6, vI (x6 + (1 : Int32)))]) dX12_goings_286 6 rfl rfl (Nat.le_of_ble_eq_true rfl) [1, 2, 3, 4, 5, 6, 0] rfl ?_
      refine ea_goto (pc := 289) (tgt := 60) dX12_goings_289 rfl ?_
      exact ((ih 60 0 (x1 : Int32) 0 0 0 (x2 : Int32) (x3 : Int32) (x4 : Int32) (x5 : Int32) ((x6 + (1 : Int32)) : Int32) 0 0 (ea_wi (ea_wi (ea_wi h (b0 + 15) (Int32.toNatClampNeg x5) x11) (b0 + 16) (Int32.toNatClampNeg x5) x12) (b0 + 17) (Int32.toNatClampNeg x5) x6) _ _ E hs40).2.2.1 rfl)
    refine ⟨?_, ?_⟩
    · intro el
      subst el
      have E := (if_neg (by decide)).symm.trans E
      have E := (if_neg (by decide)).symm.trans E
      have E := (if_neg (by decide)).symm.trans E
      have E := (if_neg (by decide)).symm.trans E
      have E := (if_neg (by decide)).symm.trans E
      have E := (if_neg (by decide)).symm.trans E
      have E := (if_neg (by decide)).symm.trans E
      have E := (if_neg (by decide)).symm.trans E
      have E := (if_neg (by decide)).symm.trans E
      have E := (if_pos rfl).symm.trans E
      refine ea_iload (pc := 320) dX12_goings_320 2 rfl ?_
      refine ea_aload_n (pc := 322) dX12_goings_322 rfl 0 rfl ?_
      refine ea_getI (pc := 323) dX12_goings_323 ec_12 (k := 1) (Nat.le_of_ble_eq_true rfl) rfl (Or.inl ew_1346) (hs.1 0 (by decide)).1 (hs.1 0 (by decide)).2.1 ?_
      refine ea_icmp_ge (pc := 326) (tgt := 427) dX12_goings_326 rfl (fun c45 => ?_) (fun c45 => ?_)
      · have E := (if_pos c45).symm.trans E
        cases E
        exact ea_return (pc := 427) dX12_goings_427 rfl
      · have E := (if_neg c45).symm.trans E
        refine ea_aload_n (pc := 329) dX12_goings_329 rfl 0 rfl ?_
        refine ea_getR (pc := 330) dX12_goings_330 ec_12 (k := 23) (Nat.le_of_ble_eq_true rfl) rfl (Or.inl ew_1368) (hs.1 0 (by decide)).1 (hs.1 0 (by decide)).2.1 (hs.2 0 23 rfl) ?_
        refine ea_iload_n (pc := 333) dX12_goings_333 rfl 1 rfl ?_
        obtain ⟨z41, E⟩ := gd_some E
        refine ea_iald (pc := 334) dX12_goings_334 (hs.1 19 (by decide)).1 (hs.1 19 (by decide)).2.1 (ea_vpl (hs.1 19 (by decide)).2.2 z41) ?_
        refine ea_iconst (pc := 335) dX12_goings_335 (v := (-1)) rfl ?_
        refine ea_icmp_ne (pc := 336) (tgt := 343) dX12_goings_336 rfl (fun c44 => ?_) (fun c44 => ?_)
        · have E := (if_neg c44).symm.trans E
          refine ea_aload_n (pc := 343) dX12_goings_343 rfl 0 rfl ?_
          refine ea_getR (pc := 344) dX12_goings_344 ec_12 (k := 22) (Nat.le_of_ble_eq_true rfl) rfl (Or.inl ew_1367) (hs.1 0 (by decide)).1 (hs.1 0 (by decide)).2.1 (hs.2 0 22 rfl) ?_
          refine ea_bipush (pc := 347) dX12_goings_347 (v := 12) rfl ?_
          refine ea_aload_n (pc := 349) dX12_goings_349 rfl 0 rfl ?_
          refine ea_getR (pc := 350) dX12_goings_350 ec_12 (k := 23) (Nat.le_of_ble_eq_true rfl) rfl (Or.inl ew_1368) (hs.1 0 (by decide)).1 (hs.1 0 (by decide)).2.1 (hs.2 0 23 rfl) ?_
          refine ea_iload_n (pc := 353) dX12_goings_353 rfl 1 rfl ?_
          obtain ⟨z42, E⟩ := gd_some E
          refine ea_iald (pc := 354) dX12_goings_354 (hs.1 19 (by decide)).1 (hs.1 19 (by decide)).2.1 (ea_vpl (hs.1 19 (by decide)).2.2 z42) ?_
          refine ea_imul (pc := 355) dX12_goings_355 ?_
          refine ea_iload (pc := 356) dX12_goings_356 2 rfl ?_
          refine ea_iadd (pc := 358) dX12_goings_358 ?_
          obtain ⟨z43, E⟩ := gd_some E
          refine ea_iald (pc := 359) dX12_goings_359 (hs.1 18 (by decide)).1 (hs.1 18 (by decide)).2.1 (ea_vpl (hs.1 18 (by decide)).2.2 z43) ?_
          exact ((ih 360 ((ea_i h (b0 + 18) (Int32.toNatClampNeg (((12 : Int32) * (ea_i h (b0 + 19) (Int32.toNatClampNeg x1))) + x4))) : Int32) (x1 : Int32) 0 0 0 0 0 (x4 : Int32) 0 0 0 0 h _ _ E hs).2.2.2.2.2.2.2.2.2.2 rfl)
        · have E := (if_pos c44).symm.trans E
          refine ea_iconst (pc := 339) dX12_goings_339 (v := (-1)) rfl ?_
          refine ea_goto (pc := 340) (tgt := 360) dX12_goings_340 rfl ?_
          exact ((ih 360 ((-1) : Int32) (x1 : Int32) 0 0 0 0 0 (x4 : Int32) 0 0 0 0 h _ _ E hs).2.2.2.2.2.2.2.2.2.2 rfl)
    intro el
    subst el
    have E := (if_neg (by decide)).symm.trans E
    have E := (if_neg (by decide)).symm.trans E
    have E := (if_neg (by decide)).symm.trans E
    have E := (if_neg (by decide)).symm.trans E
    have E := (if_neg (by decide)).symm.trans E
    have E := (if_neg (by decide)).symm.trans E
    have E := (if_neg (by decide)).symm.trans E
    have E := (if_neg (by decide)).symm.trans E
    have E := (if_neg (by decide)).symm.trans E
    have E := (if_neg (by decide)).symm.trans E
    have E := (if_pos rfl).symm.trans E
    refine ea_istore (pc := 360) (lv' := [(0, vR (some (b0 + 0))), (1, vI x1), (4, vI x4), (5, vI sx0)]) dX12_goings_360 (Nat.le_of_ble_eq_true rfl) [1, 2, 3, 0] rfl ?_
    refine ea_aload_n (pc := 362) dX12_goings_362 rfl 0 rfl ?_
    refine ea_getR (pc := 363) dX12_goings_363 ec_12 (k := 22) (Nat.le_of_ble_eq_true rfl) rfl (Or.inl ew_1367) (hs.1 0 (by decide)).1 (hs.1 0 (by decide)).2.1 (hs.2 0 22 rfl) ?_
    refine ea_bipush (pc := 366) dX12_goings_366 (v := 12) rfl ?_
    refine ea_iload_n (pc := 368) dX12_goings_368 rfl 1 rfl ?_
    refine ea_imul (pc := 369) dX12_goings_369 ?_
    refine ea_iload (pc := 370) dX12_goings_370 2 rfl ?_
    refine ea_iadd (pc := 372) dX12_goings_372 ?_
    refine ea_aload_n (pc := 373) dX12_goings_373 rfl 0 rfl ?_
    refine ea_getR (pc := 374) dX12_goings_374 ec_12 (k := 19) (Nat.le_of_ble_eq_true rfl) rfl (Or.inl ew_1364) (hs.1 0 (by decide)).1 (hs.1 0 (by decide)).2.1 (hs.2 0 19 rfl) ?_
    refine ea_bipush (pc := 377) dX12_goings_377 (v := 12) rfl ?_
    refine ea_iload_n (pc := 379) dX12_goings_379 rfl 1 rfl ?_
    refine ea_imul (pc := 380) dX12_goings_380 ?_
    refine ea_iload (pc := 381) dX12_goings_381 2 rfl ?_
    refine ea_iadd (pc := 383) dX12_goings_383 ?_
    obtain ⟨z46, E⟩ := gd_some E
    refine ea_iald (pc := 384) dX12_goings_384 (hs.1 15 (by decide)).1 (hs.1 15 (by decide)).2.1 (ea_vpl (hs.1 15 (by decide)).2.2 z46) ?_
    refine ea_ldcw (pc := 385) dX12_goings_385 ew_1727 ?_
    refine ea_icmp_ne (pc := 388) (tgt := 396) dX12_goings_388 rfl (fun c58 => ?_) (fun c58 => ?_)
    · have E := (if_neg c58).symm.trans E
      refine ea_iload (pc := 396) dX12_goings_396 3 rfl ?_
      refine ea_iconst (pc := 398) dX12_goings_398 (v := (-1)) rfl ?_
      refine ea_icmp_eq (pc := 399) (tgt := 414) dX12_goings_399 rfl (fun c55 => ?_) (fun c55 => ?_)
      · have E := (if_pos c55).symm.trans E
        refine ea_iload_n (pc := 414) dX12_goings_414 rfl 1 rfl ?_
        refine ea_goto (pc := 415) (tgt := 420) dX12_goings_415 rfl ?_
        obtain ⟨z47, E⟩ := gd_some E
        refine ea_iast (pc := 420) dX12_goings_420 (hs.1 18 (by decide)).1 (hs.1 18 (by decide)).2.1 (ea_vpl (hs.1 18 (by decide)).2.2 z47) ?_
        have hs48 : ShM b0 (ea_wi h (b0 + 18) (Int32.toNatClampNeg (((12 : Int32) * x1) + x4)) x1) := ShM_wi hs
        refine ea_iinc (pc := 421) (v := 1) (lv' := [(0, vR (some (b0 + 0))), (1, vI x1), (4, vI (x4 + (1 : Int32)))]) dX12_goings_421 2 rfl rfl (Nat.le_of_ble_eq_true rfl) [1, 2, 0] rfl ?_
        refine ea_goto (pc := 424) (tgt := 320) dX12_goings_424 rfl ?_
        exact ((ih 320 0 (x1 : Int32) 0 0 0 0 0 ((x4 + (1 : Int32)) : Int32) 0 0 0 0 (ea_wi h (b0 + 18) (Int32.toNatClampNeg (((12 : Int32) * x1) + x4)) x1) _ _ E hs48).2.2.2.2.2.2.2.2.2.1 rfl)
      · have E := (if_neg c55).symm.trans E
        refine ea_aload_n (pc := 402) dX12_goings_402 rfl 0 rfl ?_
        refine ea_iload_n (pc := 403) dX12_goings_403 rfl 1 rfl ?_
        refine ea_iload (pc := 404) dX12_goings_404 3 rfl ?_
        refine ea_iload (pc := 406) dX12_goings_406 2 rfl ?_
        obtain ⟨z49, E⟩ := gd_some E
        refine ea_callV (pc := 408) (d' := d - 1) (As := [vI x1, vI sx0, vI x4]) (st := [vI (((12 : Int32) * x1) + x4), vR (some (b0 + 18))]) dX12_goings_408 kX12_isBetter (sX12_isBetter (d := d - 1) (by omega) hs z49) (by omega) rfl (Nat.le_of_ble_eq_true rfl) ew_1806 ew_1808 ew_62 (ci := 12) rfl (by decide) (hs.1 0 (by decide)).1 (hs.1 0 (by decide)).2.1 ?_
        refine ea_if_eq (pc := 411) (tgt := 418) dX12_goings_411 rfl (fun c54 => ?_) (fun c54 => ?_)
        · have E := (if_pos c54).symm.trans E
          refine ea_iload (pc := 418) dX12_goings_418 3 rfl ?_
          obtain ⟨z50, E⟩ := gd_some E
          refine ea_iast (pc := 420) dX12_goings_420 (hs.1 18 (by decide)).1 (hs.1 18 (by decide)).2.1 (ea_vpl (hs.1 18 (by decide)).2.2 z50) ?_
          have hs51 : ShM b0 (ea_wi h (b0 + 18) (Int32.toNatClampNeg (((12 : Int32) * x1) + x4)) sx0) := ShM_wi hs
          refine ea_iinc (pc := 421) (v := 1) (lv' := [(0, vR (some (b0 + 0))), (1, vI x1), (4, vI (x4 + (1 : Int32)))]) dX12_goings_421 2 rfl rfl (Nat.le_of_ble_eq_true rfl) [1, 2, 0] rfl ?_
          refine ea_goto (pc := 424) (tgt := 320) dX12_goings_424 rfl ?_
          exact ((ih 320 0 (x1 : Int32) 0 0 0 0 0 ((x4 + (1 : Int32)) : Int32) 0 0 0 0 (ea_wi h (b0 + 18) (Int32.toNatClampNeg (((12 : Int32) * x1) + x4)) sx0) _ _ E hs51).2.2.2.2.2.2.2.2.2.1 rfl)
        · have E := (if_neg c54).symm.trans E
          refine ea_iload_n (pc := 414) dX12_goings_414 rfl 1 rfl ?_
          refine ea_goto (pc := 415) (tgt := 420) dX12_goings_415 rfl ?_
          obtain ⟨z52, E⟩ := gd_some E
          refine ea_iast (pc := 420) dX12_goings_420 (hs.1 18 (by decide)).1 (hs.1 18 (by decide)).2.1 (ea_vpl (hs.1 18 (by decide)).2.2 z52) ?_
          have hs53 : ShM b0 (ea_wi h (b0 + 18) (Int32.toNatClampNeg (((12 : Int32) * x1) + x4)) x1) := ShM_wi hs
          refine ea_iinc (pc := 421) (v := 1) (lv' := [(0, vR (some (b0 + 0))), (1, vI x1), (4, vI (x4 + (1 : Int32)))]) dX12_goings_421 2 rfl rfl (Nat.le_of_ble_eq_true rfl) [1, 2, 0] rfl ?_
          refine ea_goto (pc := 424) (tgt := 320) dX12_goings_424 rfl ?_
          exact ((ih 320 0 (x1 : Int32) 0 0 0 0 0 ((x4 + (1 : Int32)) : Int32) 0 0 0 0 (ea_wi h (b0 + 18) (Int32.toNatClampNeg (((12 : Int32) * x1) + x4)) x1) _ _ E hs53).2.2.2.2.2.2.2.2.2.1 rfl)
    · have E := (if_pos c58).symm.trans E
      refine ea_iload (pc := 391) dX12_goings_391 3 rfl ?_
      refine ea_goto (pc := 393) (tgt := 420) dX12_goings_393 rfl ?_
      obtain ⟨z56, E⟩ := gd_some E
      refine ea_iast (pc := 420) dX12_goings_420 (hs.1 18 (by decide)).1 (hs.1 18 (by decide)).2.1 (ea_vpl (hs.1 18 (by decide)).2.2 z56) ?_
      have hs57 : ShM b0 (ea_wi h (b0 + 18) (Int32.toNatClampNeg (((12 : Int32) * x1) + x4)) sx0) := ShM_wi hs
      refine ea_iinc (pc := 421) (v := 1) (lv' := [(0, vR (some (b0 + 0))), (1, vI x1), (4, vI (x4 + (1 : Int32)))]) dX12_goings_421 2 rfl rfl (Nat.le_of_ble_eq_true rfl) [1, 2, 0] rfl ?_
      refine ea_goto (pc := 424) (tgt := 320) dX12_goings_424 rfl ?_
      exact ((ih 320 0 (x1 : Int32) 0 0 0 0 0 ((x4 + (1 : Int32)) : Int32) 0 0 0 0 (ea_wi h (b0 + 18) (Int32.toNatClampNeg (((12 : Int32) * x1) + x4)) sx0) _ _ E hs57).2.2.2.2.2.2.2.2.2.1 rfl)
noncomputable def qX12_goings (b0 : Nat) (x1 : Int32) (h : ea_H) : Option (Unit × ea_H) := gX12_goings b0 1000000000 0 0 x1 0 0 0 0 0 0 0 0 0 0 h
def okX12_goings (b0 : Nat) (x1 : Int32) (h : ea_H) : Prop := ∃ x, qX12_goings b0 x1 h = some x
noncomputable def wX12_goings (b0 : Nat) (x1 : Int32) (h : ea_H) : ea_H := ((qX12_goings b0 x1 h).getD ((), h)).2
theorem sX12_goings {d : Nat} {b0 : Nat} {x1 : Int32} {h : ea_H} (hd : 2 ≤ d) (hs : ShM b0 h) (K : okX12_goings b0 x1 h) : ea_Met mX12_goings d [vR (some (b0 + 0)), vI x1] h none (wX12_goings b0 x1 h) := by
  obtain ⟨⟨x, y⟩, K⟩ := K
  unfold wX12_goings
  rw [K]
  unfold qX12_goings at K
  exact ea_enter rfl (Nat.le_of_ble_eq_true rfl) ((tX12_goings hd 1000000000 0 0 x1 0 0 0 0 0 0 0 0 0 0 h x y K hs).1 rfl)
theorem zX12_goings {b0 : Nat} : ∀ (f lbl : Nat) (sx0 : Int32) (x1 : Int32) (x10 : Int32) (x11 : Int32) (x12 : Int32) (x2 : Int32) (x3 : Int32) (x4 : Int32) (x5 : Int32) (x6 : Int32) (x7 : Int32) (x8 : Int32) (h : ea_H) (r : Unit) (h' : ea_H), gX12_goings b0 f lbl sx0 x1 x10 x11 x12 x2 x3 x4 x5 x6 x7 x8 h = some (r, h') → ShM b0 h → ShM b0 h' := by
  intro f
  induction f with
  | zero => intro lbl sx0 x1 x10 x11 x12 x2 x3 x4 x5 x6 x7 x8 h r h' E; cases E
  | succ f ih =>
    intro lbl sx0 x1 x10 x11 x12 x2 x3 x4 x5 x6 x7 x8 h r h' E hs
    unfold gX12_goings at E
    by_cases el0 : lbl = 0
    · have E := (if_pos el0).symm.trans E
      obtain ⟨z1, E⟩ := gd_some E
      obtain ⟨z2, E⟩ := gd_some E
      obtain ⟨z3, E⟩ := gd_some E
      exact ih 22 0 (x1 : Int32) 0 0 0 ((ea_i h (b0 + 12) (Int32.toNatClampNeg x1)) : Int32) ((vX12_townOf b0 ((ea_i h (b0 + 12) (Int32.toNatClampNeg x1)) : Int32) ((ea_i h (b0 + 13) (Int32.toNatClampNeg x1)) : Int32) h) : Int32) (0 : Int32) 0 0 0 0 h _ _ E hs
    have E := (if_neg el0).symm.trans E
    by_cases el1 : lbl = 22
    · have E := (if_pos el1).symm.trans E
      by_cases c12 : (ea_i h (b0 + 0) 1) ≤ x4
      · have E := (if_pos c12).symm.trans E
        obtain ⟨z4, E⟩ := gd_some E
        obtain ⟨z5, E⟩ := gd_some E
        obtain ⟨z7, E⟩ := gd_some E
        exact ih 320 0 (x1 : Int32) 0 0 0 0 0 (0 : Int32) 0 0 0 0 (ea_wi (ea_wi h (b0 + 19) (Int32.toNatClampNeg x1) (ea_i h (b0 + 20) (Int32.toNatClampNeg x3))) (b0 + 20) (Int32.toNatClampNeg x3) x1) _ _ E (ShM_wi (ShM_wi hs))
      have E := (if_neg c12).symm.trans E
      obtain ⟨z9, E⟩ := gd_some E
      obtain ⟨z11, E⟩ := gd_some E
      exact ih 60 0 (x1 : Int32) 0 0 0 (x2 : Int32) (x3 : Int32) (x4 : Int32) ((((12 : Int32) * x1) + x4) : Int32) (((ea_i (ea_wi h (b0 + 15) (Int32.toNatClampNeg (((12 : Int32) * x1) + x4)) 1000000) (b0 + 13) (Int32.toNatClampNeg x1)) + (1 : Int32)) : Int32) 0 0 (ea_wi h (b0 + 15) (Int32.toNatClampNeg (((12 : Int32) * x1) + x4)) 1000000) _ _ E (ShM_wi hs)
    have E := (if_neg el1).symm.trans E
    by_cases el2 : lbl = 60
    · have E := (if_pos el2).symm.trans E
      obtain ⟨z13, E⟩ := gd_some E
      by_cases c20 : (ea_i h (b0 + 2) (Int32.toNatClampNeg (x2 / (7 : Int32)))) ≤ x6
      · have E := (if_pos c20).symm.trans E
        exact ih 22 0 (x1 : Int32) 0 0 0 (x2 : Int32) (x3 : Int32) ((x4 + (1 : Int32)) : Int32) 0 0 0 0 h _ _ E hs
      have E := (if_neg c20).symm.trans E
      obtain ⟨z14, E⟩ := gd_some E
      by_cases c19 : (vX12_comesAt b0 (x2 : Int32) (x6 : Int32) h) ≤ (10079 : Int32)
      · have E := (if_pos c19).symm.trans E
        obtain ⟨z15, E⟩ := gd_some E
        by_cases c18 : (vX12_townOf b0 (x2 : Int32) (x6 : Int32) h) = x4
        · have E := (if_pos c18).symm.trans E
          exact ih 122 ((-1) : Int32) (x1 : Int32) 0 0 0 (x2 : Int32) (x3 : Int32) (x4 : Int32) (x5 : Int32) (x6 : Int32) ((vX12_comesAt b0 (x2 : Int32) (x6 : Int32) h) : Int32) ((vX12_townOf b0 (x2 : Int32) (x6 : Int32) h) : Int32) h _ _ E hs
        have E := (if_neg c18).symm.trans E
        obtain ⟨z16, E⟩ := gd_some E
        exact ih 122 ((vX12_going b0 ((vX12_townOf b0 (x2 : Int32) (x6 : Int32) h) : Int32) ((vX12_comesAt b0 (x2 : Int32) (x6 : Int32) h) : Int32) h) : Int32) (x1 : Int32) 0 0 0 (x2 : Int32) (x3 : Int32) (x4 : Int32) (x5 : Int32) (x6 : Int32) ((vX12_comesAt b0 (x2 : Int32) (x6 : Int32) h) : Int32) ((vX12_townOf b0 (x2 : Int32) (x6 : Int32) h) : Int32) (wX12_going b0 ((vX12_townOf b0 (x2 : Int32) (x6 : Int32) h) : Int32) ((vX12_comesAt b0 (x2 : Int32) (x6 : Int32) h) : Int32) h) _ _ E (shX12_going hs)
      have E := (if_neg c19).symm.trans E
      exact ih 22 0 (x1 : Int32) 0 0 0 (x2 : Int32) (x3 : Int32) ((x4 + (1 : Int32)) : Int32) 0 0 0 0 h _ _ E hs
    have E := (if_neg el2).symm.trans E
    by_cases el3 : lbl = 122
    · have E := (if_pos el3).symm.trans E
      by_cases c22 : sx0 = ((-1) : Int32)
      · have E := (if_pos c22).symm.trans E
        exact ih 147 ((-1) : Int32) (x1 : Int32) 0 0 0 (x2 : Int32) (x3 : Int32) (x4 : Int32) (x5 : Int32) (x6 : Int32) (x7 : Int32) (x8 : Int32) h _ _ E hs
      have E := (if_neg c22).symm.trans E
      obtain ⟨z21, E⟩ := gd_some E
      exact ih 147 ((ea_i h (b0 + 18) (Int32.toNatClampNeg (((12 : Int32) * sx0) + x4))) : Int32) (x1 : Int32) 0 0 0 (x2 : Int32) (x3 : Int32) (x4 : Int32) (x5 : Int32) (x6 : Int32) (x7 : Int32) (x8 : Int32) h _ _ E hs
    have E := (if_neg el3).symm.trans E
    by_cases el4 : lbl = 147
    · have E := (if_pos el4).symm.trans E
      by_cases c24 : x8 = x4
      · have E := (if_pos c24).symm.trans E
        exact ih 165 0 (x1 : Int32) (sx0 : Int32) 0 0 (x2 : Int32) (x3 : Int32) (x4 : Int32) (x5 : Int32) (x6 : Int32) (x7 : Int32) (x8 : Int32) h _ _ E hs
      have E := (if_neg c24).symm.trans E
      by_cases c23 : sx0 = ((-1) : Int32)
      · have E := (if_pos c23).symm.trans E
        exact ih 60 0 (x1 : Int32) 0 0 0 (x2 : Int32) (x3 : Int32) (x4 : Int32) (x5 : Int32) ((x6 + (1 : Int32)) : Int32) 0 0 h _ _ E hs
      have E := (if_neg c23).symm.trans E
      exact ih 165 0 (x1 : Int32) (sx0 : Int32) 0 0 (x2 : Int32) (x3 : Int32) (x4 : Int32) (x5 : Int32) (x6 : Int32) (x7 : Int32) (x8 : Int32) h _ _ E hs
    have E := (if_neg el4).symm.trans E
    by_cases el5 : lbl = 165
    · have E := (if_pos el5).symm.trans E
      by_cases c26 : x8 = x4
      · have E := (if_pos c26).symm.trans E
        exact ih 190 (x7 : Int32) (x1 : Int32) (x10 : Int32) 0 0 (x2 : Int32) (x3 : Int32) (x4 : Int32) (x5 : Int32) (x6 : Int32) 0 (x8 : Int32) h _ _ E hs
      have E := (if_neg c26).symm.trans E
      obtain ⟨z25, E⟩ := gd_some E
      exact ih 190 ((ea_i h (b0 + 15) (Int32.toNatClampNeg (((12 : Int32) * x10) + x4))) : Int32) (x1 : Int32) (x10 : Int32) 0 0 (x2 : Int32) (x3 : Int32) (x4 : Int32) (x5 : Int32) (x6 : Int32) 0 (x8 : Int32) h _ _ E hs
    have E := (if_neg el5).symm.trans E
    by_cases el6 : lbl = 190
    · have E := (if_pos el6).symm.trans E
      by_cases c28 : x8 = x4
      · have E := (if_pos c28).symm.trans E
        exact ih 218 (1 : Int32) (x1 : Int32) 0 (sx0 : Int32) 0 (x2 : Int32) (x3 : Int32) (x4 : Int32) (x5 : Int32) (x6 : Int32) 0 0 h _ _ E hs
      have E := (if_neg c28).symm.trans E
      obtain ⟨z27, E⟩ := gd_some E
      exact ih 218 (((ea_i h (b0 + 16) (Int32.toNatClampNeg (((12 : Int32) * x10) + x4))) + (1 : Int32)) : Int32) (x1 : Int32) 0 (sx0 : Int32) 0 (x2 : Int32) (x3 : Int32) (x4 : Int32) (x5 : Int32) (x6 : Int32) 0 0 h _ _ E hs
    have E := (if_neg el6).symm.trans E
    by_cases el7 : lbl = 218
    · have E := (if_pos el7).symm.trans E
      obtain ⟨z29, E⟩ := gd_some E
      by_cases c34 : (ea_i h (b0 + 15) (Int32.toNatClampNeg x5)) < x11
      · have E := (if_pos c34).symm.trans E
        exact ih 60 0 (x1 : Int32) 0 0 0 (x2 : Int32) (x3 : Int32) (x4 : Int32) (x5 : Int32) ((x6 + (1 : Int32)) : Int32) 0 0 h _ _ E hs
      have E := (if_neg c34).symm.trans E
      obtain ⟨z30, E⟩ := gd_some E
      by_cases c33 : x11 = (ea_i h (b0 + 15) (Int32.toNatClampNeg x5))
      · have E := (if_pos c33).symm.trans E
        obtain ⟨z31, E⟩ := gd_some E
        by_cases c32 : sx0 < (ea_i h (b0 + 16) (Int32.toNatClampNeg x5))
        · have E := (if_pos c32).symm.trans E
          exact ih 259 0 (x1 : Int32) 0 (x11 : Int32) (sx0 : Int32) (x2 : Int32) (x3 : Int32) (x4 : Int32) (x5 : Int32) (x6 : Int32) 0 0 h _ _ E hs
        have E := (if_neg c32).symm.trans E
        exact ih 60 0 (x1 : Int32) 0 0 0 (x2 : Int32) (x3 : Int32) (x4 : Int32) (x5 : Int32) ((x6 + (1 : Int32)) : Int32) 0 0 h _ _ E hs
      have E := (if_neg c33).symm.trans E
      exact ih 259 0 (x1 : Int32) 0 (x11 : Int32) (sx0 : Int32) (x2 : Int32) (x3 : Int32) (x4 : Int32) (x5 : Int32) (x6 : Int32) 0 0 h _ _ E hs
    have E := (if_neg el7).symm.trans E
    by_cases el8 : lbl = 259
    · have E := (if_pos el8).symm.trans E
      obtain ⟨z35, E⟩ := gd_some E
      obtain ⟨z37, E⟩ := gd_some E
      obtain ⟨z39, E⟩ := gd_some E
      exact ih 60 0 (x1 : Int32) 0 0 0 (x2 : Int32) (x3 : Int32) (x4 : Int32) (x5 : Int32) ((x6 + (1 : Int32)) : Int32) 0 0 (ea_wi (ea_wi (ea_wi h (b0 + 15) (Int32.toNatClampNeg x5) x11) (b0 + 16) (Int32.toNatClampNeg x5) x12) (b0 + 17) (Int32.toNatClampNeg x5) x6) _ _ E (ShM_wi (ShM_wi (ShM_wi hs)))
    have E := (if_neg el8).symm.trans E
    by_cases el9 : lbl = 320
    · have E := (if_pos el9).symm.trans E
      by_cases c45 : (ea_i h (b0 + 0) 1) ≤ x4
      · have E := (if_pos c45).symm.trans E
        cases E
        exact hs
      have E := (if_neg c45).symm.trans E
      obtain ⟨z41, E⟩ := gd_some E
      by_cases c44 : (ea_i h (b0 + 19) (Int32.toNatClampNeg x1)) = ((-1) : Int32)
      · have E := (if_pos c44).symm.trans E
        exact ih 360 ((-1) : Int32) (x1 : Int32) 0 0 0 0 0 (x4 : Int32) 0 0 0 0 h _ _ E hs
      have E := (if_neg c44).symm.trans E
      obtain ⟨z42, E⟩ := gd_some E
      obtain ⟨z43, E⟩ := gd_some E
      exact ih 360 ((ea_i h (b0 + 18) (Int32.toNatClampNeg (((12 : Int32) * (ea_i h (b0 + 19) (Int32.toNatClampNeg x1))) + x4))) : Int32) (x1 : Int32) 0 0 0 0 0 (x4 : Int32) 0 0 0 0 h _ _ E hs
    have E := (if_neg el9).symm.trans E
    by_cases el10 : lbl = 360
    · have E := (if_pos el10).symm.trans E
      obtain ⟨z46, E⟩ := gd_some E
      by_cases c58 : (ea_i h (b0 + 15) (Int32.toNatClampNeg (((12 : Int32) * x1) + x4))) = (1000000 : Int32)
      · have E := (if_pos c58).symm.trans E
        obtain ⟨z56, E⟩ := gd_some E
        exact ih 320 0 (x1 : Int32) 0 0 0 0 0 ((x4 + (1 : Int32)) : Int32) 0 0 0 0 (ea_wi h (b0 + 18) (Int32.toNatClampNeg (((12 : Int32) * x1) + x4)) sx0) _ _ E (ShM_wi hs)
      have E := (if_neg c58).symm.trans E
      by_cases c55 : sx0 = ((-1) : Int32)
      · have E := (if_pos c55).symm.trans E
        obtain ⟨z47, E⟩ := gd_some E
        exact ih 320 0 (x1 : Int32) 0 0 0 0 0 ((x4 + (1 : Int32)) : Int32) 0 0 0 0 (ea_wi h (b0 + 18) (Int32.toNatClampNeg (((12 : Int32) * x1) + x4)) x1) _ _ E (ShM_wi hs)
      have E := (if_neg c55).symm.trans E
      obtain ⟨z49, E⟩ := gd_some E
      by_cases c54 : (vX12_isBetter b0 (x1 : Int32) (sx0 : Int32) (x4 : Int32) h) = (0 : Int32)
      · have E := (if_pos c54).symm.trans E
        obtain ⟨z50, E⟩ := gd_some E
        exact ih 320 0 (x1 : Int32) 0 0 0 0 0 ((x4 + (1 : Int32)) : Int32) 0 0 0 0 (ea_wi h (b0 + 18) (Int32.toNatClampNeg (((12 : Int32) * x1) + x4)) sx0) _ _ E (ShM_wi hs)
      have E := (if_neg c54).symm.trans E
      obtain ⟨z52, E⟩ := gd_some E
      exact ih 320 0 (x1 : Int32) 0 0 0 0 0 ((x4 + (1 : Int32)) : Int32) 0 0 0 0 (ea_wi h (b0 + 18) (Int32.toNatClampNeg (((12 : Int32) * x1) + x4)) x1) _ _ E (ShM_wi hs)
    have E := (if_neg el10).symm.trans E
    cases E
theorem shX12_goings {b0 : Nat} {x1 : Int32} {h : ea_H} (hs : ShM b0 h) : ShM b0 (wX12_goings b0 x1 h) := by
  unfold wX12_goings
  cases K : qX12_goings b0 x1 h with
  | none => exact hs
  | some x => obtain ⟨x, y⟩ := x; unfold qX12_goings at K; exact zX12_goings _ _ _ _ _ _ _ _ _ _ _ _ _ _ _ _ _ K hs
noncomputable def gX12_run_ (b0 : Nat) : Nat → Nat → Int32 → Int32 → Int32 → Int32 → Int32 → Int32 → Int32 → Int32 → Int32 → ea_H → Option (Int32 × ea_H)
  | 0, _, _, _, _, _, _, _, _, _, _, _ => none
  | f + 1, lbl, sx0, sx1, sx2, x1, x2, x3, x4, x5, x6, h =>
    if lbl = 0 then (if (vX12_isTrain b0 (x1 : Int32) h) = (0 : Int32) then (some (((-1) : Int32), h)) else (if (vX12_isDay (x2 : Int32) h) = (0 : Int32) then (some (((-1) : Int32), h)) else (if Int32.toInt x3 = 0 then (gX12_run_ b0 f 67 0 0 0 0 0 (x3 : Int32) ((vX12_run (x1 : Int32) (x2 : Int32) h) : Int32) (0 : Int32) (0 : Int32) h) else (if Int32.toInt x3 = 1 then (gX12_run_ b0 f 67 0 0 0 0 0 (x3 : Int32) ((vX12_run (x1 : Int32) (x2 : Int32) h) : Int32) (0 : Int32) (0 : Int32) h) else (if Int32.toInt x3 = 2 then (gd ((okX12_gone b0 ((vX12_run (x1 : Int32) (x2 : Int32) h) : Int32) h)) (some ((vX12_gone b0 ((vX12_run (x1 : Int32) (x2 : Int32) h) : Int32) h), (wX12_gone b0 ((vX12_run (x1 : Int32) (x2 : Int32) h) : Int32) h)))) else (if Int32.toInt x3 = 3 then (gd (vp_in (vX12_run (x1 : Int32) (x2 : Int32) h) 70) (some ((ea_i h (b0 + 60) (Int32.toNatClampNeg (vX12_run (x1 : Int32) (x2 : Int32) h))), h))) else (if Int32.toInt x3 = 4 then (gd (vp_in (vX12_run (x1 : Int32) (x2 : Int32) h) 70) (some ((ea_i h (b0 + 6) (Int32.toNatClampNeg (vX12_run (x1 : Int32) (x2 : Int32) h))), h))) else (some (((-1) : Int32), h))))))))) else
    if lbl = 67 then (if (ea_i h (b0 + 0) 63) ≤ x6 then (some (x5, h)) else (gd ((okX12_isAboard b0 (x6 : Int32) (x4 : Int32) h)) (if (vX12_isAboard b0 (x6 : Int32) (x4 : Int32) h) = (0 : Int32) then (gX12_run_ b0 f 67 0 0 0 0 0 (x3 : Int32) (x4 : Int32) ((x5 + (0 : Int32)) : Int32) ((x6 + (1 : Int32)) : Int32) h) else (gd (vp_in x6 120) (if x3 = (1 : Int32) then (gX12_run_ b0 f 106 (1 : Int32) ((ea_i h (b0 + 61) (Int32.toNatClampNeg x6)) : Int32) (x5 : Int32) 0 0 (x3 : Int32) (x4 : Int32) 0 (x6 : Int32) h) else (gX12_run_ b0 f 106 (0 : Int32) ((ea_i h (b0 + 61) (Int32.toNatClampNeg x6)) : Int32) (x5 : Int32) 0 0 (x3 : Int32) (x4 : Int32) 0 (x6 : Int32) h)))))) else
    if lbl = 106 then (if sx1 = sx0 then (gX12_run_ b0 f 67 0 0 0 0 0 (x3 : Int32) (x4 : Int32) ((sx2 + (1 : Int32)) : Int32) ((x6 + (1 : Int32)) : Int32) h) else (gX12_run_ b0 f 67 0 0 0 0 0 (x3 : Int32) (x4 : Int32) ((sx2 + (0 : Int32)) : Int32) ((x6 + (1 : Int32)) : Int32) h)) else none
theorem tX12_run_ {d : Nat} {b0 : Nat} {h0 : ea_H} (hd : 3 ≤ d) : ∀ (f lbl : Nat) (sx0 : Int32) (sx1 : Int32) (sx2 : Int32) (x1 : Int32) (x2 : Int32) (x3 : Int32) (x4 : Int32) (x5 : Int32) (x6 : Int32) (h : ea_H) (r : Int32) (h' : ea_H), gX12_run_ b0 f lbl sx0 sx1 sx2 x1 x2 x3 x4 x5 x6 h = some (r, h') → ShM b0 h → (lbl = 0 → ea_W mX12_run_ d h0 (some (vI r)) h' 0 [(0, vR (some (b0 + 0))), (1, vI x1), (2, vI x2), (3, vI x3)] [] h) ∧ (lbl = 67 → ea_W mX12_run_ d h0 (some (vI r)) h' 67 [(0, vR (some (b0 + 0))), (3, vI x3), (4, vI x4), (5, vI x5), (6, vI x6)] [] h) ∧ (lbl = 106 → ea_W mX12_run_ d h0 (some (vI r)) h' 106 [(0, vR (some (b0 + 0))), (3, vI x3), (4, vI x4), (6, vI x6)] [vI sx0, vI sx1, vI sx2] h) := by
  intro f
  induction f with
  | zero => intro lbl sx0 sx1 sx2 x1 x2 x3 x4 x5 x6 h r h' E; cases E
  | succ f ih =>
    intro lbl sx0 sx1 sx2 x1 x2 x3 x4 x5 x6 h r h' E hs
    unfold gX12_run_ at E
    refine ⟨?_, ?_⟩
    · intro el
      subst el
      have E := (if_pos rfl).symm.trans E
      refine ea_aload_n (pc := 0) dX12_run__0 rfl 0 rfl ?_
      refine ea_iload_n (pc := 1) dX12_run__1 rfl 1 rfl ?_
      refine ea_callV (pc := 2) (d' := d - 1) (As := [vI x1]) (st := []) dX12_run__2 kX12_isTrain (sX12_isTrain (d := d - 1) (by omega) hs) (by omega) rfl (Nat.le_of_ble_eq_true rfl) ew_1736 ew_1738 ew_50 (ci := 12) rfl (by decide) (hs.1 0 (by decide)).1 (hs.1 0 (by decide)).2.1 ?_
      refine ea_if_eq (pc := 5) (tgt := 15) dX12_run__5 rfl (fun c9 => ?_) (fun c9 => ?_)
      · have E := (if_pos c9).symm.trans E
        refine ea_iconst (pc := 15) dX12_run__15 (v := (-1)) rfl ?_
        cases E
        exact ea_ireturn (pc := 16) dX12_run__16 rfl rfl
      · have E := (if_neg c9).symm.trans E
        refine ea_iload_n (pc := 8) dX12_run__8 rfl 2 rfl ?_
        refine ea_callS (pc := 9) (d' := d - 1) (As := [vI x2]) (st := []) dX12_run__9 kX12_isDay (sX12_isDay (d := d - 1) (by omega)) (by omega) rfl (Nat.le_of_ble_eq_true rfl) ew_1752 ew_1753 ?_
        refine ea_if_ne (pc := 12) (tgt := 17) dX12_run__12 rfl (fun c8 => ?_) (fun c8 => ?_)
        · have E := (if_neg c8).symm.trans E
          refine ea_iload_n (pc := 17) dX12_run__17 rfl 1 rfl ?_
          refine ea_iload_n (pc := 18) dX12_run__18 rfl 2 rfl ?_
          refine ea_callS (pc := 19) (d' := d - 1) (As := [vI x1, vI x2]) (st := []) dX12_run__19 kX12_run (sX12_run (d := d - 1) (by omega)) (by omega) rfl (Nat.le_of_ble_eq_true rfl) ew_1755 ew_1756 ?_
          refine ea_istore (pc := 22) (lv' := [(0, vR (some (b0 + 0))), (3, vI x3), (4, vI (vX12_run (x1 : Int32) (x2 : Int32) h))]) dX12_run__22 (Nat.le_of_ble_eq_true rfl) [1, 4, 0] rfl ?_
          refine ea_iconst (pc := 24) dX12_run__24 (v := 0) rfl ?_
          refine ea_istore (pc := 25) (lv' := [(0, vR (some (b0 + 0))), (3, vI x3), (4, vI (vX12_run (x1 : Int32) (x2 : Int32) h)), (5, vI 0)]) dX12_run__25 (Nat.le_of_ble_eq_true rfl) [1, 2, 3, 0] rfl ?_
          refine ea_iload_n (pc := 27) dX12_run__27 rfl 1 rfl ?_
          by_cases qc28_0 : Int32.toInt x3 = 0
          · have E := (if_pos qc28_0).symm.trans E
            refine ea_tswIn (pc := 28) (tgt := 64) dX12_run__28 (by rw [qc28_0]; decide) (by rw [qc28_0]; decide) (by rw [qc28_0]; rfl) rfl ?_
            refine ea_iconst (pc := 64) dX12_run__64 (v := 0) rfl ?_
            refine ea_istore (pc := 65) (lv' := [(0, vR (some (b0 + 0))), (3, vI x3), (4, vI (vX12_run (x1 : Int32) (x2 : Int32) h)), (5, vI 0), (6, vI 0)]) dX12_run__65 (Nat.le_of_ble_eq_true rfl) [1, 2, 3, 4, 0] rfl ?_
            exact ((ih 67 0 0 0 0 0 (x3 : Int32) ((vX12_run (x1 : Int32) (x2 : Int32) h) : Int32) (0 : Int32) (0 : Int32) h _ _ E hs).2.1 rfl)
          have E := (if_neg qc28_0).symm.trans E
          by_cases qc28_1 : Int32.toInt x3 = 1
          · have E := (if_pos qc28_1).symm.trans E
            refine ea_tswIn (pc := 28) (tgt := 64) dX12_run__28 (by rw [qc28_1]; decide) (by rw [qc28_1]; decide) (by rw [qc28_1]; rfl) rfl ?_
            refine ea_iconst (pc := 64) dX12_run__64 (v := 0) rfl ?_
            refine ea_istore (pc := 65) (lv' := [(0, vR (some (b0 + 0))), (3, vI x3), (4, vI (vX12_run (x1 : Int32) (x2 : Int32) h)), (5, vI 0), (6, vI 0)]) dX12_run__65 (Nat.le_of_ble_eq_true rfl) [1, 2, 3, 4, 0] rfl ?_
            exact ((ih 67 0 0 0 0 0 (x3 : Int32) ((vX12_run (x1 : Int32) (x2 : Int32) h) : Int32) (0 : Int32) (0 : Int32) h _ _ E hs).2.1 rfl)
          have E := (if_neg qc28_1).symm.trans E
          by_cases qc28_2 : Int32.toInt x3 = 2
          · have E := (if_pos qc28_2).symm.trans E
            refine ea_tswIn (pc := 28) (tgt := 126) dX12_run__28 (by rw [qc28_2]; decide) (by rw [qc28_2]; decide) (by rw [qc28_2]; rfl) rfl ?_
            refine ea_aload_n (pc := 126) dX12_run__126 rfl 0 rfl ?_
            refine ea_iload (pc := 127) dX12_run__127 2 rfl ?_
            obtain ⟨z4, E⟩ := gd_some E
            refine ea_callV (pc := 129) (d' := d - 1) (As := [vI (vX12_run (x1 : Int32) (x2 : Int32) h)]) (st := []) dX12_run__129 kX12_gone (sX12_gone (d := d - 1) (by omega) hs z4) (by omega) rfl (Nat.le_of_ble_eq_true rfl) ew_2094 ew_2096 ew_99 (ci := 12) rfl (by decide) (hs.1 0 (by decide)).1 (hs.1 0 (by decide)).2.1 ?_
            have hs5 : ShM b0 (wX12_gone b0 ((vX12_run (x1 : Int32) (x2 : Int32) h) : Int32) h) := shX12_gone hs
            cases E
            exact ea_ireturn (pc := 132) dX12_run__132 rfl rfl
          have E := (if_neg qc28_2).symm.trans E
          by_cases qc28_3 : Int32.toInt x3 = 3
          · have E := (if_pos qc28_3).symm.trans E
            refine ea_tswIn (pc := 28) (tgt := 133) dX12_run__28 (by rw [qc28_3]; decide) (by rw [qc28_3]; decide) (by rw [qc28_3]; rfl) rfl ?_
            refine ea_aload_n (pc := 133) dX12_run__133 rfl 0 rfl ?_
            refine ea_getR (pc := 134) dX12_run__134 ec_12 (k := 86) (Nat.le_of_ble_eq_true rfl) rfl (Or.inl ew_1431) (hs.1 0 (by decide)).1 (hs.1 0 (by decide)).2.1 (hs.2 0 86 rfl) ?_
            refine ea_iload (pc := 137) dX12_run__137 2 rfl ?_
            obtain ⟨z6, E⟩ := gd_some E
            refine ea_iald (pc := 139) dX12_run__139 (hs.1 60 (by decide)).1 (hs.1 60 (by decide)).2.1 (ea_vpl (hs.1 60 (by decide)).2.2 z6) ?_
            cases E
            exact ea_ireturn (pc := 140) dX12_run__140 rfl rfl
          have E := (if_neg qc28_3).symm.trans E
          by_cases qc28_4 : Int32.toInt x3 = 4
          · have E := (if_pos qc28_4).symm.trans E
            refine ea_tswIn (pc := 28) (tgt := 141) dX12_run__28 (by rw [qc28_4]; decide) (by rw [qc28_4]; decide) (by rw [qc28_4]; rfl) rfl ?_
            refine ea_aload_n (pc := 141) dX12_run__141 rfl 0 rfl ?_
            refine ea_getR (pc := 142) dX12_run__142 ec_12 (k := 8) (Nat.le_of_ble_eq_true rfl) rfl (Or.inl ew_1353) (hs.1 0 (by decide)).1 (hs.1 0 (by decide)).2.1 (hs.2 0 8 rfl) ?_
            refine ea_iload (pc := 145) dX12_run__145 2 rfl ?_
            obtain ⟨z7, E⟩ := gd_some E
            refine ea_iald (pc := 147) dX12_run__147 (hs.1 6 (by decide)).1 (hs.1 6 (by decide)).2.1 (ea_vpl (hs.1 6 (by decide)).2.2 z7) ?_
            cases E
            exact ea_ireturn (pc := 148) dX12_run__148 rfl rfl
          have E := (if_neg qc28_4).symm.trans E
          refine ea_tswOut (pc := 28) (tgt := 149) dX12_run__28 (ea_sw_0_4 qc28_0 qc28_1 qc28_2 qc28_3 qc28_4) rfl ?_
          refine ea_iconst (pc := 149) dX12_run__149 (v := (-1)) rfl ?_
          cases E
          exact ea_ireturn (pc := 150) dX12_run__150 rfl rfl
        · have E := (if_pos c8).symm.trans E
          refine ea_iconst (pc := 15) dX12_run__15 (v := (-1)) rfl ?_
          cases E
          exact ea_ireturn (pc := 16) dX12_run__16 rfl rfl
    refine ⟨?_, ?_⟩
    · intro el
      subst el
      have E := (if_neg (by decide)).symm.trans E
      have E := (if_pos rfl).symm.trans E
      refine ea_iload (pc := 67) dX12_run__67 4 rfl ?_
      refine ea_aload_n (pc := 69) dX12_run__69 rfl 0 rfl ?_
      refine ea_getI (pc := 70) dX12_run__70 ec_12 (k := 63) (Nat.le_of_ble_eq_true rfl) rfl (Or.inl ew_1408) (hs.1 0 (by decide)).1 (hs.1 0 (by decide)).2.1 ?_
      refine ea_icmp_ge (pc := 73) (tgt := 123) dX12_run__73 rfl (fun c14 => ?_) (fun c14 => ?_)
      · have E := (if_pos c14).symm.trans E
        refine ea_iload (pc := 123) dX12_run__123 3 rfl ?_
        cases E
        exact ea_ireturn (pc := 125) dX12_run__125 rfl rfl
      · have E := (if_neg c14).symm.trans E
        refine ea_iload (pc := 76) dX12_run__76 3 rfl ?_
        refine ea_aload_n (pc := 78) dX12_run__78 rfl 0 rfl ?_
        refine ea_iload (pc := 79) dX12_run__79 4 rfl ?_
        refine ea_iload (pc := 81) dX12_run__81 2 rfl ?_
        obtain ⟨z10, E⟩ := gd_some E
        refine ea_callV (pc := 83) (d' := d - 1) (As := [vI x6, vI x4]) (st := [vI x5]) dX12_run__83 kX12_isAboard (sX12_isAboard (d := d - 1) (by omega) hs z10) (by omega) rfl (Nat.le_of_ble_eq_true rfl) ew_2067 ew_2069 ew_95 (ci := 12) rfl (by decide) (hs.1 0 (by decide)).1 (hs.1 0 (by decide)).2.1 ?_
        refine ea_if_eq (pc := 86) (tgt := 113) dX12_run__86 rfl (fun c13 => ?_) (fun c13 => ?_)
        · have E := (if_pos c13).symm.trans E
          refine ea_iconst (pc := 113) dX12_run__113 (v := 0) rfl ?_
          refine ea_iadd (pc := 114) dX12_run__114 ?_
          refine ea_istore (pc := 115) (lv' := [(0, vR (some (b0 + 0))), (3, vI x3), (4, vI x4), (5, vI (x5 + (0 : Int32))), (6, vI x6)]) dX12_run__115 (Nat.le_of_ble_eq_true rfl) [1, 2, 3, 0, 4] rfl ?_
          refine ea_iinc (pc := 117) (v := 1) (lv' := [(0, vR (some (b0 + 0))), (3, vI x3), (4, vI x4), (5, vI (x5 + (0 : Int32))), (6, vI (x6 + (1 : Int32)))]) dX12_run__117 4 rfl rfl (Nat.le_of_ble_eq_true rfl) [1, 2, 3, 4, 0] rfl ?_
          refine ea_goto (pc := 120) (tgt := 67) dX12_run__120 rfl ?_
          exact ((ih 67 0 0 0 0 0 (x3 : Int32) (x4 : Int32) ((x5 + (0 : Int32)) : Int32) ((x6 + (1 : Int32)) : Int32) h _ _ E hs).2.1 rfl)
        · have E := (if_neg c13).symm.trans E
          refine ea_aload_n (pc := 89) dX12_run__89 rfl 0 rfl ?_
          refine ea_getR (pc := 90) dX12_run__90 ec_12 (k := 87) (Nat.le_of_ble_eq_true rfl) rfl (Or.inl ew_1432) (hs.1 0 (by decide)).1 (hs.1 0 (by decide)).2.1 (hs.2 0 87 rfl) ?_
          refine ea_iload (pc := 93) dX12_run__93 4 rfl ?_
          obtain ⟨z11, E⟩ := gd_some E
          refine ea_zald (pc := 95) dX12_run__95 (hs.1 61 (by decide)).1 (hs.1 61 (by decide)).2.1 (ea_vpl (hs.1 61 (by decide)).2.2 z11) ?_
          refine ea_iload_n (pc := 96) dX12_run__96 rfl 1 rfl ?_
          refine ea_iconst (pc := 97) dX12_run__97 (v := 1) rfl ?_
          refine ea_icmp_ne (pc := 98) (tgt := 105) dX12_run__98 rfl (fun c12 => ?_) (fun c12 => ?_)
          · have E := (if_neg c12).symm.trans E
            refine ea_iconst (pc := 105) dX12_run__105 (v := 0) rfl ?_
            exact (ea_fewer [0, 1, 2, 4] rfl ((ih 106 (0 : Int32) ((ea_i h (b0 + 61) (Int32.toNatClampNeg x6)) : Int32) (x5 : Int32) 0 0 (x3 : Int32) (x4 : Int32) 0 (x6 : Int32) h _ _ E hs).2.2 rfl))
          · have E := (if_pos c12).symm.trans E
            refine ea_iconst (pc := 101) dX12_run__101 (v := 1) rfl ?_
            refine ea_goto (pc := 102) (tgt := 106) dX12_run__102 rfl ?_
            exact (ea_fewer [0, 1, 2, 4] rfl ((ih 106 (1 : Int32) ((ea_i h (b0 + 61) (Int32.toNatClampNeg x6)) : Int32) (x5 : Int32) 0 0 (x3 : Int32) (x4 : Int32) 0 (x6 : Int32) h _ _ E hs).2.2 rfl))
    intro el
    subst el
    have E := (if_neg (by decide)).symm.trans E
    have E := (if_neg (by decide)).symm.trans E
    have E := (if_pos rfl).symm.trans E
    refine ea_icmp_ne (pc := 106) (tgt := 113) dX12_run__106 rfl (fun c15 => ?_) (fun c15 => ?_)
    · have E := (if_neg c15).symm.trans E
      refine ea_iconst (pc := 113) dX12_run__113 (v := 0) rfl ?_
      refine ea_iadd (pc := 114) dX12_run__114 ?_
      refine ea_istore (pc := 115) (lv' := [(0, vR (some (b0 + 0))), (3, vI x3), (4, vI x4), (5, vI (sx2 + (0 : Int32))), (6, vI x6)]) dX12_run__115 (Nat.le_of_ble_eq_true rfl) [1, 2, 3, 0, 4] rfl ?_
      refine ea_iinc (pc := 117) (v := 1) (lv' := [(0, vR (some (b0 + 0))), (3, vI x3), (4, vI x4), (5, vI (sx2 + (0 : Int32))), (6, vI (x6 + (1 : Int32)))]) dX12_run__117 4 rfl rfl (Nat.le_of_ble_eq_true rfl) [1, 2, 3, 4, 0] rfl ?_
      refine ea_goto (pc := 120) (tgt := 67) dX12_run__120 rfl ?_
      exact ((ih 67 0 0 0 0 0 (x3 : Int32) (x4 : Int32) ((sx2 + (0 : Int32)) : Int32) ((x6 + (1 : Int32)) : Int32) h _ _ E hs).2.1 rfl)
    · have E := (if_pos c15).symm.trans E
      refine ea_iconst (pc := 109) dX12_run__109 (v := 1) rfl ?_
      refine ea_goto (pc := 110) (tgt := 114) dX12_run__110 rfl ?_
      refine ea_iadd (pc := 114) dX12_run__114 ?_
      refine ea_istore (pc := 115) (lv' := [(0, vR (some (b0 + 0))), (3, vI x3), (4, vI x4), (5, vI (sx2 + (1 : Int32))), (6, vI x6)]) dX12_run__115 (Nat.le_of_ble_eq_true rfl) [1, 2, 3, 0, 4] rfl ?_
      refine ea_iinc (pc := 117) (v := 1) (lv' := [(0, vR (some (b0 + 0))), (3, vI x3), (4, vI x4), (5, vI (sx2 + (1 : Int32))), (6, vI (x6 + (1 : Int32)))]) dX12_run__117 4 rfl rfl (Nat.le_of_ble_eq_true rfl) [1, 2, 3, 4, 0] rfl ?_
      refine ea_goto (pc := 120) (tgt := 67) dX12_run__120 rfl ?_
      exact ((ih 67 0 0 0 0 0 (x3 : Int32) (x4 : Int32) ((sx2 + (1 : Int32)) : Int32) ((x6 + (1 : Int32)) : Int32) h _ _ E hs).2.1 rfl)
noncomputable def qX12_run_ (b0 : Nat) (x1 : Int32) (x2 : Int32) (x3 : Int32) (h : ea_H) : Option (Int32 × ea_H) := gX12_run_ b0 1000000000 0 0 0 0 x1 x2 x3 0 0 0 h
def okX12_run_ (b0 : Nat) (x1 : Int32) (x2 : Int32) (x3 : Int32) (h : ea_H) : Prop := ∃ x, qX12_run_ b0 x1 x2 x3 h = some x
noncomputable def vX12_run_ (b0 : Nat) (x1 : Int32) (x2 : Int32) (x3 : Int32) (h : ea_H) : Int32 := ((qX12_run_ b0 x1 x2 x3 h).getD (0, h)).1
noncomputable def wX12_run_ (b0 : Nat) (x1 : Int32) (x2 : Int32) (x3 : Int32) (h : ea_H) : ea_H := ((qX12_run_ b0 x1 x2 x3 h).getD (0, h)).2
theorem sX12_run_ {d : Nat} {b0 : Nat} {x1 : Int32} {x2 : Int32} {x3 : Int32} {h : ea_H} (hd : 3 ≤ d) (hs : ShM b0 h) (K : okX12_run_ b0 x1 x2 x3 h) : ea_Met mX12_run_ d [vR (some (b0 + 0)), vI x1, vI x2, vI x3] h (some (vI (vX12_run_ b0 x1 x2 x3 h))) (wX12_run_ b0 x1 x2 x3 h) := by
  obtain ⟨⟨x, y⟩, K⟩ := K
  unfold wX12_run_ vX12_run_
  rw [K]
  unfold qX12_run_ at K
  exact ea_enter rfl (Nat.le_of_ble_eq_true rfl) ((tX12_run_ hd 1000000000 0 0 0 0 x1 x2 x3 0 0 0 h x y K hs).1 rfl)
theorem zX12_run_ {b0 : Nat} : ∀ (f lbl : Nat) (sx0 : Int32) (sx1 : Int32) (sx2 : Int32) (x1 : Int32) (x2 : Int32) (x3 : Int32) (x4 : Int32) (x5 : Int32) (x6 : Int32) (h : ea_H) (r : Int32) (h' : ea_H), gX12_run_ b0 f lbl sx0 sx1 sx2 x1 x2 x3 x4 x5 x6 h = some (r, h') → ShM b0 h → ShM b0 h' := by
  intro f
  induction f with
  | zero => intro lbl sx0 sx1 sx2 x1 x2 x3 x4 x5 x6 h r h' E; cases E
  | succ f ih =>
    intro lbl sx0 sx1 sx2 x1 x2 x3 x4 x5 x6 h r h' E hs
    unfold gX12_run_ at E
    by_cases el0 : lbl = 0
    · have E := (if_pos el0).symm.trans E
      by_cases c9 : (vX12_isTrain b0 (x1 : Int32) h) = (0 : Int32)
      · have E := (if_pos c9).symm.trans E
        cases E
        exact hs
      have E := (if_neg c9).symm.trans E
      by_cases c8 : (vX12_isDay (x2 : Int32) h) = (0 : Int32)
      · have E := (if_pos c8).symm.trans E
        cases E
        exact hs
      have E := (if_neg c8).symm.trans E
      by_cases qc28_0 : Int32.toInt x3 = 0
      · have E := (if_pos qc28_0).symm.trans E
        exact ih 67 0 0 0 0 0 (x3 : Int32) ((vX12_run (x1 : Int32) (x2 : Int32) h) : Int32) (0 : Int32) (0 : Int32) h _ _ E hs
      have E := (if_neg qc28_0).symm.trans E
      by_cases qc28_1 : Int32.toInt x3 = 1
      · have E := (if_pos qc28_1).symm.trans E
        exact ih 67 0 0 0 0 0 (x3 : Int32) ((vX12_run (x1 : Int32) (x2 : Int32) h) : Int32) (0 : Int32) (0 : Int32) h _ _ E hs
      have E := (if_neg qc28_1).symm.trans E
      by_cases qc28_2 : Int32.toInt x3 = 2
      · have E := (if_pos qc28_2).symm.trans E
        obtain ⟨z4, E⟩ := gd_some E
        cases E
        exact (shX12_gone hs)
      have E := (if_neg qc28_2).symm.trans E
      by_cases qc28_3 : Int32.toInt x3 = 3
      · have E := (if_pos qc28_3).symm.trans E
        obtain ⟨z6, E⟩ := gd_some E
        cases E
        exact hs
      have E := (if_neg qc28_3).symm.trans E
      by_cases qc28_4 : Int32.toInt x3 = 4
      · have E := (if_pos qc28_4).symm.trans E
        obtain ⟨z7, E⟩ := gd_some E
        cases E
        exact hs
      have E := (if_neg qc28_4).symm.trans E
      cases E
      exact hs
    have E := (if_neg el0).symm.trans E
    by_cases el1 : lbl = 67
    · have E := (if_pos el1).symm.trans E
      by_cases c14 : (ea_i h (b0 + 0) 63) ≤ x6
      · have E := (if_pos c14).symm.trans E
        cases E
        exact hs
      have E := (if_neg c14).symm.trans E
      obtain ⟨z10, E⟩ := gd_some E
      by_cases c13 : (vX12_isAboard b0 (x6 : Int32) (x4 : Int32) h) = (0 : Int32)
      · have E := (if_pos c13).symm.trans E
        exact ih 67 0 0 0 0 0 (x3 : Int32) (x4 : Int32) ((x5 + (0 : Int32)) : Int32) ((x6 + (1 : Int32)) : Int32) h _ _ E hs
      have E := (if_neg c13).symm.trans E
      obtain ⟨z11, E⟩ := gd_some E
      by_cases c12 : x3 = (1 : Int32)
      · have E := (if_pos c12).symm.trans E
        exact ih 106 (1 : Int32) ((ea_i h (b0 + 61) (Int32.toNatClampNeg x6)) : Int32) (x5 : Int32) 0 0 (x3 : Int32) (x4 : Int32) 0 (x6 : Int32) h _ _ E hs
      have E := (if_neg c12).symm.trans E
      exact ih 106 (0 : Int32) ((ea_i h (b0 + 61) (Int32.toNatClampNeg x6)) : Int32) (x5 : Int32) 0 0 (x3 : Int32) (x4 : Int32) 0 (x6 : Int32) h _ _ E hs
    have E := (if_neg el1).symm.trans E
    by_cases el2 : lbl = 106
    · have E := (if_pos el2).symm.trans E
      by_cases c15 : sx1 = sx0
      · have E := (if_pos c15).symm.trans E
        exact ih 67 0 0 0 0 0 (x3 : Int32) (x4 : Int32) ((sx2 + (1 : Int32)) : Int32) ((x6 + (1 : Int32)) : Int32) h _ _ E hs
      have E := (if_neg c15).symm.trans E
      exact ih 67 0 0 0 0 0 (x3 : Int32) (x4 : Int32) ((sx2 + (0 : Int32)) : Int32) ((x6 + (1 : Int32)) : Int32) h _ _ E hs
    have E := (if_neg el2).symm.trans E
    cases E
theorem shX12_run_ {b0 : Nat} {x1 : Int32} {x2 : Int32} {x3 : Int32} {h : ea_H} (hs : ShM b0 h) : ShM b0 (wX12_run_ b0 x1 x2 x3 h) := by
  unfold wX12_run_
  cases K : qX12_run_ b0 x1 x2 x3 h with
  | none => exact hs
  | some x => obtain ⟨x, y⟩ := x; unfold qX12_run_ at K; exact zX12_run_ _ _ _ _ _ _ _ _ _ _ _ _ _ _ K hs
noncomputable def gX12_table (b0 : Nat) : Nat → Nat → Int32 → Int32 → Int32 → Int32 → ea_H → Option (Unit × ea_H)
  | 0, _, _, _, _, _, _ => none
  | f + 1, lbl, sx0, sx1, x1, x2, h =>
    if lbl = 0 then (if (ea_i h (b0 + 0) 12) = (0 : Int32) then (gX12_table b0 f 20 0 0 (0 : Int32) 0 (ea_wi (ea_wi h (b0 + 0) 12 1) (b0 + 0) 13 0)) else (some ((), h))) else
    if lbl = 20 then (if (70 : Int32) ≤ x1 then (gX12_table b0 f 41 0 0 0 0 h) else (gd (vp_in x1 70) (gX12_table b0 f 20 0 0 ((x1 + (1 : Int32)) : Int32) 0 (ea_wi h (b0 + 14) (Int32.toNatClampNeg x1) 0)))) else
    if lbl = 41 then (gX12_table b0 f 45 0 0 ((-1) : Int32) (0 : Int32) h) else
    if lbl = 45 then (if ((7 : Int32) * (ea_i h (b0 + 0) 2)) ≤ x2 then (if x1 = ((-1) : Int32) then (gX12_table b0 f 188 0 0 (x1 : Int32) 0 h) else (gd (vp_in x1 70) (gd ((okX12_minuteOf b0 (x1 : Int32) ((ea_i h (b0 + 14) (Int32.toNatClampNeg x1)) : Int32) h)) (gd (vp_in (ea_i h (b0 + 0) 13) 1000) (gd (vp_in x1 70) (if ((ea_i (ea_wi h (b0 + 10) (Int32.toNatClampNeg (ea_i h (b0 + 0) 13)) (vX12_minuteOf b0 (x1 : Int32) ((ea_i h (b0 + 14) (Int32.toNatClampNeg x1)) : Int32) h)) (b0 + 14) (Int32.toNatClampNeg x1)) - (ea_i (ea_wi h (b0 + 10) (Int32.toNatClampNeg (ea_i h (b0 + 0) 13)) (vX12_minuteOf b0 (x1 : Int32) ((ea_i h (b0 + 14) (Int32.toNatClampNeg x1)) : Int32) h)) (b0 + 14) (Int32.toNatClampNeg x1)) / (2 : Int32) * (2 : Int32)) = (0 : Int32) then (gX12_table b0 f 138 (1 : Int32) ((ea_i (ea_wi h (b0 + 10) (Int32.toNatClampNeg (ea_i h (b0 + 0) 13)) (vX12_minuteOf b0 (x1 : Int32) ((ea_i h (b0 + 14) (Int32.toNatClampNeg x1)) : Int32) h)) (b0 + 0) 13) : Int32) (x1 : Int32) 0 (ea_wi h (b0 + 10) (Int32.toNatClampNeg (ea_i h (b0 + 0) 13)) (vX12_minuteOf b0 (x1 : Int32) ((ea_i h (b0 + 14) (Int32.toNatClampNeg x1)) : Int32) h))) else (gX12_table b0 f 138 (0 : Int32) ((ea_i (ea_wi h (b0 + 10) (Int32.toNatClampNeg (ea_i h (b0 + 0) 13)) (vX12_minuteOf b0 (x1 : Int32) ((ea_i h (b0 + 14) (Int32.toNatClampNeg x1)) : Int32) h)) (b0 + 0) 13) : Int32) (x1 : Int32) 0 (ea_wi h (b0 + 10) (Int32.toNatClampNeg (ea_i h (b0 + 0) 13)) (vX12_minuteOf b0 (x1 : Int32) ((ea_i h (b0 + 14) (Int32.toNatClampNeg x1)) : Int32) h))))))))) else (gd ((okX12_isMore b0 (x2 : Int32) h)) (if (vX12_isMore b0 (x2 : Int32) h) = (0 : Int32) then (gX12_table b0 f 45 0 0 (x1 : Int32) ((x2 + (1 : Int32)) : Int32) h) else (if x1 = ((-1) : Int32) then (gX12_table b0 f 45 0 0 (x2 : Int32) ((x2 + (1 : Int32)) : Int32) h) else (gd ((okX12_isAheadOf b0 (x2 : Int32) (x1 : Int32) h)) (if (vX12_isAheadOf b0 (x2 : Int32) (x1 : Int32) h) = (0 : Int32) then (gX12_table b0 f 45 0 0 (x1 : Int32) ((x2 + (1 : Int32)) : Int32) h) else (gX12_table b0 f 45 0 0 (x2 : Int32) ((x2 + (1 : Int32)) : Int32) h))))))) else
    if lbl = 138 then (gd (vp_in sx1 1000) (gd (vp_in (ea_i (ea_wi h (b0 + 11) (Int32.toNatClampNeg sx1) sx0) (b0 + 0) 13) 1000) (gd (vp_in x1 70) (gd (vp_in (ea_i (ea_wi (ea_wi h (b0 + 11) (Int32.toNatClampNeg sx1) sx0) (b0 + 12) (Int32.toNatClampNeg (ea_i (ea_wi h (b0 + 11) (Int32.toNatClampNeg sx1) sx0) (b0 + 0) 13)) x1) (b0 + 0) 13) 1000) (gd (vp_in x1 70) (gd (vp_in x1 70) (gX12_table b0 f 188 0 0 (x1 : Int32) 0 (ea_wi (ea_wi (ea_wi (ea_wi (ea_wi h (b0 + 11) (Int32.toNatClampNeg sx1) sx0) (b0 + 12) (Int32.toNatClampNeg (ea_i (ea_wi h (b0 + 11) (Int32.toNatClampNeg sx1) sx0) (b0 + 0) 13)) x1) (b0 + 13) (Int32.toNatClampNeg (ea_i (ea_wi (ea_wi h (b0 + 11) (Int32.toNatClampNeg sx1) sx0) (b0 + 12) (Int32.toNatClampNeg (ea_i (ea_wi h (b0 + 11) (Int32.toNatClampNeg sx1) sx0) (b0 + 0) 13)) x1) (b0 + 0) 13)) (((ea_i (ea_wi (ea_wi h (b0 + 11) (Int32.toNatClampNeg sx1) sx0) (b0 + 12) (Int32.toNatClampNeg (ea_i (ea_wi h (b0 + 11) (Int32.toNatClampNeg sx1) sx0) (b0 + 0) 13)) x1) (b0 + 14) (Int32.toNatClampNeg x1)) + (1 : Int32)) / (2 : Int32))) (b0 + 0) 13 ((ea_i (ea_wi (ea_wi (ea_wi h (b0 + 11) (Int32.toNatClampNeg sx1) sx0) (b0 + 12) (Int32.toNatClampNeg (ea_i (ea_wi h (b0 + 11) (Int32.toNatClampNeg sx1) sx0) (b0 + 0) 13)) x1) (b0 + 13) (Int32.toNatClampNeg (ea_i (ea_wi (ea_wi h (b0 + 11) (Int32.toNatClampNeg sx1) sx0) (b0 + 12) (Int32.toNatClampNeg (ea_i (ea_wi h (b0 + 11) (Int32.toNatClampNeg sx1) sx0) (b0 + 0) 13)) x1) (b0 + 0) 13)) (((ea_i (ea_wi (ea_wi h (b0 + 11) (Int32.toNatClampNeg sx1) sx0) (b0 + 12) (Int32.toNatClampNeg (ea_i (ea_wi h (b0 + 11) (Int32.toNatClampNeg sx1) sx0) (b0 + 0) 13)) x1) (b0 + 14) (Int32.toNatClampNeg x1)) + (1 : Int32)) / (2 : Int32))) (b0 + 0) 13) + (1 : Int32))) (b0 + 14) (Int32.toNatClampNeg x1) ((ea_i (ea_wi (ea_wi (ea_wi (ea_wi h (b0 + 11) (Int32.toNatClampNeg sx1) sx0) (b0 + 12) (Int32.toNatClampNeg (ea_i (ea_wi h (b0 + 11) (Int32.toNatClampNeg sx1) sx0) (b0 + 0) 13)) x1) (b0 + 13) (Int32.toNatClampNeg (ea_i (ea_wi (ea_wi h (b0 + 11) (Int32.toNatClampNeg sx1) sx0) (b0 + 12) (Int32.toNatClampNeg (ea_i (ea_wi h (b0 + 11) (Int32.toNatClampNeg sx1) sx0) (b0 + 0) 13)) x1) (b0 + 0) 13)) (((ea_i (ea_wi (ea_wi h (b0 + 11) (Int32.toNatClampNeg sx1) sx0) (b0 + 12) (Int32.toNatClampNeg (ea_i (ea_wi h (b0 + 11) (Int32.toNatClampNeg sx1) sx0) (b0 + 0) 13)) x1) (b0 + 14) (Int32.toNatClampNeg x1)) + (1 : Int32)) / (2 : Int32))) (b0 + 0) 13 ((ea_i (ea_wi (ea_wi (ea_wi h (b0 + 11) (Int32.toNatClampNeg sx1) sx0) (b0 + 12) (Int32.toNatClampNeg (ea_i (ea_wi h (b0 + 11) (Int32.toNatClampNeg sx1) sx0) (b0 + 0) 13)) x1) (b0 + 13) (Int32.toNatClampNeg (ea_i (ea_wi (ea_wi h (b0 + 11) (Int32.toNatClampNeg sx1) sx0) (b0 + 12) (Int32.toNatClampNeg (ea_i (ea_wi h (b0 + 11) (Int32.toNatClampNeg sx1) sx0) (b0 + 0) 13)) x1) (b0 + 0) 13)) (((ea_i (ea_wi (ea_wi h (b0 + 11) (Int32.toNatClampNeg sx1) sx0) (b0 + 12) (Int32.toNatClampNeg (ea_i (ea_wi h (b0 + 11) (Int32.toNatClampNeg sx1) sx0) (b0 + 0) 13)) x1) (b0 + 14) (Int32.toNatClampNeg x1)) + (1 : Int32)) / (2 : Int32))) (b0 + 0) 13) + (1 : Int32))) (b0 + 14) (Int32.toNatClampNeg x1)) + (1 : Int32)))))))))) else
    if lbl = 188 then (if x1 = ((-1) : Int32) then (gX12_table b0 f 195 0 0 0 (0 : Int32) h) else (gX12_table b0 f 41 0 0 0 0 h)) else
    if lbl = 195 then (if (12 : Int32) ≤ x2 then (gX12_table b0 f 221 0 0 0 (((ea_i h (b0 + 0) 13) - (1 : Int32)) : Int32) h) else (gd (vp_in x2 12) (gX12_table b0 f 195 0 0 0 ((x2 + (1 : Int32)) : Int32) (ea_wi h (b0 + 20) (Int32.toNatClampNeg x2) (-1))))) else
    if lbl = 221 then (if x2 < (0 : Int32) then (some ((), h)) else (gd (vp_in x2 1000) (if (ea_i h (b0 + 11) (Int32.toNatClampNeg x2)) = (1 : Int32) then (gd ((okX12_goings b0 (x2 : Int32) h)) (gX12_table b0 f 221 0 0 0 ((x2 + ((-1) : Int32)) : Int32) (wX12_goings b0 (x2 : Int32) h))) else (gX12_table b0 f 221 0 0 0 ((x2 + ((-1) : Int32)) : Int32) h)))) else none
theorem tX12_table {d : Nat} {b0 : Nat} {h0 : ea_H} (hd : 4 ≤ d) : ∀ (f lbl : Nat) (sx0 : Int32) (sx1 : Int32) (x1 : Int32) (x2 : Int32) (h : ea_H) (r : Unit) (h' : ea_H), gX12_table b0 f lbl sx0 sx1 x1 x2 h = some (r, h') → ShM b0 h → (lbl = 0 → ea_W mX12_table d h0 none h' 0 [(0, vR (some (b0 + 0)))] [] h) ∧ (lbl = 20 → ea_W mX12_table d h0 none h' 20 [(0, vR (some (b0 + 0))), (1, vI x1)] [] h) ∧ (lbl = 41 → ea_W mX12_table d h0 none h' 41 [(0, vR (some (b0 + 0)))] [] h) ∧ (lbl = 45 → ea_W mX12_table d h0 none h' 45 [(0, vR (some (b0 + 0))), (1, vI x1), (2, vI x2)] [] h) ∧ (lbl = 138 → ea_W mX12_table d h0 none h' 138 [(0, vR (some (b0 + 0))), (1, vI x1)] [vI sx0, vI sx1, vR (some (b0 + 11))] h) ∧ (lbl = 188 → ea_W mX12_table d h0 none h' 188 [(0, vR (some (b0 + 0))), (1, vI x1)] [] h) ∧ (lbl = 195 → ea_W mX12_table d h0 none h' 195 [(0, vR (some (b0 + 0))), (2, vI x2)] [] h) ∧ (lbl = 221 → ea_W mX12_table d h0 none h' 221 [(0, vR (some (b0 + 0))), (2, vI x2)] [] h) := by
  intro f
  induction f with
  | zero => intro lbl sx0 sx1 x1 x2 h r h' E; cases E
  | succ f ih =>
    intro lbl sx0 sx1 x1 x2 h r h' E hs
    unfold gX12_table at E
    refine ⟨?_, ?_⟩
    · intro el
      subst el
      have E := (if_pos rfl).symm.trans E
      refine ea_aload_n (pc := 0) dX12_table_0 rfl 0 rfl ?_
      refine ea_getI (pc := 1) dX12_table_1 ec_12 (k := 12) (Nat.le_of_ble_eq_true rfl) rfl (Or.inl ew_1357) (hs.1 0 (by decide)).1 (hs.1 0 (by decide)).2.1 ?_
      refine ea_if_eq (pc := 4) (tgt := 8) dX12_table_4 rfl (fun c3 => ?_) (fun c3 => ?_)
      · have E := (if_pos c3).symm.trans E
        refine ea_aload_n (pc := 8) dX12_table_8 rfl 0 rfl ?_
        refine ea_iconst (pc := 9) dX12_table_9 (v := 1) rfl ?_
        refine ea_putI (pc := 10) dX12_table_10 ec_12 (k := 12) (Nat.le_of_ble_eq_true rfl) rfl (Or.inl ⟨rfl, Or.inl ew_1357⟩) (ea_bn (Or.inr rfl)) (ea_bf (Or.inr rfl)) (hs.1 0 (by decide)).1 (hs.1 0 (by decide)).2.1 ?_
        have hs1 : ShM b0 (ea_wi h (b0 + 0) 12 1) := ShM_wi hs
        refine ea_aload_n (pc := 13) dX12_table_13 rfl 0 rfl ?_
        refine ea_iconst (pc := 14) dX12_table_14 (v := 0) rfl ?_
        refine ea_putI (pc := 15) dX12_table_15 ec_12 (k := 13) (Nat.le_of_ble_eq_true rfl) rfl (Or.inl ⟨rfl, Or.inl ew_1358⟩) rfl rfl (hs1.1 0 (by decide)).1 (hs1.1 0 (by decide)).2.1 ?_
        have hs2 : ShM b0 (ea_wi (ea_wi h (b0 + 0) 12 1) (b0 + 0) 13 0) := ShM_wi hs1
        refine ea_iconst (pc := 18) dX12_table_18 (v := 0) rfl ?_
        refine ea_istore_n (pc := 19) (lv' := [(0, vR (some (b0 + 0))), (1, vI 0)]) dX12_table_19 rfl (Nat.le_of_ble_eq_true rfl) [1, 0] rfl ?_
        exact ((ih 20 0 0 (0 : Int32) 0 (ea_wi (ea_wi h (b0 + 0) 12 1) (b0 + 0) 13 0) _ _ E hs2).2.1 rfl)
      · have E := (if_neg c3).symm.trans E
        cases E
        exact ea_return (pc := 7) dX12_table_7 rfl
    refine ⟨?_, ?_⟩
    · intro el
      subst el
      have E := (if_neg (by decide)).symm.trans E
      have E := (if_pos rfl).symm.trans E
      refine ea_iload_n (pc := 20) dX12_table_20 rfl 1 rfl ?_
      refine ea_bipush (pc := 21) dX12_table_21 (v := 70) rfl ?_
      refine ea_icmp_ge (pc := 23) (tgt := 39) dX12_table_23 rfl (fun c6 => ?_) (fun c6 => ?_)
      · have E := (if_pos c6).symm.trans E
        refine ea_iconst (pc := 39) dX12_table_39 (v := (-1)) rfl ?_
        refine ea_istore_n (pc := 40) (lv' := [(0, vR (some (b0 + 0)))]) dX12_table_40 rfl (Nat.le_of_ble_eq_true rfl) [1] rfl ?_
        exact ((ih 41 0 0 0 0 h _ _ E hs).2.2.1 rfl)
      · have E := (if_neg c6).symm.trans E
        refine ea_aload_n (pc := 26) dX12_table_26 rfl 0 rfl ?_
        refine ea_getR (pc := 27) dX12_table_27 ec_12 (k := 18) (Nat.le_of_ble_eq_true rfl) rfl (Or.inl ew_1363) (hs.1 0 (by decide)).1 (hs.1 0 (by decide)).2.1 (hs.2 0 18 rfl) ?_
        refine ea_iload_n (pc := 30) dX12_table_30 rfl 1 rfl ?_
        refine ea_iconst (pc := 31) dX12_table_31 (v := 0) rfl ?_
        obtain ⟨z4, E⟩ := gd_some E
        refine ea_iast (pc := 32) dX12_table_32 (hs.1 14 (by decide)).1 (hs.1 14 (by decide)).2.1 (ea_vpl (hs.1 14 (by decide)).2.2 z4) ?_
        have hs5 : ShM b0 (ea_wi h (b0 + 14) (Int32.toNatClampNeg x1) 0) := ShM_wi hs
        refine ea_iinc (pc := 33) (v := 1) (lv' := [(0, vR (some (b0 + 0))), (1, vI (x1 + (1 : Int32)))]) dX12_table_33 1 rfl rfl (Nat.le_of_ble_eq_true rfl) [1, 0] rfl ?_
        refine ea_goto (pc := 36) (tgt := 20) dX12_table_36 rfl ?_
        exact ((ih 20 0 0 ((x1 + (1 : Int32)) : Int32) 0 (ea_wi h (b0 + 14) (Int32.toNatClampNeg x1) 0) _ _ E hs5).2.1 rfl)
    refine ⟨?_, ?_⟩
    · intro el
      subst el
      have E := (if_neg (by decide)).symm.trans E
      have E := (if_neg (by decide)).symm.trans E
      have E := (if_pos rfl).symm.trans E
      refine ea_iconst (pc := 41) dX12_table_41 (v := (-1)) rfl ?_
      refine ea_istore_n (pc := 42) (lv' := [(0, vR (some (b0 + 0))), (1, vI (-1))]) dX12_table_42 rfl (Nat.le_of_ble_eq_true rfl) [1, 0] rfl ?_
      refine ea_iconst (pc := 43) dX12_table_43 (v := 0) rfl ?_
      refine ea_istore_n (pc := 44) (lv' := [(0, vR (some (b0 + 0))), (1, vI (-1)), (2, vI 0)]) dX12_table_44 rfl (Nat.le_of_ble_eq_true rfl) [1, 2, 0] rfl ?_
      exact ((ih 45 0 0 ((-1) : Int32) (0 : Int32) h _ _ E hs).2.2.2.1 rfl)
    refine ⟨?_, ?_⟩
    · intro el
      subst el
      have E := (if_neg (by decide)).symm.trans E
      have E := (if_neg (by decide)).symm.trans E
      have E := (if_neg (by decide)).symm.trans E
      have E := (if_pos rfl).symm.trans E
      refine ea_iload_n (pc := 45) dX12_table_45 rfl 2 rfl ?_
      refine ea_bipush (pc := 46) dX12_table_46 (v := 7) rfl ?_
      refine ea_aload_n (pc := 48) dX12_table_48 rfl 0 rfl ?_
      refine ea_getI (pc := 49) dX12_table_49 ec_12 (k := 2) (Nat.le_of_ble_eq_true rfl) rfl (Or.inl ew_1347) (hs.1 0 (by decide)).1 (hs.1 0 (by decide)).2.1 ?_
      refine ea_imul (pc := 52) dX12_table_52 ?_
      refine ea_icmp_ge (pc := 53) (tgt := 86) dX12_table_53 rfl (fun c19 => ?_) (fun c19 => ?_)
      · have E := (if_pos c19).symm.trans E
        refine ea_iload_n (pc := 86) dX12_table_86 rfl 1 rfl ?_
        refine ea_iconst (pc := 87) dX12_table_87 (v := (-1)) rfl ?_
        refine ea_icmp_ne (pc := 88) (tgt := 94) dX12_table_88 rfl (fun c13 => ?_) (fun c13 => ?_)
        · have E := (if_neg c13).symm.trans E
          refine ea_aload_n (pc := 94) dX12_table_94 rfl 0 rfl ?_
          refine ea_getR (pc := 95) dX12_table_95 ec_12 (k := 14) (Nat.le_of_ble_eq_true rfl) rfl (Or.inl ew_1359) (hs.1 0 (by decide)).1 (hs.1 0 (by decide)).2.1 (hs.2 0 14 rfl) ?_
          refine ea_aload_n (pc := 98) dX12_table_98 rfl 0 rfl ?_
          refine ea_getI (pc := 99) dX12_table_99 ec_12 (k := 13) (Nat.le_of_ble_eq_true rfl) rfl (Or.inl ew_1358) (hs.1 0 (by decide)).1 (hs.1 0 (by decide)).2.1 ?_
          refine ea_aload_n (pc := 102) dX12_table_102 rfl 0 rfl ?_
          refine ea_iload_n (pc := 103) dX12_table_103 rfl 1 rfl ?_
          refine ea_aload_n (pc := 104) dX12_table_104 rfl 0 rfl ?_
          refine ea_getR (pc := 105) dX12_table_105 ec_12 (k := 18) (Nat.le_of_ble_eq_true rfl) rfl (Or.inl ew_1363) (hs.1 0 (by decide)).1 (hs.1 0 (by decide)).2.1 (hs.2 0 18 rfl) ?_
          refine ea_iload_n (pc := 108) dX12_table_108 rfl 1 rfl ?_
          obtain ⟨z7, E⟩ := gd_some E
          refine ea_iald (pc := 109) dX12_table_109 (hs.1 14 (by decide)).1 (hs.1 14 (by decide)).2.1 (ea_vpl (hs.1 14 (by decide)).2.2 z7) ?_
          obtain ⟨z8, E⟩ := gd_some E
          refine ea_callV (pc := 110) (d' := d - 1) (As := [vI x1, vI (ea_i h (b0 + 14) (Int32.toNatClampNeg x1))]) (st := [vI (ea_i h (b0 + 0) 13), vR (some (b0 + 10))]) dX12_table_110 kX12_minuteOf (sX12_minuteOf (d := d - 1) (by omega) hs z8) (by omega) rfl (Nat.le_of_ble_eq_true rfl) ew_1782 ew_1784 ew_56 (ci := 12) rfl (by decide) (hs.1 0 (by decide)).1 (hs.1 0 (by decide)).2.1 ?_
          obtain ⟨z9, E⟩ := gd_some E
          refine ea_iast (pc := 113) dX12_table_113 (hs.1 10 (by decide)).1 (hs.1 10 (by decide)).2.1 (ea_vpl (hs.1 10 (by decide)).2.2 z9) ?_
          have hs10 : ShM b0 (ea_wi h (b0 + 10) (Int32.toNatClampNeg (ea_i h (b0 + 0) 13)) (vX12_minuteOf b0 (x1 : Int32) ((ea_i h (b0 + 14) (Int32.toNatClampNeg x1)) : Int32) h)) := ShM_wi hs
          refine ea_aload_n (pc := 114) dX12_table_114 rfl 0 rfl ?_
          refine ea_getR (pc := 115) dX12_table_115 ec_12 (k := 15) (Nat.le_of_ble_eq_true rfl) rfl (Or.inl ew_1360) (hs10.1 0 (by decide)).1 (hs10.1 0 (by decide)).2.1 (hs10.2 0 15 rfl) ?_
          refine ea_aload_n (pc := 118) dX12_table_118 rfl 0 rfl ?_
          refine ea_getI (pc := 119) dX12_table_119 ec_12 (k := 13) (Nat.le_of_ble_eq_true rfl) rfl (Or.inl ew_1358) (hs10.1 0 (by decide)).1 (hs10.1 0 (by decide)).2.1 ?_
          refine ea_aload_n (pc := 122) dX12_table_122 rfl 0 rfl ?_
          refine ea_getR (pc := 123) dX12_table_123 ec_12 (k := 18) (Nat.le_of_ble_eq_true rfl) rfl (Or.inl ew_1363) (hs10.1 0 (by decide)).1 (hs10.1 0 (by decide)).2.1 (hs10.2 0 18 rfl) ?_
          refine ea_iload_n (pc := 126) dX12_table_126 rfl 1 rfl ?_
          obtain ⟨z11, E⟩ := gd_some E
          refine ea_iald (pc := 127) dX12_table_127 (hs10.1 14 (by decide)).1 (hs10.1 14 (by decide)).2.1 (ea_vpl (hs10.1 14 (by decide)).2.2 z11) ?_
          refine ea_iconst (pc := 128) dX12_table_128 (v := 2) rfl ?_
          refine ea_irem (pc := 129) dX12_table_129 (by decide) ?_
          refine ea_if_ne (pc := 130) (tgt := 137) dX12_table_130 rfl (fun c12 => ?_) (fun c12 => ?_)
          · have E := (if_neg c12).symm.trans E
            refine ea_iconst (pc := 137) dX12_table_137 (v := 0) rfl ?_
            exact (ea_fewer [0, 1] rfl ((ih 138 (0 : Int32) ((ea_i (ea_wi h (b0 + 10) (Int32.toNatClampNeg (ea_i h (b0 + 0) 13)) (vX12_minuteOf b0 (x1 : Int32) ((ea_i h (b0 + 14) (Int32.toNatClampNeg x1)) : Int32) h)) (b0 + 0) 13) : Int32) (x1 : Int32) 0 (ea_wi h (b0 + 10) (Int32.toNatClampNeg (ea_i h (b0 + 0) 13)) (vX12_minuteOf b0 (x1 : Int32) ((ea_i h (b0 + 14) (Int32.toNatClampNeg x1)) : Int32) h)) _ _ E hs10).2.2.2.2.1 rfl))
          · have E := (if_pos c12).symm.trans E
            refine ea_iconst (pc := 133) dX12_table_133 (v := 1) rfl ?_
            refine ea_goto (pc := 134) (tgt := 138) dX12_table_134 rfl ?_
            exact (ea_fewer [0, 1] rfl ((ih 138 (1 : Int32) ((ea_i (ea_wi h (b0 + 10) (Int32.toNatClampNeg (ea_i h (b0 + 0) 13)) (vX12_minuteOf b0 (x1 : Int32) ((ea_i h (b0 + 14) (Int32.toNatClampNeg x1)) : Int32) h)) (b0 + 0) 13) : Int32) (x1 : Int32) 0 (ea_wi h (b0 + 10) (Int32.toNatClampNeg (ea_i h (b0 + 0) 13)) (vX12_minuteOf b0 (x1 : Int32) ((ea_i h (b0 + 14) (Int32.toNatClampNeg x1)) : Int32) h)) _ _ E hs10).2.2.2.2.1 rfl))
        · have E := (if_pos c13).symm.trans E
          refine ea_goto (pc := 91) (tgt := 188) dX12_table_91 rfl ?_
          exact (ea_fewer [0, 1] rfl ((ih 188 0 0 (x1 : Int32) 0 h _ _ E hs).2.2.2.2.2.1 rfl))
      · have E := (if_neg c19).symm.trans E
        refine ea_aload_n (pc := 56) dX12_table_56 rfl 0 rfl ?_
        refine ea_iload_n (pc := 57) dX12_table_57 rfl 2 rfl ?_
        obtain ⟨z14, E⟩ := gd_some E
        refine ea_callV (pc := 58) (d' := d - 1) (As := [vI x2]) (st := []) dX12_table_58 kX12_isMore (sX12_isMore (d := d - 1) (by omega) hs z14) (by omega) rfl (Nat.le_of_ble_eq_true rfl) ew_1778 ew_1780 ew_55 (ci := 12) rfl (by decide) (hs.1 0 (by decide)).1 (hs.1 0 (by decide)).2.1 ?_
        refine ea_if_eq (pc := 61) (tgt := 80) dX12_table_61 rfl (fun c18 => ?_) (fun c18 => ?_)
        · have E := (if_pos c18).symm.trans E
          refine ea_iinc (pc := 80) (v := 1) (lv' := [(0, vR (some (b0 + 0))), (1, vI x1), (2, vI (x2 + (1 : Int32)))]) dX12_table_80 2 rfl rfl (Nat.le_of_ble_eq_true rfl) [1, 2, 0] rfl ?_
          refine ea_goto (pc := 83) (tgt := 45) dX12_table_83 rfl ?_
          exact ((ih 45 0 0 (x1 : Int32) ((x2 + (1 : Int32)) : Int32) h _ _ E hs).2.2.2.1 rfl)
        · have E := (if_neg c18).symm.trans E
          refine ea_iload_n (pc := 64) dX12_table_64 rfl 1 rfl ?_
          refine ea_iconst (pc := 65) dX12_table_65 (v := (-1)) rfl ?_
          refine ea_icmp_eq (pc := 66) (tgt := 78) dX12_table_66 rfl (fun c17 => ?_) (fun c17 => ?_)
          · have E := (if_pos c17).symm.trans E
            refine ea_iload_n (pc := 78) dX12_table_78 rfl 2 rfl ?_
            refine ea_istore_n (pc := 79) (lv' := [(0, vR (some (b0 + 0))), (1, vI x2), (2, vI x2)]) dX12_table_79 rfl (Nat.le_of_ble_eq_true rfl) [1, 0, 2] rfl ?_
            refine ea_iinc (pc := 80) (v := 1) (lv' := [(0, vR (some (b0 + 0))), (1, vI x2), (2, vI (x2 + (1 : Int32)))]) dX12_table_80 2 rfl rfl (Nat.le_of_ble_eq_true rfl) [1, 2, 0] rfl ?_
            refine ea_goto (pc := 83) (tgt := 45) dX12_table_83 rfl ?_
            exact ((ih 45 0 0 (x2 : Int32) ((x2 + (1 : Int32)) : Int32) h _ _ E hs).2.2.2.1 rfl)
          · have E := (if_neg c17).symm.trans E
            refine ea_aload_n (pc := 69) dX12_table_69 rfl 0 rfl ?_
            refine ea_iload_n (pc := 70) dX12_table_70 rfl 2 rfl ?_
            refine ea_iload_n (pc := 71) dX12_table_71 rfl 1 rfl ?_
            obtain ⟨z15, E⟩ := gd_some E
            refine ea_callV (pc := 72) (d' := d - 1) (As := [vI x2, vI x1]) (st := []) dX12_table_72 kX12_isAheadOf (sX12_isAheadOf (d := d - 1) (by omega) hs z15) (by omega) rfl (Nat.le_of_ble_eq_true rfl) ew_1790 ew_1792 ew_58 (ci := 12) rfl (by decide) (hs.1 0 (by decide)).1 (hs.1 0 (by decide)).2.1 ?_
            refine ea_if_eq (pc := 75) (tgt := 80) dX12_table_75 rfl (fun c16 => ?_) (fun c16 => ?_)
            · have E := (if_pos c16).symm.trans E
              refine ea_iinc (pc := 80) (v := 1) (lv' := [(0, vR (some (b0 + 0))), (1, vI x1), (2, vI (x2 + (1 : Int32)))]) dX12_table_80 2 rfl rfl (Nat.le_of_ble_eq_true rfl) [1, 2, 0] rfl ?_
              refine ea_goto (pc := 83) (tgt := 45) dX12_table_83 rfl ?_
              exact ((ih 45 0 0 (x1 : Int32) ((x2 + (1 : Int32)) : Int32) h _ _ E hs).2.2.2.1 rfl)
            · have E := (if_neg c16).symm.trans E
              refine ea_iload_n (pc := 78) dX12_table_78 rfl 2 rfl ?_
              refine ea_istore_n (pc := 79) (lv' := [(0, vR (some (b0 + 0))), (1, vI x2), (2, vI x2)]) dX12_table_79 rfl (Nat.le_of_ble_eq_true rfl) [1, 0, 2] rfl ?_
              refine ea_iinc (pc := 80) (v := 1) (lv' := [(0, vR (some (b0 + 0))), (1, vI x2), (2, vI (x2 + (1 : Int32)))]) dX12_table_80 2 rfl rfl (Nat.le_of_ble_eq_true rfl) [1, 2, 0] rfl ?_
              refine ea_goto (pc := 83) (tgt := 45) dX12_table_83 rfl ?_
              exact ((ih 45 0 0 (x2 : Int32) ((x2 + (1 : Int32)) : Int32) h _ _ E hs).2.2.2.1 rfl)
    refine ⟨?_, ?_⟩
    · intro el
      subst el
      have E := (if_neg (by decide)).symm.trans E
      have E := (if_neg (by decide)).symm.trans E
      have E := (if_neg (by decide)).symm.trans E
      have E := (if_neg (by decide)).symm.trans E
      have E := (if_pos rfl).symm.trans E
      obtain ⟨z20, E⟩ := gd_some E
      refine ea_iast (pc := 138) dX12_table_138 (hs.1 11 (by decide)).1 (hs.1 11 (by decide)).2.1 (ea_vpl (hs.1 11 (by decide)).2.2 z20) ?_
      have hs21 : ShM b0 (ea_wi h (b0 + 11) (Int32.toNatClampNeg sx1) sx0) := ShM_wi hs
      refine ea_aload_n (pc := 139) dX12_table_139 rfl 0 rfl ?_
      refine ea_getR (pc := 140) dX12_table_140 ec_12 (k := 16) (Nat.le_of_ble_eq_true rfl) rfl (Or.inl ew_1361) (hs21.1 0 (by decide)).1 (hs21.1 0 (by decide)).2.1 (hs21.2 0 16 rfl) ?_
      refine ea_aload_n (pc := 143) dX12_table_143 rfl 0 rfl ?_
      refine ea_getI (pc := 144) dX12_table_144 ec_12 (k := 13) (Nat.le_of_ble_eq_true rfl) rfl (Or.inl ew_1358) (hs21.1 0 (by decide)).1 (hs21.1 0 (by decide)).2.1 ?_
      refine ea_iload_n (pc := 147) dX12_table_147 rfl 1 rfl ?_
      obtain ⟨z22, E⟩ := gd_some E
      refine ea_iast (pc := 148) dX12_table_148 (hs21.1 12 (by decide)).1 (hs21.1 12 (by decide)).2.1 (ea_vpl (hs21.1 12 (by decide)).2.2 z22) ?_
      have hs23 : ShM b0 (ea_wi (ea_wi h (b0 + 11) (Int32.toNatClampNeg sx1) sx0) (b0 + 12) (Int32.toNatClampNeg (ea_i (ea_wi h (b0 + 11) (Int32.toNatClampNeg sx1) sx0) (b0 + 0) 13)) x1) := ShM_wi hs21
      refine ea_aload_n (pc := 149) dX12_table_149 rfl 0 rfl ?_
      refine ea_getR (pc := 150) dX12_table_150 ec_12 (k := 17) (Nat.le_of_ble_eq_true rfl) rfl (Or.inl ew_1362) (hs23.1 0 (by decide)).1 (hs23.1 0 (by decide)).2.1 (hs23.2 0 17 rfl) ?_
      refine ea_aload_n (pc := 153) dX12_table_153 rfl 0 rfl ?_
      refine ea_getI (pc := 154) dX12_table_154 ec_12 (k := 13) (Nat.le_of_ble_eq_true rfl) rfl (Or.inl ew_1358) (hs23.1 0 (by decide)).1 (hs23.1 0 (by decide)).2.1 ?_
      refine ea_aload_n (pc := 157) dX12_table_157 rfl 0 rfl ?_
      refine ea_getR (pc := 158) dX12_table_158 ec_12 (k := 18) (Nat.le_of_ble_eq_true rfl) rfl (Or.inl ew_1363) (hs23.1 0 (by decide)).1 (hs23.1 0 (by decide)).2.1 (hs23.2 0 18 rfl) ?_
      refine ea_iload_n (pc := 161) dX12_table_161 rfl 1 rfl ?_
      obtain ⟨z24, E⟩ := gd_some E
      refine ea_iald (pc := 162) dX12_table_162 (hs23.1 14 (by decide)).1 (hs23.1 14 (by decide)).2.1 (ea_vpl (hs23.1 14 (by decide)).2.2 z24) ?_
      refine ea_iconst (pc := 163) dX12_table_163 (v := 1) rfl ?_
      refine ea_iadd (pc := 164) dX12_table_164 ?_
      refine ea_iconst (pc := 165) dX12_table_165 (v := 2) rfl ?_
      refine ea_idiv (pc := 166) dX12_table_166 (by decide) ?_
      obtain ⟨z25, E⟩ := gd_some E
      refine ea_iast (pc := 167) dX12_table_167 (hs23.1 13 (by decide)).1 (hs23.1 13 (by decide)).2.1 (ea_vpl (hs23.1 13 (by decide)).2.2 z25) ?_
      have hs26 : ShM b0 (ea_wi (ea_wi (ea_wi h (b0 + 11) (Int32.toNatClampNeg sx1) sx0) (b0 + 12) (Int32.toNatClampNeg (ea_i (ea_wi h (b0 + 11) (Int32.toNatClampNeg sx1) sx0) (b0 + 0) 13)) x1) (b0 + 13) (Int32.toNatClampNeg (ea_i (ea_wi (ea_wi h (b0 + 11) (Int32.toNatClampNeg sx1) sx0) (b0 + 12) (Int32.toNatClampNeg (ea_i (ea_wi h (b0 + 11) (Int32.toNatClampNeg sx1) sx0) (b0 + 0) 13)) x1) (b0 + 0) 13)) (((ea_i (ea_wi (ea_wi h (b0 + 11) (Int32.toNatClampNeg sx1) sx0) (b0 + 12) (Int32.toNatClampNeg (ea_i (ea_wi h (b0 + 11) (Int32.toNatClampNeg sx1) sx0) (b0 + 0) 13)) x1) (b0 + 14) (Int32.toNatClampNeg x1)) + (1 : Int32)) / (2 : Int32))) := ShM_wi hs23
      refine ea_aload_n (pc := 168) dX12_table_168 rfl 0 rfl ?_
      refine ea_dup (pc := 169) dX12_table_169 rfl ?_
      refine ea_getI (pc := 170) dX12_table_170 ec_12 (k := 13) (Nat.le_of_ble_eq_true rfl) rfl (Or.inl ew_1358) (hs26.1 0 (by decide)).1 (hs26.1 0 (by decide)).2.1 ?_
      refine ea_iconst (pc := 173) dX12_table_173 (v := 1) rfl ?_
      refine ea_iadd (pc := 174) dX12_table_174 ?_
      refine ea_putI (pc := 175) dX12_table_175 ec_12 (k := 13) (Nat.le_of_ble_eq_true rfl) rfl (Or.inl ⟨rfl, Or.inl ew_1358⟩) rfl rfl (hs26.1 0 (by decide)).1 (hs26.1 0 (by decide)).2.1 ?_
      have hs27 : ShM b0 (ea_wi (ea_wi (ea_wi (ea_wi h (b0 + 11) (Int32.toNatClampNeg sx1) sx0) (b0 + 12) (Int32.toNatClampNeg (ea_i (ea_wi h (b0 + 11) (Int32.toNatClampNeg sx1) sx0) (b0 + 0) 13)) x1) (b0 + 13) (Int32.toNatClampNeg (ea_i (ea_wi (ea_wi h (b0 + 11) (Int32.toNatClampNeg sx1) sx0) (b0 + 12) (Int32.toNatClampNeg (ea_i (ea_wi h (b0 + 11) (Int32.toNatClampNeg sx1) sx0) (b0 + 0) 13)) x1) (b0 + 0) 13)) (((ea_i (ea_wi (ea_wi h (b0 + 11) (Int32.toNatClampNeg sx1) sx0) (b0 + 12) (Int32.toNatClampNeg (ea_i (ea_wi h (b0 + 11) (Int32.toNatClampNeg sx1) sx0) (b0 + 0) 13)) x1) (b0 + 14) (Int32.toNatClampNeg x1)) + (1 : Int32)) / (2 : Int32))) (b0 + 0) 13 ((ea_i (ea_wi (ea_wi (ea_wi h (b0 + 11) (Int32.toNatClampNeg sx1) sx0) (b0 + 12) (Int32.toNatClampNeg (ea_i (ea_wi h (b0 + 11) (Int32.toNatClampNeg sx1) sx0) (b0 + 0) 13)) x1) (b0 + 13) (Int32.toNatClampNeg (ea_i (ea_wi (ea_wi h (b0 + 11) (Int32.toNatClampNeg sx1) sx0) (b0 + 12) (Int32.toNatClampNeg (ea_i (ea_wi h (b0 + 11) (Int32.toNatClampNeg sx1) sx0) (b0 + 0) 13)) x1) (b0 + 0) 13)) (((ea_i (ea_wi (ea_wi h (b0 + 11) (Int32.toNatClampNeg sx1) sx0) (b0 + 12) (Int32.toNatClampNeg (ea_i (ea_wi h (b0 + 11) (Int32.toNatClampNeg sx1) sx0) (b0 + 0) 13)) x1) (b0 + 14) (Int32.toNatClampNeg x1)) + (1 : Int32)) / (2 : Int32))) (b0 + 0) 13) + (1 : Int32))) := ShM_wi hs26
      refine ea_aload_n (pc := 178) dX12_table_178 rfl 0 rfl ?_
      refine ea_getR (pc := 179) dX12_table_179 ec_12 (k := 18) (Nat.le_of_ble_eq_true rfl) rfl (Or.inl ew_1363) (hs27.1 0 (by decide)).1 (hs27.1 0 (by decide)).2.1 (hs27.2 0 18 rfl) ?_
      refine ea_iload_n (pc := 182) dX12_table_182 rfl 1 rfl ?_
      refine ea_dup2 (pc := 183) dX12_table_183 rfl rfl ?_
      obtain ⟨z28, E⟩ := gd_some E
      refine ea_iald (pc := 184) dX12_table_184 (hs27.1 14 (by decide)).1 (hs27.1 14 (by decide)).2.1 (ea_vpl (hs27.1 14 (by decide)).2.2 z28) ?_
      refine ea_iconst (pc := 185) dX12_table_185 (v := 1) rfl ?_
      refine ea_iadd (pc := 186) dX12_table_186 ?_
      obtain ⟨z29, E⟩ := gd_some E
      refine ea_iast (pc := 187) dX12_table_187 (hs27.1 14 (by decide)).1 (hs27.1 14 (by decide)).2.1 (ea_vpl (hs27.1 14 (by decide)).2.2 z29) ?_
      have hs30 : ShM b0 (ea_wi (ea_wi (ea_wi (ea_wi (ea_wi h (b0 + 11) (Int32.toNatClampNeg sx1) sx0) (b0 + 12) (Int32.toNatClampNeg (ea_i (ea_wi h (b0 + 11) (Int32.toNatClampNeg sx1) sx0) (b0 + 0) 13)) x1) (b0 + 13) (Int32.toNatClampNeg (ea_i (ea_wi (ea_wi h (b0 + 11) (Int32.toNatClampNeg sx1) sx0) (b0 + 12) (Int32.toNatClampNeg (ea_i (ea_wi h (b0 + 11) (Int32.toNatClampNeg sx1) sx0) (b0 + 0) 13)) x1) (b0 + 0) 13)) (((ea_i (ea_wi (ea_wi h (b0 + 11) (Int32.toNatClampNeg sx1) sx0) (b0 + 12) (Int32.toNatClampNeg (ea_i (ea_wi h (b0 + 11) (Int32.toNatClampNeg sx1) sx0) (b0 + 0) 13)) x1) (b0 + 14) (Int32.toNatClampNeg x1)) + (1 : Int32)) / (2 : Int32))) (b0 + 0) 13 ((ea_i (ea_wi (ea_wi (ea_wi h (b0 + 11) (Int32.toNatClampNeg sx1) sx0) (b0 + 12) (Int32.toNatClampNeg (ea_i (ea_wi h (b0 + 11) (Int32.toNatClampNeg sx1) sx0) (b0 + 0) 13)) x1) (b0 + 13) (Int32.toNatClampNeg (ea_i (ea_wi (ea_wi h (b0 + 11) (Int32.toNatClampNeg sx1) sx0) (b0 + 12) (Int32.toNatClampNeg (ea_i (ea_wi h (b0 + 11) (Int32.toNatClampNeg sx1) sx0) (b0 + 0) 13)) x1) (b0 + 0) 13)) (((ea_i (ea_wi (ea_wi h (b0 + 11) (Int32.toNatClampNeg sx1) sx0) (b0 + 12) (Int32.toNatClampNeg (ea_i (ea_wi h (b0 + 11) (Int32.toNatClampNeg sx1) sx0) (b0 + 0) 13)) x1) (b0 + 14) (Int32.toNatClampNeg x1)) + (1 : Int32)) / (2 : Int32))) (b0 + 0) 13) + (1 : Int32))) (b0 + 14) (Int32.toNatClampNeg x1) ((ea_i (ea_wi (ea_wi (ea_wi (ea_wi h (b0 + 11) (Int32.toNatClampNeg sx1) sx0) (b0 + 12) (Int32.toNatClampNeg (ea_i (ea_wi h (b0 + 11) (Int32.toNatClampNeg sx1) sx0) (b0 + 0) 13)) x1) (b0 + 13) (Int32.toNatClampNeg (ea_i (ea_wi (ea_wi h (b0 + 11) (Int32.toNatClampNeg sx1) sx0) (b0 + 12) (Int32.toNatClampNeg (ea_i (ea_wi h (b0 + 11) (Int32.toNatClampNeg sx1) sx0) (b0 + 0) 13)) x1) (b0 + 0) 13)) (((ea_i (ea_wi (ea_wi h (b0 + 11) (Int32.toNatClampNeg sx1) sx0) (b0 + 12) (Int32.toNatClampNeg (ea_i (ea_wi h (b0 + 11) (Int32.toNatClampNeg sx1) sx0) (b0 + 0) 13)) x1) (b0 + 14) (Int32.toNatClampNeg x1)) + (1 : Int32)) / (2 : Int32))) (b0 + 0) 13 ((ea_i (ea_wi (ea_wi (ea_wi h (b0 + 11) (Int32.toNatClampNeg sx1) sx0) (b0 + 12) (Int32.toNatClampNeg (ea_i (ea_wi h (b0 + 11) (Int32.toNatClampNeg sx1) sx0) (b0 + 0) 13)) x1) (b0 + 13) (Int32.toNatClampNeg (ea_i (ea_wi (ea_wi h (b0 + 11) (Int32.toNatClampNeg sx1) sx0) (b0 + 12) (Int32.toNatClampNeg (ea_i (ea_wi h (b0 + 11) (Int32.toNatClampNeg sx1) sx0) (b0 + 0) 13)) x1) (b0 + 0) 13)) (((ea_i (ea_wi (ea_wi h (b0 + 11) (Int32.toNatClampNeg sx1) sx0) (b0 + 12) (Int32.toNatClampNeg (ea_i (ea_wi h (b0 + 11) (Int32.toNatClampNeg sx1) sx0) (b0 + 0) 13)) x1) (b0 + 14) (Int32.toNatClampNeg x1)) + (1 : Int32)) / (2 : Int32))) (b0 + 0) 13) + (1 : Int32))) (b0 + 14) (Int32.toNatClampNeg x1)) + (1 : Int32))) := ShM_wi hs27
      exact ((ih 188 0 0 (x1 : Int32) 0 (ea_wi (ea_wi (ea_wi (ea_wi (ea_wi h (b0 + 11) (Int32.toNatClampNeg sx1) sx0) (b0 + 12) (Int32.toNatClampNeg (ea_i (ea_wi h (b0 + 11) (Int32.toNatClampNeg sx1) sx0) (b0 + 0) 13)) x1) (b0 + 13) (Int32.toNatClampNeg (ea_i (ea_wi (ea_wi h (b0 + 11) (Int32.toNatClampNeg sx1) sx0) (b0 + 12) (Int32.toNatClampNeg (ea_i (ea_wi h (b0 + 11) (Int32.toNatClampNeg sx1) sx0) (b0 + 0) 13)) x1) (b0 + 0) 13)) (((ea_i (ea_wi (ea_wi h (b0 + 11) (Int32.toNatClampNeg sx1) sx0) (b0 + 12) (Int32.toNatClampNeg (ea_i (ea_wi h (b0 + 11) (Int32.toNatClampNeg sx1) sx0) (b0 + 0) 13)) x1) (b0 + 14) (Int32.toNatClampNeg x1)) + (1 : Int32)) / (2 : Int32))) (b0 + 0) 13 ((ea_i (ea_wi (ea_wi (ea_wi h (b0 + 11) (Int32.toNatClampNeg sx1) sx0) (b0 + 12) (Int32.toNatClampNeg (ea_i (ea_wi h (b0 + 11) (Int32.toNatClampNeg sx1) sx0) (b0 + 0) 13)) x1) (b0 + 13) (Int32.toNatClampNeg (ea_i (ea_wi (ea_wi h (b0 + 11) (Int32.toNatClampNeg sx1) sx0) (b0 + 12) (Int32.toNatClampNeg (ea_i (ea_wi h (b0 + 11) (Int32.toNatClampNeg sx1) sx0) (b0 + 0) 13)) x1) (b0 + 0) 13)) (((ea_i (ea_wi (ea_wi h (b0 + 11) (Int32.toNatClampNeg sx1) sx0) (b0 + 12) (Int32.toNatClampNeg (ea_i (ea_wi h (b0 + 11) (Int32.toNatClampNeg sx1) sx0) (b0 + 0) 13)) x1) (b0 + 14) (Int32.toNatClampNeg x1)) + (1 : Int32)) / (2 : Int32))) (b0 + 0) 13) + (1 : Int32))) (b0 + 14) (Int32.toNatClampNeg x1) ((ea_i (ea_wi (ea_wi (ea_wi (ea_wi h (b0 + 11) (Int32.toNatClampNeg sx1) sx0) (b0 + 12) (Int32.toNatClampNeg (ea_i (ea_wi h (b0 + 11) (Int32.toNatClampNeg sx1) sx0) (b0 + 0) 13)) x1) (b0 + 13) (Int32.toNatClampNeg (ea_i (ea_wi (ea_wi h (b0 + 11) (Int32.toNatClampNeg sx1) sx0) (b0 + 12) (Int32.toNatClampNeg (ea_i (ea_wi h (b0 + 11) (Int32.toNatClampNeg sx1) sx0) (b0 + 0) 13)) x1) (b0 + 0) 13)) (((ea_i (ea_wi (ea_wi h (b0 + 11) (Int32.toNatClampNeg sx1) sx0) (b0 + 12) (Int32.toNatClampNeg (ea_i (ea_wi h (b0 + 11) (Int32.toNatClampNeg sx1) sx0) (b0 + 0) 13)) x1) (b0 + 14) (Int32.toNatClampNeg x1)) + (1 : Int32)) / (2 : Int32))) (b0 + 0) 13 ((ea_i (ea_wi (ea_wi (ea_wi h (b0 + 11) (Int32.toNatClampNeg sx1) sx0) (b0 + 12) (Int32.toNatClampNeg (ea_i (ea_wi h (b0 + 11) (Int32.toNatClampNeg sx1) sx0) (b0 + 0) 13)) x1) (b0 + 13) (Int32.toNatClampNeg (ea_i (ea_wi (ea_wi h (b0 + 11) (Int32.toNatClampNeg sx1) sx0) (b0 + 12) (Int32.toNatClampNeg (ea_i (ea_wi h (b0 + 11) (Int32.toNatClampNeg sx1) sx0) (b0 + 0) 13)) x1) (b0 + 0) 13)) (((ea_i (ea_wi (ea_wi h (b0 + 11) (Int32.toNatClampNeg sx1) sx0) (b0 + 12) (Int32.toNatClampNeg (ea_i (ea_wi h (b0 + 11) (Int32.toNatClampNeg sx1) sx0) (b0 + 0) 13)) x1) (b0 + 14) (Int32.toNatClampNeg x1)) + (1 : Int32)) / (2 : Int32))) (b0 + 0) 13) + (1 : Int32))) (b0 + 14) (Int32.toNatClampNeg x1)) + (1 : Int32))) _ _ E hs30).2.2.2.2.2.1 rfl)
    refine ⟨?_, ?_⟩
    · intro el
      subst el
      have E := (if_neg (by decide)).symm.trans E
      have E := (if_neg (by decide)).symm.trans E
      have E := (if_neg (by decide)).symm.trans E
      have E := (if_neg (by decide)).symm.trans E
      have E := (if_neg (by decide)).symm.trans E
      have E := (if_pos rfl).symm.trans E
      refine ea_iload_n (pc := 188) dX12_table_188 rfl 1 rfl ?_
      refine ea_iconst (pc := 189) dX12_table_189 (v := (-1)) rfl ?_
      refine ea_icmp_ne (pc := 190) (tgt := 41) dX12_table_190 rfl (fun c31 => ?_) (fun c31 => ?_)
      · have E := (if_neg c31).symm.trans E
        exact (ea_fewer [0] rfl ((ih 41 0 0 0 0 h _ _ E hs).2.2.1 rfl))
      · have E := (if_pos c31).symm.trans E
        refine ea_iconst (pc := 193) dX12_table_193 (v := 0) rfl ?_
        refine ea_istore_n (pc := 194) (lv' := [(0, vR (some (b0 + 0))), (2, vI 0)]) dX12_table_194 rfl (Nat.le_of_ble_eq_true rfl) [1, 0] rfl ?_
        exact ((ih 195 0 0 0 (0 : Int32) h _ _ E hs).2.2.2.2.2.2.1 rfl)
    refine ⟨?_, ?_⟩
    · intro el
      subst el
      have E := (if_neg (by decide)).symm.trans E
      have E := (if_neg (by decide)).symm.trans E
      have E := (if_neg (by decide)).symm.trans E
      have E := (if_neg (by decide)).symm.trans E
      have E := (if_neg (by decide)).symm.trans E
      have E := (if_neg (by decide)).symm.trans E
      have E := (if_pos rfl).symm.trans E
      refine ea_iload_n (pc := 195) dX12_table_195 rfl 1 rfl ?_
      refine ea_bipush (pc := 196) dX12_table_196 (v := 12) rfl ?_
      refine ea_icmp_ge (pc := 198) (tgt := 214) dX12_table_198 rfl (fun c34 => ?_) (fun c34 => ?_)
      · have E := (if_pos c34).symm.trans E
        refine ea_aload_n (pc := 214) dX12_table_214 rfl 0 rfl ?_
        refine ea_getI (pc := 215) dX12_table_215 ec_12 (k := 13) (Nat.le_of_ble_eq_true rfl) rfl (Or.inl ew_1358) (hs.1 0 (by decide)).1 (hs.1 0 (by decide)).2.1 ?_
        refine ea_iconst (pc := 218) dX12_table_218 (v := 1) rfl ?_
        refine ea_isub (pc := 219) dX12_table_219 ?_
        refine ea_istore_n (pc := 220) (lv' := [(0, vR (some (b0 + 0))), (2, vI ((ea_i h (b0 + 0) 13) - (1 : Int32)))]) dX12_table_220 rfl (Nat.le_of_ble_eq_true rfl) [1, 0] rfl ?_
        exact ((ih 221 0 0 0 (((ea_i h (b0 + 0) 13) - (1 : Int32)) : Int32) h _ _ E hs).2.2.2.2.2.2.2 rfl)
      · have E := (if_neg c34).symm.trans E
        refine ea_aload_n (pc := 201) dX12_table_201 rfl 0 rfl ?_
        refine ea_getR (pc := 202) dX12_table_202 ec_12 (k := 24) (Nat.le_of_ble_eq_true rfl) rfl (Or.inl ew_1369) (hs.1 0 (by decide)).1 (hs.1 0 (by decide)).2.1 (hs.2 0 24 rfl) ?_
        refine ea_iload_n (pc := 205) dX12_table_205 rfl 1 rfl ?_
        refine ea_iconst (pc := 206) dX12_table_206 (v := (-1)) rfl ?_
        obtain ⟨z32, E⟩ := gd_some E
        refine ea_iast (pc := 207) dX12_table_207 (hs.1 20 (by decide)).1 (hs.1 20 (by decide)).2.1 (ea_vpl (hs.1 20 (by decide)).2.2 z32) ?_
        have hs33 : ShM b0 (ea_wi h (b0 + 20) (Int32.toNatClampNeg x2) (-1)) := ShM_wi hs
        refine ea_iinc (pc := 208) (v := 1) (lv' := [(0, vR (some (b0 + 0))), (2, vI (x2 + (1 : Int32)))]) dX12_table_208 1 rfl rfl (Nat.le_of_ble_eq_true rfl) [1, 0] rfl ?_
        refine ea_goto (pc := 211) (tgt := 195) dX12_table_211 rfl ?_
        exact ((ih 195 0 0 0 ((x2 + (1 : Int32)) : Int32) (ea_wi h (b0 + 20) (Int32.toNatClampNeg x2) (-1)) _ _ E hs33).2.2.2.2.2.2.1 rfl)
    intro el
    subst el
    have E := (if_neg (by decide)).symm.trans E
    have E := (if_neg (by decide)).symm.trans E
    have E := (if_neg (by decide)).symm.trans E
    have E := (if_neg (by decide)).symm.trans E
    have E := (if_neg (by decide)).symm.trans E
    have E := (if_neg (by decide)).symm.trans E
    have E := (if_neg (by decide)).symm.trans E
    have E := (if_pos rfl).symm.trans E
    refine ea_iload_n (pc := 221) dX12_table_221 rfl 1 rfl ?_
    refine ea_if_lt (pc := 222) (tgt := 246) dX12_table_222 rfl (fun c39 => ?_) (fun c39 => ?_)
    · have E := (if_pos c39).symm.trans E
      cases E
      exact ea_return (pc := 246) dX12_table_246 rfl
    · have E := (if_neg c39).symm.trans E
      refine ea_aload_n (pc := 225) dX12_table_225 rfl 0 rfl ?_
      refine ea_getR (pc := 226) dX12_table_226 ec_12 (k := 15) (Nat.le_of_ble_eq_true rfl) rfl (Or.inl ew_1360) (hs.1 0 (by decide)).1 (hs.1 0 (by decide)).2.1 (hs.2 0 15 rfl) ?_
      refine ea_iload_n (pc := 229) dX12_table_229 rfl 1 rfl ?_
      obtain ⟨z35, E⟩ := gd_some E
      refine ea_iald (pc := 230) dX12_table_230 (hs.1 11 (by decide)).1 (hs.1 11 (by decide)).2.1 (ea_vpl (hs.1 11 (by decide)).2.2 z35) ?_
      refine ea_iconst (pc := 231) dX12_table_231 (v := 1) rfl ?_
      refine ea_icmp_ne (pc := 232) (tgt := 240) dX12_table_232 rfl (fun c38 => ?_) (fun c38 => ?_)
      · have E := (if_neg c38).symm.trans E
        refine ea_iinc (pc := 240) (v := (-1)) (lv' := [(0, vR (some (b0 + 0))), (2, vI (x2 + ((-1) : Int32)))]) dX12_table_240 1 rfl rfl (Nat.le_of_ble_eq_true rfl) [1, 0] rfl ?_
        refine ea_goto (pc := 243) (tgt := 221) dX12_table_243 rfl ?_
        exact ((ih 221 0 0 0 ((x2 + ((-1) : Int32)) : Int32) h _ _ E hs).2.2.2.2.2.2.2 rfl)
      · have E := (if_pos c38).symm.trans E
        refine ea_aload_n (pc := 235) dX12_table_235 rfl 0 rfl ?_
        refine ea_iload_n (pc := 236) dX12_table_236 rfl 1 rfl ?_
        obtain ⟨z36, E⟩ := gd_some E
        refine ea_callV (pc := 237) (d' := d - 1) (As := [vI x2]) (st := []) dX12_table_237 kX12_goings (sX12_goings (d := d - 1) (by omega) hs z36) (by omega) rfl (Nat.le_of_ble_eq_true rfl) ew_1794 ew_1796 ew_59 (ci := 12) rfl (by decide) (hs.1 0 (by decide)).1 (hs.1 0 (by decide)).2.1 ?_
        have hs37 : ShM b0 (wX12_goings b0 (x2 : Int32) h) := shX12_goings hs
        refine ea_iinc (pc := 240) (v := (-1)) (lv' := [(0, vR (some (b0 + 0))), (2, vI (x2 + ((-1) : Int32)))]) dX12_table_240 1 rfl rfl (Nat.le_of_ble_eq_true rfl) [1, 0] rfl ?_
        refine ea_goto (pc := 243) (tgt := 221) dX12_table_243 rfl ?_
        exact ((ih 221 0 0 0 ((x2 + ((-1) : Int32)) : Int32) (wX12_goings b0 (x2 : Int32) h) _ _ E hs37).2.2.2.2.2.2.2 rfl)
noncomputable def qX12_table (b0 : Nat) (h : ea_H) : Option (Unit × ea_H) := gX12_table b0 1000000000 0 0 0 0 0 h
def okX12_table (b0 : Nat) (h : ea_H) : Prop := ∃ x, qX12_table b0 h = some x
noncomputable def wX12_table (b0 : Nat) (h : ea_H) : ea_H := ((qX12_table b0 h).getD ((), h)).2
theorem sX12_table {d : Nat} {b0 : Nat} {h : ea_H} (hd : 4 ≤ d) (hs : ShM b0 h) (K : okX12_table b0 h) : ea_Met mX12_table d [vR (some (b0 + 0))] h none (wX12_table b0 h) := by
  obtain ⟨⟨x, y⟩, K⟩ := K
  unfold wX12_table
  rw [K]
  unfold qX12_table at K
  exact ea_enter rfl (Nat.le_of_ble_eq_true rfl) ((tX12_table hd 1000000000 0 0 0 0 0 h x y K hs).1 rfl)
theorem zX12_table {b0 : Nat} : ∀ (f lbl : Nat) (sx0 : Int32) (sx1 : Int32) (x1 : Int32) (x2 : Int32) (h : ea_H) (r : Unit) (h' : ea_H), gX12_table b0 f lbl sx0 sx1 x1 x2 h = some (r, h') → ShM b0 h → ShM b0 h' := by
  intro f
  induction f with
  | zero => intro lbl sx0 sx1 x1 x2 h r h' E; cases E
  | succ f ih =>
    intro lbl sx0 sx1 x1 x2 h r h' E hs
    unfold gX12_table at E
    by_cases el0 : lbl = 0
    · have E := (if_pos el0).symm.trans E
      by_cases c3 : (ea_i h (b0 + 0) 12) = (0 : Int32)
      · have E := (if_pos c3).symm.trans E
        exact ih 20 0 0 (0 : Int32) 0 (ea_wi (ea_wi h (b0 + 0) 12 1) (b0 + 0) 13 0) _ _ E (ShM_wi (ShM_wi hs))
      have E := (if_neg c3).symm.trans E
      cases E
      exact hs
    have E := (if_neg el0).symm.trans E
    by_cases el1 : lbl = 20
    · have E := (if_pos el1).symm.trans E
      by_cases c6 : (70 : Int32) ≤ x1
      · have E := (if_pos c6).symm.trans E
        exact ih 41 0 0 0 0 h _ _ E hs
      have E := (if_neg c6).symm.trans E
      obtain ⟨z4, E⟩ := gd_some E
      exact ih 20 0 0 ((x1 + (1 : Int32)) : Int32) 0 (ea_wi h (b0 + 14) (Int32.toNatClampNeg x1) 0) _ _ E (ShM_wi hs)
    have E := (if_neg el1).symm.trans E
    by_cases el2 : lbl = 41
    · have E := (if_pos el2).symm.trans E
      exact ih 45 0 0 ((-1) : Int32) (0 : Int32) h _ _ E hs
    have E := (if_neg el2).symm.trans E
    by_cases el3 : lbl = 45
    · have E := (if_pos el3).symm.trans E
      by_cases c19 : ((7 : Int32) * (ea_i h (b0 + 0) 2)) ≤ x2
      · have E := (if_pos c19).symm.trans E
        by_cases c13 : x1 = ((-1) : Int32)
        · have E := (if_pos c13).symm.trans E
          exact ih 188 0 0 (x1 : Int32) 0 h _ _ E hs
        have E := (if_neg c13).symm.trans E
        obtain ⟨z7, E⟩ := gd_some E
        obtain ⟨z8, E⟩ := gd_some E
        obtain ⟨z9, E⟩ := gd_some E
        obtain ⟨z11, E⟩ := gd_some E
        by_cases c12 : ((ea_i (ea_wi h (b0 + 10) (Int32.toNatClampNeg (ea_i h (b0 + 0) 13)) (vX12_minuteOf b0 (x1 : Int32) ((ea_i h (b0 + 14) (Int32.toNatClampNeg x1)) : Int32) h)) (b0 + 14) (Int32.toNatClampNeg x1)) - (ea_i (ea_wi h (b0 + 10) (Int32.toNatClampNeg (ea_i h (b0 + 0) 13)) (vX12_minuteOf b0 (x1 : Int32) ((ea_i h (b0 + 14) (Int32.toNatClampNeg x1)) : Int32) h)) (b0 + 14) (Int32.toNatClampNeg x1)) / (2 : Int32) * (2 : Int32)) = (0 : Int32)
        · have E := (if_pos c12).symm.trans E
          exact ih 138 (1 : Int32) ((ea_i (ea_wi h (b0 + 10) (Int32.toNatClampNeg (ea_i h (b0 + 0) 13)) (vX12_minuteOf b0 (x1 : Int32) ((ea_i h (b0 + 14) (Int32.toNatClampNeg x1)) : Int32) h)) (b0 + 0) 13) : Int32) (x1 : Int32) 0 (ea_wi h (b0 + 10) (Int32.toNatClampNeg (ea_i h (b0 + 0) 13)) (vX12_minuteOf b0 (x1 : Int32) ((ea_i h (b0 + 14) (Int32.toNatClampNeg x1)) : Int32) h)) _ _ E (ShM_wi hs)
        have E := (if_neg c12).symm.trans E
        exact ih 138 (0 : Int32) ((ea_i (ea_wi h (b0 + 10) (Int32.toNatClampNeg (ea_i h (b0 + 0) 13)) (vX12_minuteOf b0 (x1 : Int32) ((ea_i h (b0 + 14) (Int32.toNatClampNeg x1)) : Int32) h)) (b0 + 0) 13) : Int32) (x1 : Int32) 0 (ea_wi h (b0 + 10) (Int32.toNatClampNeg (ea_i h (b0 + 0) 13)) (vX12_minuteOf b0 (x1 : Int32) ((ea_i h (b0 + 14) (Int32.toNatClampNeg x1)) : Int32) h)) _ _ E (ShM_wi hs)
      have E := (if_neg c19).symm.trans E
      obtain ⟨z14, E⟩ := gd_some E
      by_cases c18 : (vX12_isMore b0 (x2 : Int32) h) = (0 : Int32)
      · have E := (if_pos c18).symm.trans E
        exact ih 45 0 0 (x1 : Int32) ((x2 + (1 : Int32)) : Int32) h _ _ E hs
      have E := (if_neg c18).symm.trans E
      by_cases c17 : x1 = ((-1) : Int32)
      · have E := (if_pos c17).symm.trans E
        exact ih 45 0 0 (x2 : Int32) ((x2 + (1 : Int32)) : Int32) h _ _ E hs
      have E := (if_neg c17).symm.trans E
      obtain ⟨z15, E⟩ := gd_some E
      by_cases c16 : (vX12_isAheadOf b0 (x2 : Int32) (x1 : Int32) h) = (0 : Int32)
      · have E := (if_pos c16).symm.trans E
        exact ih 45 0 0 (x1 : Int32) ((x2 + (1 : Int32)) : Int32) h _ _ E hs
      have E := (if_neg c16).symm.trans E
      exact ih 45 0 0 (x2 : Int32) ((x2 + (1 : Int32)) : Int32) h _ _ E hs
    have E := (if_neg el3).symm.trans E
    by_cases el4 : lbl = 138
    · have E := (if_pos el4).symm.trans E
      obtain ⟨z20, E⟩ := gd_some E
      obtain ⟨z22, E⟩ := gd_some E
      obtain ⟨z24, E⟩ := gd_some E
      obtain ⟨z25, E⟩ := gd_some E
      obtain ⟨z28, E⟩ := gd_some E
      obtain ⟨z29, E⟩ := gd_some E
      exact ih 188 0 0 (x1 : Int32) 0 (ea_wi (ea_wi (ea_wi (ea_wi (ea_wi h (b0 + 11) (Int32.toNatClampNeg sx1) sx0) (b0 + 12) (Int32.toNatClampNeg (ea_i (ea_wi h (b0 + 11) (Int32.toNatClampNeg sx1) sx0) (b0 + 0) 13)) x1) (b0 + 13) (Int32.toNatClampNeg (ea_i (ea_wi (ea_wi h (b0 + 11) (Int32.toNatClampNeg sx1) sx0) (b0 + 12) (Int32.toNatClampNeg (ea_i (ea_wi h (b0 + 11) (Int32.toNatClampNeg sx1) sx0) (b0 + 0) 13)) x1) (b0 + 0) 13)) (((ea_i (ea_wi (ea_wi h (b0 + 11) (Int32.toNatClampNeg sx1) sx0) (b0 + 12) (Int32.toNatClampNeg (ea_i (ea_wi h (b0 + 11) (Int32.toNatClampNeg sx1) sx0) (b0 + 0) 13)) x1) (b0 + 14) (Int32.toNatClampNeg x1)) + (1 : Int32)) / (2 : Int32))) (b0 + 0) 13 ((ea_i (ea_wi (ea_wi (ea_wi h (b0 + 11) (Int32.toNatClampNeg sx1) sx0) (b0 + 12) (Int32.toNatClampNeg (ea_i (ea_wi h (b0 + 11) (Int32.toNatClampNeg sx1) sx0) (b0 + 0) 13)) x1) (b0 + 13) (Int32.toNatClampNeg (ea_i (ea_wi (ea_wi h (b0 + 11) (Int32.toNatClampNeg sx1) sx0) (b0 + 12) (Int32.toNatClampNeg (ea_i (ea_wi h (b0 + 11) (Int32.toNatClampNeg sx1) sx0) (b0 + 0) 13)) x1) (b0 + 0) 13)) (((ea_i (ea_wi (ea_wi h (b0 + 11) (Int32.toNatClampNeg sx1) sx0) (b0 + 12) (Int32.toNatClampNeg (ea_i (ea_wi h (b0 + 11) (Int32.toNatClampNeg sx1) sx0) (b0 + 0) 13)) x1) (b0 + 14) (Int32.toNatClampNeg x1)) + (1 : Int32)) / (2 : Int32))) (b0 + 0) 13) + (1 : Int32))) (b0 + 14) (Int32.toNatClampNeg x1) ((ea_i (ea_wi (ea_wi (ea_wi (ea_wi h (b0 + 11) (Int32.toNatClampNeg sx1) sx0) (b0 + 12) (Int32.toNatClampNeg (ea_i (ea_wi h (b0 + 11) (Int32.toNatClampNeg sx1) sx0) (b0 + 0) 13)) x1) (b0 + 13) (Int32.toNatClampNeg (ea_i (ea_wi (ea_wi h (b0 + 11) (Int32.toNatClampNeg sx1) sx0) (b0 + 12) (Int32.toNatClampNeg (ea_i (ea_wi h (b0 + 11) (Int32.toNatClampNeg sx1) sx0) (b0 + 0) 13)) x1) (b0 + 0) 13)) (((ea_i (ea_wi (ea_wi h (b0 + 11) (Int32.toNatClampNeg sx1) sx0) (b0 + 12) (Int32.toNatClampNeg (ea_i (ea_wi h (b0 + 11) (Int32.toNatClampNeg sx1) sx0) (b0 + 0) 13)) x1) (b0 + 14) (Int32.toNatClampNeg x1)) + (1 : Int32)) / (2 : Int32))) (b0 + 0) 13 ((ea_i (ea_wi (ea_wi (ea_wi h (b0 + 11) (Int32.toNatClampNeg sx1) sx0) (b0 + 12) (Int32.toNatClampNeg (ea_i (ea_wi h (b0 + 11) (Int32.toNatClampNeg sx1) sx0) (b0 + 0) 13)) x1) (b0 + 13) (Int32.toNatClampNeg (ea_i (ea_wi (ea_wi h (b0 + 11) (Int32.toNatClampNeg sx1) sx0) (b0 + 12) (Int32.toNatClampNeg (ea_i (ea_wi h (b0 + 11) (Int32.toNatClampNeg sx1) sx0) (b0 + 0) 13)) x1) (b0 + 0) 13)) (((ea_i (ea_wi (ea_wi h (b0 + 11) (Int32.toNatClampNeg sx1) sx0) (b0 + 12) (Int32.toNatClampNeg (ea_i (ea_wi h (b0 + 11) (Int32.toNatClampNeg sx1) sx0) (b0 + 0) 13)) x1) (b0 + 14) (Int32.toNatClampNeg x1)) + (1 : Int32)) / (2 : Int32))) (b0 + 0) 13) + (1 : Int32))) (b0 + 14) (Int32.toNatClampNeg x1)) + (1 : Int32))) _ _ E (ShM_wi (ShM_wi (ShM_wi (ShM_wi (ShM_wi hs)))))
    have E := (if_neg el4).symm.trans E
    by_cases el5 : lbl = 188
    · have E := (if_pos el5).symm.trans E
      by_cases c31 : x1 = ((-1) : Int32)
      · have E := (if_pos c31).symm.trans E
        exact ih 195 0 0 0 (0 : Int32) h _ _ E hs
      have E := (if_neg c31).symm.trans E
      exact ih 41 0 0 0 0 h _ _ E hs
    have E := (if_neg el5).symm.trans E
    by_cases el6 : lbl = 195
    · have E := (if_pos el6).symm.trans E
      by_cases c34 : (12 : Int32) ≤ x2
      · have E := (if_pos c34).symm.trans E
        exact ih 221 0 0 0 (((ea_i h (b0 + 0) 13) - (1 : Int32)) : Int32) h _ _ E hs
      have E := (if_neg c34).symm.trans E
      obtain ⟨z32, E⟩ := gd_some E
      exact ih 195 0 0 0 ((x2 + (1 : Int32)) : Int32) (ea_wi h (b0 + 20) (Int32.toNatClampNeg x2) (-1)) _ _ E (ShM_wi hs)
    have E := (if_neg el6).symm.trans E
    by_cases el7 : lbl = 221
    · have E := (if_pos el7).symm.trans E
      by_cases c39 : x2 < (0 : Int32)
      · have E := (if_pos c39).symm.trans E
        cases E
        exact hs
      have E := (if_neg c39).symm.trans E
      obtain ⟨z35, E⟩ := gd_some E
      by_cases c38 : (ea_i h (b0 + 11) (Int32.toNatClampNeg x2)) = (1 : Int32)
      · have E := (if_pos c38).symm.trans E
        obtain ⟨z36, E⟩ := gd_some E
        exact ih 221 0 0 0 ((x2 + ((-1) : Int32)) : Int32) (wX12_goings b0 (x2 : Int32) h) _ _ E (shX12_goings hs)
      have E := (if_neg c38).symm.trans E
      exact ih 221 0 0 0 ((x2 + ((-1) : Int32)) : Int32) h _ _ E hs
    have E := (if_neg el7).symm.trans E
    cases E
theorem shX12_table {b0 : Nat} {h : ea_H} (hs : ShM b0 h) : ShM b0 (wX12_table b0 h) := by
  unfold wX12_table
  cases K : qX12_table b0 h with
  | none => exact hs
  | some x => obtain ⟨x, y⟩ := x; unfold qX12_table at K; exact zX12_table _ _ _ _ _ _ _ _ _ K hs
noncomputable def vX12_bestFrom (b0 : Nat) (x1 : Int32) (x2 : Int32) (x3 : Int32) (h : ea_H) : Int32 := (if (vX12_going b0 (x1 : Int32) (x2 : Int32) (wX12_table b0 h)) = ((-1) : Int32) then ((-1) : Int32) else (ea_i (wX12_going b0 (x1 : Int32) (x2 : Int32) (wX12_table b0 h)) (b0 + 18) (Int32.toNatClampNeg (((12 : Int32) * (vX12_going b0 (x1 : Int32) (x2 : Int32) (wX12_table b0 h))) + x3))))
noncomputable def wX12_bestFrom (b0 : Nat) (x1 : Int32) (x2 : Int32) (x3 : Int32) (h : ea_H) : ea_H := (wX12_going b0 (x1 : Int32) (x2 : Int32) (wX12_table b0 h))
def okX12_bestFrom (b0 : Nat) (x1 : Int32) (x2 : Int32) (x3 : Int32) (h : ea_H) : Prop := (okX12_table b0 h) ∧ ((okX12_going b0 (x1 : Int32) (x2 : Int32) (wX12_table b0 h)) ∧ (((vX12_going b0 (x1 : Int32) (x2 : Int32) (wX12_table b0 h)) = ((-1) : Int32) → True) ∧ (¬ (vX12_going b0 (x1 : Int32) (x2 : Int32) (wX12_table b0 h)) = ((-1) : Int32) → vp_in (((12 : Int32) * (vX12_going b0 (x1 : Int32) (x2 : Int32) (wX12_table b0 h))) + x3) 12000)))
theorem shX12_bestFrom {b0 : Nat} {x1 : Int32} {x2 : Int32} {x3 : Int32} {h : ea_H} (hs : ShM b0 h) : ShM b0 (wX12_bestFrom b0 x1 x2 x3 h) := (shX12_going (shX12_table hs))
theorem sX12_bestFrom {d : Nat} {b0 : Nat} {x1 : Int32} {x2 : Int32} {x3 : Int32} {h : ea_H} (hd : 5 ≤ d) (hs : ShM b0 h) (K : okX12_bestFrom b0 x1 x2 x3 h) : ea_Met mX12_bestFrom d [vR (some (b0 + 0)), vI x1, vI x2, vI x3] h (some (vI (vX12_bestFrom b0 x1 x2 x3 h))) (wX12_bestFrom b0 x1 x2 x3 h) := by
  obtain ⟨X, EX⟩ : ∃ z, z = vX12_bestFrom b0 x1 x2 x3 h := ⟨_, rfl⟩
  rw [← EX]
  unfold vX12_bestFrom at EX
  obtain ⟨Y, EY⟩ : ∃ z, z = wX12_bestFrom b0 x1 x2 x3 h := ⟨_, rfl⟩
  rw [← EY]
  unfold wX12_bestFrom at EY
  unfold okX12_bestFrom at K
  refine ea_enter rfl (Nat.le_of_ble_eq_true rfl) ?_
  refine ea_aload_n (pc := 0) dX12_bestFrom_0 rfl 0 rfl ?_
  obtain ⟨z1, K⟩ := K
  refine ea_callV (pc := 1) (d' := d - 1) (As := []) (st := []) dX12_bestFrom_1 kX12_table (sX12_table (d := d - 1) (by omega) hs z1) (by omega) rfl (Nat.le_of_ble_eq_true rfl) ew_1774 ew_1776 ew_54 (ci := 12) rfl (by decide) (hs.1 0 (by decide)).1 (hs.1 0 (by decide)).2.1 ?_
  have hs2 : ShM b0 (wX12_table b0 h) := shX12_table hs
  refine ea_aload_n (pc := 4) dX12_bestFrom_4 rfl 0 rfl ?_
  refine ea_iload_n (pc := 5) dX12_bestFrom_5 rfl 1 rfl ?_
  refine ea_iload_n (pc := 6) dX12_bestFrom_6 rfl 2 rfl ?_
  obtain ⟨z3, K⟩ := K
  refine ea_callV (pc := 7) (d' := d - 1) (As := [vI x1, vI x2]) (st := []) dX12_bestFrom_7 kX12_going (sX12_going (d := d - 1) (by omega) hs2 z3) (by omega) rfl (Nat.le_of_ble_eq_true rfl) ew_1802 ew_1804 ew_61 (ci := 12) rfl (by decide) (hs2.1 0 (by decide)).1 (hs2.1 0 (by decide)).2.1 ?_
  have hs4 : ShM b0 (wX12_going b0 (x1 : Int32) (x2 : Int32) (wX12_table b0 h)) := shX12_going hs2
  refine ea_istore (pc := 10) (lv' := [(0, vR (some (b0 + 0))), (3, vI x3), (4, vI (vX12_going b0 (x1 : Int32) (x2 : Int32) (wX12_table b0 h)))]) dX12_bestFrom_10 (Nat.le_of_ble_eq_true rfl) [1, 4, 0] rfl ?_
  refine ea_iload (pc := 12) dX12_bestFrom_12 2 rfl ?_
  refine ea_iconst (pc := 14) dX12_bestFrom_14 (v := (-1)) rfl ?_
  refine ea_icmp_ne (pc := 15) (tgt := 22) dX12_bestFrom_15 rfl (fun c6 => ?_) (fun c6 => ?_)
  · have EX := EX.trans (if_neg c6)
    have K := K.2 c6
    refine ea_aload_n (pc := 22) dX12_bestFrom_22 rfl 0 rfl ?_
    refine ea_getR (pc := 23) dX12_bestFrom_23 ec_12 (k := 22) (Nat.le_of_ble_eq_true rfl) rfl (Or.inl ew_1367) (hs4.1 0 (by decide)).1 (hs4.1 0 (by decide)).2.1 (hs4.2 0 22 rfl) ?_
    refine ea_bipush (pc := 26) dX12_bestFrom_26 (v := 12) rfl ?_
    refine ea_iload (pc := 28) dX12_bestFrom_28 2 rfl ?_
    refine ea_imul (pc := 30) dX12_bestFrom_30 ?_
    refine ea_iload_n (pc := 31) dX12_bestFrom_31 rfl 1 rfl ?_
    refine ea_iadd (pc := 32) dX12_bestFrom_32 ?_
    have z5 := K
    refine ea_iald (pc := 33) dX12_bestFrom_33 (hs4.1 18 (by decide)).1 (hs4.1 18 (by decide)).2.1 (ea_vpl (hs4.1 18 (by decide)).2.2 z5) ?_
    subst EX
    subst EY
    exact ea_ireturn (pc := 34) dX12_bestFrom_34 rfl rfl
  · have EX := EX.trans (if_pos c6)
    refine ea_iconst (pc := 18) dX12_bestFrom_18 (v := (-1)) rfl ?_
    refine ea_goto (pc := 19) (tgt := 34) dX12_bestFrom_19 rfl ?_
    subst EX
    subst EY
    exact ea_ireturn (pc := 34) dX12_bestFrom_34 rfl rfl
noncomputable def vX12_way (b0 : Nat) (x1 : Int32) (x2 : Int32) (x3 : Int32) (x4 : Int32) (h : ea_H) : Int32 := (if (vX12_isTown b0 (x1 : Int32) h) = (0 : Int32) then ((-1) : Int32) else (if (vX12_isTown b0 (x3 : Int32) h) = (0 : Int32) then ((-1) : Int32) else (if x1 = x3 then ((-1) : Int32) else (if (vX12_isIn (x2 : Int32) ((ea_i h (b0 + 0) 0) : Int32) (10079 : Int32) h) = (0 : Int32) then ((-1) : Int32) else (if (vX12_bestFrom b0 (x1 : Int32) (x2 : Int32) (x3 : Int32) h) = ((-1) : Int32) then ((-1) : Int32) else (if Int32.toInt x4 = 0 then (ea_i (wX12_bestFrom b0 (x1 : Int32) (x2 : Int32) (x3 : Int32) h) (b0 + 15) (Int32.toNatClampNeg (((12 : Int32) * (vX12_bestFrom b0 (x1 : Int32) (x2 : Int32) (x3 : Int32) h)) + x3))) else (if Int32.toInt x4 = 1 then (ea_i (wX12_bestFrom b0 (x1 : Int32) (x2 : Int32) (x3 : Int32) h) (b0 + 16) (Int32.toNatClampNeg (((12 : Int32) * (vX12_bestFrom b0 (x1 : Int32) (x2 : Int32) (x3 : Int32) h)) + x3))) else (if Int32.toInt x4 = 2 then ((ea_i (wX12_bestFrom b0 (x1 : Int32) (x2 : Int32) (x3 : Int32) h) (b0 + 12) (Int32.toNatClampNeg (vX12_bestFrom b0 (x1 : Int32) (x2 : Int32) (x3 : Int32) h))) / (7 : Int32)) else (if Int32.toInt x4 = 3 then ((ea_i (wX12_bestFrom b0 (x1 : Int32) (x2 : Int32) (x3 : Int32) h) (b0 + 12) (Int32.toNatClampNeg (vX12_bestFrom b0 (x1 : Int32) (x2 : Int32) (x3 : Int32) h))) - (ea_i (wX12_bestFrom b0 (x1 : Int32) (x2 : Int32) (x3 : Int32) h) (b0 + 12) (Int32.toNatClampNeg (vX12_bestFrom b0 (x1 : Int32) (x2 : Int32) (x3 : Int32) h))) / (7 : Int32) * (7 : Int32)) else (if Int32.toInt x4 = 4 then (ea_i (wX12_bestFrom b0 (x1 : Int32) (x2 : Int32) (x3 : Int32) h) (b0 + 13) (Int32.toNatClampNeg (vX12_bestFrom b0 (x1 : Int32) (x2 : Int32) (x3 : Int32) h))) else (if Int32.toInt x4 = 5 then (ea_i (wX12_bestFrom b0 (x1 : Int32) (x2 : Int32) (x3 : Int32) h) (b0 + 17) (Int32.toNatClampNeg (((12 : Int32) * (vX12_bestFrom b0 (x1 : Int32) (x2 : Int32) (x3 : Int32) h)) + x3))) else ((-1) : Int32))))))))))))
noncomputable def wX12_way (b0 : Nat) (x1 : Int32) (x2 : Int32) (x3 : Int32) (x4 : Int32) (h : ea_H) : ea_H := (if (vX12_isTown b0 (x1 : Int32) h) = (0 : Int32) then h else (if (vX12_isTown b0 (x3 : Int32) h) = (0 : Int32) then h else (if x1 = x3 then h else (if (vX12_isIn (x2 : Int32) ((ea_i h (b0 + 0) 0) : Int32) (10079 : Int32) h) = (0 : Int32) then h else (wX12_bestFrom b0 (x1 : Int32) (x2 : Int32) (x3 : Int32) h)))))
def okX12_way (b0 : Nat) (x1 : Int32) (x2 : Int32) (x3 : Int32) (x4 : Int32) (h : ea_H) : Prop := ((vX12_isTown b0 (x1 : Int32) h) = (0 : Int32) → True) ∧ (¬ (vX12_isTown b0 (x1 : Int32) h) = (0 : Int32) → ((vX12_isTown b0 (x3 : Int32) h) = (0 : Int32) → True) ∧ (¬ (vX12_isTown b0 (x3 : Int32) h) = (0 : Int32) → (x1 = x3 → True) ∧ (¬ x1 = x3 → ((vX12_isIn (x2 : Int32) ((ea_i h (b0 + 0) 0) : Int32) (10079 : Int32) h) = (0 : Int32) → True) ∧ (¬ (vX12_isIn (x2 : Int32) ((ea_i h (b0 + 0) 0) : Int32) (10079 : Int32) h) = (0 : Int32) → (okX12_bestFrom b0 (x1 : Int32) (x2 : Int32) (x3 : Int32) h) ∧ (((vX12_bestFrom b0 (x1 : Int32) (x2 : Int32) (x3 : Int32) h) = ((-1) : Int32) → True) ∧ (¬ (vX12_bestFrom b0 (x1 : Int32) (x2 : Int32) (x3 : Int32) h) = ((-1) : Int32) → (Int32.toInt x4 = 0 → vp_in (((12 : Int32) * (vX12_bestFrom b0 (x1 : Int32) (x2 : Int32) (x3 : Int32) h)) + x3) 12000) ∧ (¬ Int32.toInt x4 = 0 → (Int32.toInt x4 = 1 → vp_in (((12 : Int32) * (vX12_bestFrom b0 (x1 : Int32) (x2 : Int32) (x3 : Int32) h)) + x3) 12000) ∧ (¬ Int32.toInt x4 = 1 → (Int32.toInt x4 = 2 → vp_in (vX12_bestFrom b0 (x1 : Int32) (x2 : Int32) (x3 : Int32) h) 1000) ∧ (¬ Int32.toInt x4 = 2 → (Int32.toInt x4 = 3 → vp_in (vX12_bestFrom b0 (x1 : Int32) (x2 : Int32) (x3 : Int32) h) 1000) ∧ (¬ Int32.toInt x4 = 3 → (Int32.toInt x4 = 4 → vp_in (vX12_bestFrom b0 (x1 : Int32) (x2 : Int32) (x3 : Int32) h) 1000) ∧ (¬ Int32.toInt x4 = 4 → (Int32.toInt x4 = 5 → vp_in (((12 : Int32) * (vX12_bestFrom b0 (x1 : Int32) (x2 : Int32) (x3 : Int32) h)) + x3) 12000) ∧ (¬ Int32.toInt x4 = 5 → True))))))))))))
theorem shX12_way {b0 : Nat} {x1 : Int32} {x2 : Int32} {x3 : Int32} {x4 : Int32} {h : ea_H} (hs : ShM b0 h) : ShM b0 (wX12_way b0 x1 x2 x3 x4 h) := (ShM_it hs (ShM_it hs (ShM_it hs (ShM_it hs (shX12_bestFrom hs)))))
theorem sX12_way {d : Nat} {b0 : Nat} {x1 : Int32} {x2 : Int32} {x3 : Int32} {x4 : Int32} {h : ea_H} (hd : 6 ≤ d) (hs : ShM b0 h) (K : okX12_way b0 x1 x2 x3 x4 h) : ea_Met mX12_way d [vR (some (b0 + 0)), vI x1, vI x2, vI x3, vI x4] h (some (vI (vX12_way b0 x1 x2 x3 x4 h))) (wX12_way b0 x1 x2 x3 x4 h) := by
  obtain ⟨X, EX⟩ : ∃ z, z = vX12_way b0 x1 x2 x3 x4 h := ⟨_, rfl⟩
  rw [← EX]
  unfold vX12_way at EX
  obtain ⟨Y, EY⟩ : ∃ z, z = wX12_way b0 x1 x2 x3 x4 h := ⟨_, rfl⟩
  rw [← EY]
  unfold wX12_way at EY
  unfold okX12_way at K
  refine ea_enter rfl (Nat.le_of_ble_eq_true rfl) ?_
  refine ea_aload_n (pc := 0) dX12_way_0 rfl 0 rfl ?_
  refine ea_iload_n (pc := 1) dX12_way_1 rfl 1 rfl ?_
  refine ea_callV (pc := 2) (d' := d - 1) (As := [vI x1]) (st := []) dX12_way_2 kX12_isTown (sX12_isTown (d := d - 1) (by omega) hs) (by omega) rfl (Nat.le_of_ble_eq_true rfl) ew_1708 ew_1710 ew_47 (ci := 12) rfl (by decide) (hs.1 0 (by decide)).1 (hs.1 0 (by decide)).2.1 ?_
  refine ea_if_eq (pc := 5) (tgt := 35) dX12_way_5 rfl (fun c16 => ?_) (fun c16 => ?_)
  · have EX := EX.trans (if_pos c16)
    have EY := EY.trans (if_pos c16)
    refine ea_iconst (pc := 35) dX12_way_35 (v := (-1)) rfl ?_
    subst EX
    subst EY
    exact ea_ireturn (pc := 36) dX12_way_36 rfl rfl
  · have EX := EX.trans (if_neg c16)
    have EY := EY.trans (if_neg c16)
    have K := K.2 c16
    refine ea_aload_n (pc := 8) dX12_way_8 rfl 0 rfl ?_
    refine ea_iload_n (pc := 9) dX12_way_9 rfl 3 rfl ?_
    refine ea_callV (pc := 10) (d' := d - 1) (As := [vI x3]) (st := []) dX12_way_10 kX12_isTown (sX12_isTown (d := d - 1) (by omega) hs) (by omega) rfl (Nat.le_of_ble_eq_true rfl) ew_1708 ew_1710 ew_47 (ci := 12) rfl (by decide) (hs.1 0 (by decide)).1 (hs.1 0 (by decide)).2.1 ?_
    refine ea_if_eq (pc := 13) (tgt := 35) dX12_way_13 rfl (fun c15 => ?_) (fun c15 => ?_)
    · have EX := EX.trans (if_pos c15)
      have EY := EY.trans (if_pos c15)
      refine ea_iconst (pc := 35) dX12_way_35 (v := (-1)) rfl ?_
      subst EX
      subst EY
      exact ea_ireturn (pc := 36) dX12_way_36 rfl rfl
    · have EX := EX.trans (if_neg c15)
      have EY := EY.trans (if_neg c15)
      have K := K.2 c15
      refine ea_iload_n (pc := 16) dX12_way_16 rfl 1 rfl ?_
      refine ea_iload_n (pc := 17) dX12_way_17 rfl 3 rfl ?_
      refine ea_icmp_eq (pc := 18) (tgt := 35) dX12_way_18 rfl (fun c14 => ?_) (fun c14 => ?_)
      · have EX := EX.trans (if_pos c14)
        have EY := EY.trans (if_pos c14)
        refine ea_iconst (pc := 35) dX12_way_35 (v := (-1)) rfl ?_
        subst EX
        subst EY
        exact ea_ireturn (pc := 36) dX12_way_36 rfl rfl
      · have EX := EX.trans (if_neg c14)
        have EY := EY.trans (if_neg c14)
        have K := K.2 c14
        refine ea_iload_n (pc := 21) dX12_way_21 rfl 2 rfl ?_
        refine ea_aload_n (pc := 22) dX12_way_22 rfl 0 rfl ?_
        refine ea_getI (pc := 23) dX12_way_23 ec_12 (k := 0) (Nat.le_of_ble_eq_true rfl) rfl (Or.inl ew_1345) (hs.1 0 (by decide)).1 (hs.1 0 (by decide)).2.1 ?_
        refine ea_sipush (pc := 26) dX12_way_26 (v := 10079) rfl ?_
        refine ea_callS (pc := 29) (d' := d - 1) (As := [vI x2, vI (ea_i h (b0 + 0) 0), vI 10079]) (st := []) dX12_way_29 kX12_isIn (sX12_isIn (d := d - 1) (by omega)) (by omega) rfl (Nat.le_of_ble_eq_true rfl) ew_1712 ew_1713 ?_
        refine ea_if_ne (pc := 32) (tgt := 37) dX12_way_32 rfl (fun c13 => ?_) (fun c13 => ?_)
        · have EX := EX.trans (if_neg c13)
          have EY := EY.trans (if_neg c13)
          have K := K.2 c13
          refine ea_aload_n (pc := 37) dX12_way_37 rfl 0 rfl ?_
          refine ea_iload_n (pc := 38) dX12_way_38 rfl 1 rfl ?_
          refine ea_iload_n (pc := 39) dX12_way_39 rfl 2 rfl ?_
          refine ea_iload_n (pc := 40) dX12_way_40 rfl 3 rfl ?_
          obtain ⟨z4, K⟩ := K
          refine ea_callV (pc := 41) (d' := d - 1) (As := [vI x1, vI x2, vI x3]) (st := []) dX12_way_41 kX12_bestFrom (sX12_bestFrom (d := d - 1) (by omega) hs z4) (by omega) rfl (Nat.le_of_ble_eq_true rfl) ew_1770 ew_1772 ew_53 (ci := 12) rfl (by decide) (hs.1 0 (by decide)).1 (hs.1 0 (by decide)).2.1 ?_
          have hs5 : ShM b0 (wX12_bestFrom b0 (x1 : Int32) (x2 : Int32) (x3 : Int32) h) := shX12_bestFrom hs
          refine ea_istore (pc := 44) (lv' := [(0, vR (some (b0 + 0))), (3, vI x3), (4, vI x4), (5, vI (vX12_bestFrom b0 (x1 : Int32) (x2 : Int32) (x3 : Int32) h))]) dX12_way_44 (Nat.le_of_ble_eq_true rfl) [1, 4, 5, 0] rfl ?_
          refine ea_iload (pc := 46) dX12_way_46 3 rfl ?_
          refine ea_iconst (pc := 48) dX12_way_48 (v := (-1)) rfl ?_
          refine ea_icmp_ne (pc := 49) (tgt := 54) dX12_way_49 rfl (fun c12 => ?_) (fun c12 => ?_)
          · have EX := EX.trans (if_neg c12)
            have K := K.2 c12
            refine ea_iload (pc := 54) dX12_way_54 2 rfl ?_
            by_cases qc56_0 : Int32.toInt x4 = 0
            · have EX := EX.trans (if_pos qc56_0)
              have K := K.1 qc56_0
              refine ea_tswIn (pc := 56) (tgt := 96) dX12_way_56 (by rw [qc56_0]; decide) (by rw [qc56_0]; decide) (by rw [qc56_0]; rfl) rfl ?_
              refine ea_aload_n (pc := 96) dX12_way_96 rfl 0 rfl ?_
              refine ea_getR (pc := 97) dX12_way_97 ec_12 (k := 19) (Nat.le_of_ble_eq_true rfl) rfl (Or.inl ew_1364) (hs5.1 0 (by decide)).1 (hs5.1 0 (by decide)).2.1 (hs5.2 0 19 rfl) ?_
              refine ea_bipush (pc := 100) dX12_way_100 (v := 12) rfl ?_
              refine ea_iload (pc := 102) dX12_way_102 3 rfl ?_
              refine ea_imul (pc := 104) dX12_way_104 ?_
              refine ea_iload_n (pc := 105) dX12_way_105 rfl 1 rfl ?_
              refine ea_iadd (pc := 106) dX12_way_106 ?_
              have z6 := K
              refine ea_iald (pc := 107) dX12_way_107 (hs5.1 15 (by decide)).1 (hs5.1 15 (by decide)).2.1 (ea_vpl (hs5.1 15 (by decide)).2.2 z6) ?_
              subst EX
              subst EY
              exact ea_ireturn (pc := 108) dX12_way_108 rfl rfl
            have EX := EX.trans (if_neg qc56_0)
            have K := K.2 qc56_0
            by_cases qc56_1 : Int32.toInt x4 = 1
            · have EX := EX.trans (if_pos qc56_1)
              have K := K.1 qc56_1
              refine ea_tswIn (pc := 56) (tgt := 109) dX12_way_56 (by rw [qc56_1]; decide) (by rw [qc56_1]; decide) (by rw [qc56_1]; rfl) rfl ?_
              refine ea_aload_n (pc := 109) dX12_way_109 rfl 0 rfl ?_
              refine ea_getR (pc := 110) dX12_way_110 ec_12 (k := 20) (Nat.le_of_ble_eq_true rfl) rfl (Or.inl ew_1365) (hs5.1 0 (by decide)).1 (hs5.1 0 (by decide)).2.1 (hs5.2 0 20 rfl) ?_
              refine ea_bipush (pc := 113) dX12_way_113 (v := 12) rfl ?_
              refine ea_iload (pc := 115) dX12_way_115 3 rfl ?_
              refine ea_imul (pc := 117) dX12_way_117 ?_
              refine ea_iload_n (pc := 118) dX12_way_118 rfl 1 rfl ?_
              refine ea_iadd (pc := 119) dX12_way_119 ?_
              have z7 := K
              refine ea_iald (pc := 120) dX12_way_120 (hs5.1 16 (by decide)).1 (hs5.1 16 (by decide)).2.1 (ea_vpl (hs5.1 16 (by decide)).2.2 z7) ?_
              subst EX
              subst EY
              exact ea_ireturn (pc := 121) dX12_way_121 rfl rfl
            have EX := EX.trans (if_neg qc56_1)
            have K := K.2 qc56_1
            by_cases qc56_2 : Int32.toInt x4 = 2
            · have EX := EX.trans (if_pos qc56_2)
              have K := K.1 qc56_2
              refine ea_tswIn (pc := 56) (tgt := 122) dX12_way_56 (by rw [qc56_2]; decide) (by rw [qc56_2]; decide) (by rw [qc56_2]; rfl) rfl ?_
              refine ea_aload_n (pc := 122) dX12_way_122 rfl 0 rfl ?_
              refine ea_getR (pc := 123) dX12_way_123 ec_12 (k := 16) (Nat.le_of_ble_eq_true rfl) rfl (Or.inl ew_1361) (hs5.1 0 (by decide)).1 (hs5.1 0 (by decide)).2.1 (hs5.2 0 16 rfl) ?_
              refine ea_iload (pc := 126) dX12_way_126 3 rfl ?_
              have z8 := K
              refine ea_iald (pc := 128) dX12_way_128 (hs5.1 12 (by decide)).1 (hs5.1 12 (by decide)).2.1 (ea_vpl (hs5.1 12 (by decide)).2.2 z8) ?_
              refine ea_bipush (pc := 129) dX12_way_129 (v := 7) rfl ?_
              refine ea_idiv (pc := 131) dX12_way_131 (by decide) ?_
              subst EX
              subst EY
              exact ea_ireturn (pc := 132) dX12_way_132 rfl rfl
            have EX := EX.trans (if_neg qc56_2)
            have K := K.2 qc56_2
            by_cases qc56_3 : Int32.toInt x4 = 3
            · have EX := EX.trans (if_pos qc56_3)
              have K := K.1 qc56_3
              refine ea_tswIn (pc := 56) (tgt := 133) dX12_way_56 (by rw [qc56_3]; decide) (by rw [qc56_3]; decide) (by rw [qc56_3]; rfl) rfl ?_
              refine ea_aload_n (pc := 133) dX12_way_133 rfl 0 rfl ?_
              refine ea_getR (pc := 134) dX12_way_134 ec_12 (k := 16) (Nat.le_of_ble_eq_true rfl) rfl (Or.inl ew_1361) (hs5.1 0 (by decide)).1 (hs5.1 0 (by decide)).2.1 (hs5.2 0 16 rfl) ?_
              refine ea_iload (pc := 137) dX12_way_137 3 rfl ?_
              have z9 := K
              refine ea_iald (pc := 139) dX12_way_139 (hs5.1 12 (by decide)).1 (hs5.1 12 (by decide)).2.1 (ea_vpl (hs5.1 12 (by decide)).2.2 z9) ?_
              refine ea_bipush (pc := 140) dX12_way_140 (v := 7) rfl ?_
              refine ea_irem (pc := 142) dX12_way_142 (by decide) ?_
              subst EX
              subst EY
              exact ea_ireturn (pc := 143) dX12_way_143 rfl rfl
            have EX := EX.trans (if_neg qc56_3)
            have K := K.2 qc56_3
            by_cases qc56_4 : Int32.toInt x4 = 4
            · have EX := EX.trans (if_pos qc56_4)
              have K := K.1 qc56_4
              refine ea_tswIn (pc := 56) (tgt := 144) dX12_way_56 (by rw [qc56_4]; decide) (by rw [qc56_4]; decide) (by rw [qc56_4]; rfl) rfl ?_
              refine ea_aload_n (pc := 144) dX12_way_144 rfl 0 rfl ?_
              refine ea_getR (pc := 145) dX12_way_145 ec_12 (k := 17) (Nat.le_of_ble_eq_true rfl) rfl (Or.inl ew_1362) (hs5.1 0 (by decide)).1 (hs5.1 0 (by decide)).2.1 (hs5.2 0 17 rfl) ?_
              refine ea_iload (pc := 148) dX12_way_148 3 rfl ?_
              have z10 := K
              refine ea_iald (pc := 150) dX12_way_150 (hs5.1 13 (by decide)).1 (hs5.1 13 (by decide)).2.1 (ea_vpl (hs5.1 13 (by decide)).2.2 z10) ?_
              subst EX
              subst EY
              exact ea_ireturn (pc := 151) dX12_way_151 rfl rfl
            have EX := EX.trans (if_neg qc56_4)
            have K := K.2 qc56_4
            by_cases qc56_5 : Int32.toInt x4 = 5
            · have EX := EX.trans (if_pos qc56_5)
              have K := K.1 qc56_5
              refine ea_tswIn (pc := 56) (tgt := 152) dX12_way_56 (by rw [qc56_5]; decide) (by rw [qc56_5]; decide) (by rw [qc56_5]; rfl) rfl ?_
              refine ea_aload_n (pc := 152) dX12_way_152 rfl 0 rfl ?_
              refine ea_getR (pc := 153) dX12_way_153 ec_12 (k := 21) (Nat.le_of_ble_eq_true rfl) rfl (Or.inl ew_1366) (hs5.1 0 (by decide)).1 (hs5.1 0 (by decide)).2.1 (hs5.2 0 21 rfl) ?_
              refine ea_bipush (pc := 156) dX12_way_156 (v := 12) rfl ?_
              refine ea_iload (pc := 158) dX12_way_158 3 rfl ?_
              refine ea_imul (pc := 160) dX12_way_160 ?_
              refine ea_iload_n (pc := 161) dX12_way_161 rfl 1 rfl ?_
              refine ea_iadd (pc := 162) dX12_way_162 ?_
              have z11 := K
              refine ea_iald (pc := 163) dX12_way_163 (hs5.1 17 (by decide)).1 (hs5.1 17 (by decide)).2.1 (ea_vpl (hs5.1 17 (by decide)).2.2 z11) ?_
              subst EX
              subst EY
              exact ea_ireturn (pc := 164) dX12_way_164 rfl rfl
            have EX := EX.trans (if_neg qc56_5)
            have K := K.2 qc56_5
            refine ea_tswOut (pc := 56) (tgt := 165) dX12_way_56 (ea_sw_0_5 qc56_0 qc56_1 qc56_2 qc56_3 qc56_4 qc56_5) rfl ?_
            refine ea_iconst (pc := 165) dX12_way_165 (v := (-1)) rfl ?_
            subst EX
            subst EY
            exact ea_ireturn (pc := 166) dX12_way_166 rfl rfl
          · have EX := EX.trans (if_pos c12)
            refine ea_iconst (pc := 52) dX12_way_52 (v := (-1)) rfl ?_
            subst EX
            subst EY
            exact ea_ireturn (pc := 53) dX12_way_53 rfl rfl
        · have EX := EX.trans (if_pos c13)
          have EY := EY.trans (if_pos c13)
          refine ea_iconst (pc := 35) dX12_way_35 (v := (-1)) rfl ?_
          subst EX
          subst EY
          exact ea_ireturn (pc := 36) dX12_way_36 rfl rfl
noncomputable def gX12_leaves (b0 : Nat) : Nat → Nat → Int32 → Int32 → Int32 → Int32 → Int32 → Int32 → Int32 → ea_H → Option (Unit × ea_H)
  | 0, _, _, _, _, _, _, _, _, _ => none
  | f + 1, lbl, x1, x2, x3, x4, x5, x6, x7, h =>
    if lbl = 0 then (gd (vp_in x1 1000) (gd (vp_in x1 1000) (gd ((okX12_townOf b0 ((ea_i h (b0 + 12) (Int32.toNatClampNeg x1)) : Int32) ((ea_i h (b0 + 13) (Int32.toNatClampNeg x1)) : Int32) h)) (gX12_leaves b0 f 25 (x1 : Int32) ((ea_i h (b0 + 12) (Int32.toNatClampNeg x1)) : Int32) ((ea_i h (b0 + 13) (Int32.toNatClampNeg x1)) : Int32) ((vX12_townOf b0 ((ea_i h (b0 + 12) (Int32.toNatClampNeg x1)) : Int32) ((ea_i h (b0 + 13) (Int32.toNatClampNeg x1)) : Int32) h) : Int32) (0 : Int32) 0 0 h)))) else
    if lbl = 25 then (if (ea_i h (b0 + 0) 63) ≤ x5 then (gX12_leaves b0 f 151 0 (x2 : Int32) (x3 : Int32) 0 0 0 0 h) else (gd (vp_in (((8 : Int32) * x2) + x3) 560) (if (ea_i h (b0 + 8) (Int32.toNatClampNeg (((8 : Int32) * x2) + x3))) = (0 : Int32) then (gd (vp_in x5 120) (if (ea_i h (b0 + 55) (Int32.toNatClampNeg x5)) = (0 : Int32) then (gd (vp_in x5 120) (if (ea_i h (b0 + 56) (Int32.toNatClampNeg x5)) = x4 then (gd (vp_in x1 1000) (gd (vp_in x5 120) (gd ((okX12_bestFrom b0 (x4 : Int32) ((ea_i h (b0 + 10) (Int32.toNatClampNeg x1)) : Int32) ((ea_i h (b0 + 40) (Int32.toNatClampNeg x5)) : Int32) h)) (if (vX12_bestFrom b0 (x4 : Int32) ((ea_i h (b0 + 10) (Int32.toNatClampNeg x1)) : Int32) ((ea_i h (b0 + 40) (Int32.toNatClampNeg x5)) : Int32) h) = x1 then (gd (vp_in x5 120) (gd (vp_in (((12 : Int32) * x1) + (ea_i (wX12_bestFrom b0 (x4 : Int32) ((ea_i h (b0 + 10) (Int32.toNatClampNeg x1)) : Int32) ((ea_i h (b0 + 40) (Int32.toNatClampNeg x5)) : Int32) h) (b0 + 40) (Int32.toNatClampNeg x5))) 12000) (gd (vp_in x5 120) (gd (vp_in x5 120) (gd (vp_in x1 1000) (gd ((okX12_turns b0 (x5 : Int32) ((ea_i (ea_wi (ea_wi (wX12_bestFrom b0 (x4 : Int32) ((ea_i h (b0 + 10) (Int32.toNatClampNeg x1)) : Int32) ((ea_i h (b0 + 40) (Int32.toNatClampNeg x5)) : Int32) h) (b0 + 57) (Int32.toNatClampNeg x5) (ea_i (wX12_bestFrom b0 (x4 : Int32) ((ea_i h (b0 + 10) (Int32.toNatClampNeg x1)) : Int32) ((ea_i h (b0 + 40) (Int32.toNatClampNeg x5)) : Int32) h) (b0 + 17) (Int32.toNatClampNeg (((12 : Int32) * x1) + (ea_i (wX12_bestFrom b0 (x4 : Int32) ((ea_i h (b0 + 10) (Int32.toNatClampNeg x1)) : Int32) ((ea_i h (b0 + 40) (Int32.toNatClampNeg x5)) : Int32) h) (b0 + 40) (Int32.toNatClampNeg x5)))))) (b0 + 61) (Int32.toNatClampNeg x5) 0) (b0 + 10) (Int32.toNatClampNeg x1)) : Int32) (1 : Int32) ((vX12_code (x2 : Int32) (ea_wi (ea_wi (wX12_bestFrom b0 (x4 : Int32) ((ea_i h (b0 + 10) (Int32.toNatClampNeg x1)) : Int32) ((ea_i h (b0 + 40) (Int32.toNatClampNeg x5)) : Int32) h) (b0 + 57) (Int32.toNatClampNeg x5) (ea_i (wX12_bestFrom b0 (x4 : Int32) ((ea_i h (b0 + 10) (Int32.toNatClampNeg x1)) : Int32) ((ea_i h (b0 + 40) (Int32.toNatClampNeg x5)) : Int32) h) (b0 + 17) (Int32.toNatClampNeg (((12 : Int32) * x1) + (ea_i (wX12_bestFrom b0 (x4 : Int32) ((ea_i h (b0 + 10) (Int32.toNatClampNeg x1)) : Int32) ((ea_i h (b0 + 40) (Int32.toNatClampNeg x5)) : Int32) h) (b0 + 40) (Int32.toNatClampNeg x5)))))) (b0 + 61) (Int32.toNatClampNeg x5) 0)) : Int32) (ea_wi (ea_wi (wX12_bestFrom b0 (x4 : Int32) ((ea_i h (b0 + 10) (Int32.toNatClampNeg x1)) : Int32) ((ea_i h (b0 + 40) (Int32.toNatClampNeg x5)) : Int32) h) (b0 + 57) (Int32.toNatClampNeg x5) (ea_i (wX12_bestFrom b0 (x4 : Int32) ((ea_i h (b0 + 10) (Int32.toNatClampNeg x1)) : Int32) ((ea_i h (b0 + 40) (Int32.toNatClampNeg x5)) : Int32) h) (b0 + 17) (Int32.toNatClampNeg (((12 : Int32) * x1) + (ea_i (wX12_bestFrom b0 (x4 : Int32) ((ea_i h (b0 + 10) (Int32.toNatClampNeg x1)) : Int32) ((ea_i h (b0 + 40) (Int32.toNatClampNeg x5)) : Int32) h) (b0 + 40) (Int32.toNatClampNeg x5)))))) (b0 + 61) (Int32.toNatClampNeg x5) 0))) (gX12_leaves b0 f 25 (x1 : Int32) (x2 : Int32) (x3 : Int32) (x4 : Int32) ((x5 + (1 : Int32)) : Int32) 0 0 (wX12_turns b0 (x5 : Int32) ((ea_i (ea_wi (ea_wi (wX12_bestFrom b0 (x4 : Int32) ((ea_i h (b0 + 10) (Int32.toNatClampNeg x1)) : Int32) ((ea_i h (b0 + 40) (Int32.toNatClampNeg x5)) : Int32) h) (b0 + 57) (Int32.toNatClampNeg x5) (ea_i (wX12_bestFrom b0 (x4 : Int32) ((ea_i h (b0 + 10) (Int32.toNatClampNeg x1)) : Int32) ((ea_i h (b0 + 40) (Int32.toNatClampNeg x5)) : Int32) h) (b0 + 17) (Int32.toNatClampNeg (((12 : Int32) * x1) + (ea_i (wX12_bestFrom b0 (x4 : Int32) ((ea_i h (b0 + 10) (Int32.toNatClampNeg x1)) : Int32) ((ea_i h (b0 + 40) (Int32.toNatClampNeg x5)) : Int32) h) (b0 + 40) (Int32.toNatClampNeg x5)))))) (b0 + 61) (Int32.toNatClampNeg x5) 0) (b0 + 10) (Int32.toNatClampNeg x1)) : Int32) (1 : Int32) ((vX12_code (x2 : Int32) (ea_wi (ea_wi (wX12_bestFrom b0 (x4 : Int32) ((ea_i h (b0 + 10) (Int32.toNatClampNeg x1)) : Int32) ((ea_i h (b0 + 40) (Int32.toNatClampNeg x5)) : Int32) h) (b0 + 57) (Int32.toNatClampNeg x5) (ea_i (wX12_bestFrom b0 (x4 : Int32) ((ea_i h (b0 + 10) (Int32.toNatClampNeg x1)) : Int32) ((ea_i h (b0 + 40) (Int32.toNatClampNeg x5)) : Int32) h) (b0 + 17) (Int32.toNatClampNeg (((12 : Int32) * x1) + (ea_i (wX12_bestFrom b0 (x4 : Int32) ((ea_i h (b0 + 10) (Int32.toNatClampNeg x1)) : Int32) ((ea_i h (b0 + 40) (Int32.toNatClampNeg x5)) : Int32) h) (b0 + 40) (Int32.toNatClampNeg x5)))))) (b0 + 61) (Int32.toNatClampNeg x5) 0)) : Int32) (ea_wi (ea_wi (wX12_bestFrom b0 (x4 : Int32) ((ea_i h (b0 + 10) (Int32.toNatClampNeg x1)) : Int32) ((ea_i h (b0 + 40) (Int32.toNatClampNeg x5)) : Int32) h) (b0 + 57) (Int32.toNatClampNeg x5) (ea_i (wX12_bestFrom b0 (x4 : Int32) ((ea_i h (b0 + 10) (Int32.toNatClampNeg x1)) : Int32) ((ea_i h (b0 + 40) (Int32.toNatClampNeg x5)) : Int32) h) (b0 + 17) (Int32.toNatClampNeg (((12 : Int32) * x1) + (ea_i (wX12_bestFrom b0 (x4 : Int32) ((ea_i h (b0 + 10) (Int32.toNatClampNeg x1)) : Int32) ((ea_i h (b0 + 40) (Int32.toNatClampNeg x5)) : Int32) h) (b0 + 40) (Int32.toNatClampNeg x5)))))) (b0 + 61) (Int32.toNatClampNeg x5) 0))))))))) else (gX12_leaves b0 f 25 (x1 : Int32) (x2 : Int32) (x3 : Int32) (x4 : Int32) ((x5 + (1 : Int32)) : Int32) 0 0 (wX12_bestFrom b0 (x4 : Int32) ((ea_i h (b0 + 10) (Int32.toNatClampNeg x1)) : Int32) ((ea_i h (b0 + 40) (Int32.toNatClampNeg x5)) : Int32) h)))))) else (gX12_leaves b0 f 25 (x1 : Int32) (x2 : Int32) (x3 : Int32) (x4 : Int32) ((x5 + (1 : Int32)) : Int32) 0 0 h))) else (gX12_leaves b0 f 25 (x1 : Int32) (x2 : Int32) (x3 : Int32) (x4 : Int32) ((x5 + (1 : Int32)) : Int32) 0 0 h))) else (gX12_leaves b0 f 151 0 (x2 : Int32) (x3 : Int32) 0 0 0 0 h)))) else
    if lbl = 151 then (gd ((okX12_comesAt b0 (x2 : Int32) ((x3 + (1 : Int32)) : Int32) h)) (gd ((okX12_goesAt b0 (x2 : Int32) (x3 : Int32) h)) (gX12_leaves b0 f 171 0 (x2 : Int32) 0 0 (((vX12_comesAt b0 (x2 : Int32) ((x3 + (1 : Int32)) : Int32) h) - (vX12_goesAt b0 (x2 : Int32) (x3 : Int32) h)) : Int32) (0 : Int32) 0 h))) else
    if lbl = 171 then (if (ea_i h (b0 + 0) 92) ≤ x6 then (gX12_leaves b0 f 224 0 (x2 : Int32) 0 0 0 (0 : Int32) 0 h) else (gd (vp_in x6 8) (if (ea_i h (b0 + 68) (Int32.toNatClampNeg x6)) = (x2 / (7 : Int32)) then (gd (vp_in x6 8) (gd (vp_in x6 8) (gX12_leaves b0 f 171 0 (x2 : Int32) 0 0 (x5 : Int32) ((x6 + (1 : Int32)) : Int32) 0 (ea_wi h (b0 + 69) (Int32.toNatClampNeg x6) ((ea_i h (b0 + 66) (Int32.toNatClampNeg x6)) * x5))))) else (gd (vp_in x6 8) (gX12_leaves b0 f 171 0 (x2 : Int32) 0 0 (x5 : Int32) ((x6 + (1 : Int32)) : Int32) 0 (ea_wi h (b0 + 69) (Int32.toNatClampNeg x6) 0)))))) else
    if lbl = 224 then (if (8 : Int32) ≤ x6 then (some ((), h)) else (gX12_leaves b0 f 234 0 (x2 : Int32) 0 0 0 (x6 : Int32) (0 : Int32) h)) else
    if lbl = 234 then (if (ea_i h (b0 + 0) 63) ≤ x7 then (gX12_leaves b0 f 224 0 (x2 : Int32) 0 0 0 ((x6 + (1 : Int32)) : Int32) 0 h) else (gd ((okX12_isAboard b0 (x7 : Int32) (x2 : Int32) h)) (if (vX12_isAboard b0 (x7 : Int32) (x2 : Int32) h) = (0 : Int32) then (gX12_leaves b0 f 234 0 (x2 : Int32) 0 0 0 (x6 : Int32) ((x7 + (1 : Int32)) : Int32) h) else (gd (vp_in x7 120) (if (ea_i h (b0 + 61) (Int32.toNatClampNeg x7)) = (0 : Int32) then (gd (vp_in x7 120) (if (ea_i h (b0 + 57) (Int32.toNatClampNeg x7)) = x6 then (gd ((okX12_townOf b0 (x2 : Int32) (x6 : Int32) h)) (gd ((okX12_sorts b0 (x7 : Int32) ((vX12_townOf b0 (x2 : Int32) (x6 : Int32) h) : Int32) h)) (gX12_leaves b0 f 234 0 (x2 : Int32) 0 0 0 (x6 : Int32) ((x7 + (1 : Int32)) : Int32) (wX12_sorts b0 (x7 : Int32) ((vX12_townOf b0 (x2 : Int32) (x6 : Int32) h) : Int32) h)))) else (gX12_leaves b0 f 234 0 (x2 : Int32) 0 0 0 (x6 : Int32) ((x7 + (1 : Int32)) : Int32) h))) else (gX12_leaves b0 f 234 0 (x2 : Int32) 0 0 0 (x6 : Int32) ((x7 + (1 : Int32)) : Int32) h)))))) else none
theorem tX12_leaves {d : Nat} {b0 : Nat} {h0 : ea_H} (hd : 6 ≤ d) : ∀ (f lbl : Nat) (x1 : Int32) (x2 : Int32) (x3 : Int32) (x4 : Int32) (x5 : Int32) (x6 : Int32) (x7 : Int32) (h : ea_H) (r : Unit) (h' : ea_H), gX12_leaves b0 f lbl x1 x2 x3 x4 x5 x6 x7 h = some (r, h') → ShM b0 h → (lbl = 0 → ea_W mX12_leaves d h0 none h' 0 [(0, vR (some (b0 + 0))), (1, vI x1)] [] h) ∧ (lbl = 25 → ea_W mX12_leaves d h0 none h' 25 [(0, vR (some (b0 + 0))), (1, vI x1), (2, vI x2), (3, vI x3), (4, vI x4), (5, vI x5)] [] h) ∧ (lbl = 151 → ea_W mX12_leaves d h0 none h' 151 [(0, vR (some (b0 + 0))), (2, vI x2), (3, vI x3)] [] h) ∧ (lbl = 171 → ea_W mX12_leaves d h0 none h' 171 [(0, vR (some (b0 + 0))), (2, vI x2), (5, vI x5), (6, vI x6)] [] h) ∧ (lbl = 224 → ea_W mX12_leaves d h0 none h' 224 [(0, vR (some (b0 + 0))), (2, vI x2), (6, vI x6)] [] h) ∧ (lbl = 234 → ea_W mX12_leaves d h0 none h' 234 [(0, vR (some (b0 + 0))), (2, vI x2), (6, vI x6), (7, vI x7)] [] h) := by
  intro f
  induction f with
  | zero => intro lbl x1 x2 x3 x4 x5 x6 x7 h r h' E; cases E
  | succ f ih =>
    intro lbl x1 x2 x3 x4 x5 x6 x7 h r h' E hs
    unfold gX12_leaves at E
    refine ⟨?_, ?_⟩
    · intro el
      subst el
      have E := (if_pos rfl).symm.trans E
      refine ea_aload_n (pc := 0) dX12_leaves_0 rfl 0 rfl ?_
      refine ea_getR (pc := 1) dX12_leaves_1 ec_12 (k := 16) (Nat.le_of_ble_eq_true rfl) rfl (Or.inl ew_1361) (hs.1 0 (by decide)).1 (hs.1 0 (by decide)).2.1 (hs.2 0 16 rfl) ?_
      refine ea_iload_n (pc := 4) dX12_leaves_4 rfl 1 rfl ?_
      obtain ⟨z1, E⟩ := gd_some E
      refine ea_iald (pc := 5) dX12_leaves_5 (hs.1 12 (by decide)).1 (hs.1 12 (by decide)).2.1 (ea_vpl (hs.1 12 (by decide)).2.2 z1) ?_
      refine ea_istore_n (pc := 6) (lv' := [(0, vR (some (b0 + 0))), (1, vI x1), (2, vI (ea_i h (b0 + 12) (Int32.toNatClampNeg x1)))]) dX12_leaves_6 rfl (Nat.le_of_ble_eq_true rfl) [1, 2, 0] rfl ?_
      refine ea_aload_n (pc := 7) dX12_leaves_7 rfl 0 rfl ?_
      refine ea_getR (pc := 8) dX12_leaves_8 ec_12 (k := 17) (Nat.le_of_ble_eq_true rfl) rfl (Or.inl ew_1362) (hs.1 0 (by decide)).1 (hs.1 0 (by decide)).2.1 (hs.2 0 17 rfl) ?_
      refine ea_iload_n (pc := 11) dX12_leaves_11 rfl 1 rfl ?_
      obtain ⟨z2, E⟩ := gd_some E
      refine ea_iald (pc := 12) dX12_leaves_12 (hs.1 13 (by decide)).1 (hs.1 13 (by decide)).2.1 (ea_vpl (hs.1 13 (by decide)).2.2 z2) ?_
      refine ea_istore_n (pc := 13) (lv' := [(0, vR (some (b0 + 0))), (1, vI x1), (2, vI (ea_i h (b0 + 12) (Int32.toNatClampNeg x1))), (3, vI (ea_i h (b0 + 13) (Int32.toNatClampNeg x1)))]) dX12_leaves_13 rfl (Nat.le_of_ble_eq_true rfl) [1, 2, 3, 0] rfl ?_
      refine ea_aload_n (pc := 14) dX12_leaves_14 rfl 0 rfl ?_
      refine ea_iload_n (pc := 15) dX12_leaves_15 rfl 2 rfl ?_
      refine ea_iload_n (pc := 16) dX12_leaves_16 rfl 3 rfl ?_
      obtain ⟨z3, E⟩ := gd_some E
      refine ea_callV (pc := 17) (d' := d - 1) (As := [vI (ea_i h (b0 + 12) (Int32.toNatClampNeg x1)), vI (ea_i h (b0 + 13) (Int32.toNatClampNeg x1))]) (st := []) dX12_leaves_17 kX12_townOf (sX12_townOf (d := d - 1) (by omega) hs z3) (by omega) rfl (Nat.le_of_ble_eq_true rfl) ew_1798 ew_1800 ew_60 (ci := 12) rfl (by decide) (hs.1 0 (by decide)).1 (hs.1 0 (by decide)).2.1 ?_
      refine ea_istore (pc := 20) (lv' := [(0, vR (some (b0 + 0))), (1, vI x1), (2, vI (ea_i h (b0 + 12) (Int32.toNatClampNeg x1))), (3, vI (ea_i h (b0 + 13) (Int32.toNatClampNeg x1))), (4, vI (vX12_townOf b0 ((ea_i h (b0 + 12) (Int32.toNatClampNeg x1)) : Int32) ((ea_i h (b0 + 13) (Int32.toNatClampNeg x1)) : Int32) h))]) dX12_leaves_20 (Nat.le_of_ble_eq_true rfl) [1, 2, 3, 4, 0] rfl ?_
      refine ea_iconst (pc := 22) dX12_leaves_22 (v := 0) rfl ?_
      refine ea_istore (pc := 23) (lv' := [(0, vR (some (b0 + 0))), (1, vI x1), (2, vI (ea_i h (b0 + 12) (Int32.toNatClampNeg x1))), (3, vI (ea_i h (b0 + 13) (Int32.toNatClampNeg x1))), (4, vI (vX12_townOf b0 ((ea_i h (b0 + 12) (Int32.toNatClampNeg x1)) : Int32) ((ea_i h (b0 + 13) (Int32.toNatClampNeg x1)) : Int32) h)), (5, vI 0)]) dX12_leaves_23 (Nat.le_of_ble_eq_true rfl) [1, 2, 3, 4, 5, 0] rfl ?_
      exact ((ih 25 (x1 : Int32) ((ea_i h (b0 + 12) (Int32.toNatClampNeg x1)) : Int32) ((ea_i h (b0 + 13) (Int32.toNatClampNeg x1)) : Int32) ((vX12_townOf b0 ((ea_i h (b0 + 12) (Int32.toNatClampNeg x1)) : Int32) ((ea_i h (b0 + 13) (Int32.toNatClampNeg x1)) : Int32) h) : Int32) (0 : Int32) 0 0 h _ _ E hs).2.1 rfl)
    refine ⟨?_, ?_⟩
    · intro el
      subst el
      have E := (if_neg (by decide)).symm.trans E
      have E := (if_pos rfl).symm.trans E
      refine ea_iload (pc := 25) dX12_leaves_25 5 rfl ?_
      refine ea_aload_n (pc := 27) dX12_leaves_27 rfl 0 rfl ?_
      refine ea_getI (pc := 28) dX12_leaves_28 ec_12 (k := 63) (Nat.le_of_ble_eq_true rfl) rfl (Or.inl ew_1408) (hs.1 0 (by decide)).1 (hs.1 0 (by decide)).2.1 ?_
      refine ea_icmp_ge (pc := 31) (tgt := 151) dX12_leaves_31 rfl (fun c25 => ?_) (fun c25 => ?_)
      · have E := (if_pos c25).symm.trans E
        exact (ea_fewer [0, 2, 3] rfl ((ih 151 0 (x2 : Int32) (x3 : Int32) 0 0 0 0 h _ _ E hs).2.2.1 rfl))
      · have E := (if_neg c25).symm.trans E
        refine ea_aload_n (pc := 34) dX12_leaves_34 rfl 0 rfl ?_
        refine ea_getR (pc := 35) dX12_leaves_35 ec_12 (k := 10) (Nat.le_of_ble_eq_true rfl) rfl (Or.inl ew_1355) (hs.1 0 (by decide)).1 (hs.1 0 (by decide)).2.1 (hs.2 0 10 rfl) ?_
        refine ea_bipush (pc := 38) dX12_leaves_38 (v := 8) rfl ?_
        refine ea_iload_n (pc := 40) dX12_leaves_40 rfl 2 rfl ?_
        refine ea_imul (pc := 41) dX12_leaves_41 ?_
        refine ea_iload_n (pc := 42) dX12_leaves_42 rfl 3 rfl ?_
        refine ea_iadd (pc := 43) dX12_leaves_43 ?_
        obtain ⟨z4, E⟩ := gd_some E
        refine ea_zald (pc := 44) dX12_leaves_44 (hs.1 8 (by decide)).1 (hs.1 8 (by decide)).2.1 (ea_vpl (hs.1 8 (by decide)).2.2 z4) ?_
        refine ea_if_ne (pc := 45) (tgt := 151) dX12_leaves_45 rfl (fun c24 => ?_) (fun c24 => ?_)
        · have E := (if_neg c24).symm.trans E
          exact (ea_fewer [0, 2, 3] rfl ((ih 151 0 (x2 : Int32) (x3 : Int32) 0 0 0 0 h _ _ E hs).2.2.1 rfl))
        · have E := (if_pos c24).symm.trans E
          refine ea_aload_n (pc := 48) dX12_leaves_48 rfl 0 rfl ?_
          refine ea_getR (pc := 49) dX12_leaves_49 ec_12 (k := 81) (Nat.le_of_ble_eq_true rfl) rfl (Or.inl ew_1426) (hs.1 0 (by decide)).1 (hs.1 0 (by decide)).2.1 (hs.2 0 81 rfl) ?_
          refine ea_iload (pc := 52) dX12_leaves_52 5 rfl ?_
          obtain ⟨z5, E⟩ := gd_some E
          refine ea_iald (pc := 54) dX12_leaves_54 (hs.1 55 (by decide)).1 (hs.1 55 (by decide)).2.1 (ea_vpl (hs.1 55 (by decide)).2.2 z5) ?_
          refine ea_if_ne (pc := 55) (tgt := 145) dX12_leaves_55 rfl (fun c23 => ?_) (fun c23 => ?_)
          · have E := (if_neg c23).symm.trans E
            refine ea_iinc (pc := 145) (v := 1) (lv' := [(0, vR (some (b0 + 0))), (1, vI x1), (2, vI x2), (3, vI x3), (4, vI x4), (5, vI (x5 + (1 : Int32)))]) dX12_leaves_145 5 rfl rfl (Nat.le_of_ble_eq_true rfl) [1, 2, 3, 4, 5, 0] rfl ?_
            refine ea_goto (pc := 148) (tgt := 25) dX12_leaves_148 rfl ?_
            exact ((ih 25 (x1 : Int32) (x2 : Int32) (x3 : Int32) (x4 : Int32) ((x5 + (1 : Int32)) : Int32) 0 0 h _ _ E hs).2.1 rfl)
          · have E := (if_pos c23).symm.trans E
            refine ea_aload_n (pc := 58) dX12_leaves_58 rfl 0 rfl ?_
            refine ea_getR (pc := 59) dX12_leaves_59 ec_12 (k := 82) (Nat.le_of_ble_eq_true rfl) rfl (Or.inl ew_1427) (hs.1 0 (by decide)).1 (hs.1 0 (by decide)).2.1 (hs.2 0 82 rfl) ?_
            refine ea_iload (pc := 62) dX12_leaves_62 5 rfl ?_
            obtain ⟨z6, E⟩ := gd_some E
            refine ea_iald (pc := 64) dX12_leaves_64 (hs.1 56 (by decide)).1 (hs.1 56 (by decide)).2.1 (ea_vpl (hs.1 56 (by decide)).2.2 z6) ?_
            refine ea_iload (pc := 65) dX12_leaves_65 4 rfl ?_
            refine ea_icmp_ne (pc := 67) (tgt := 145) dX12_leaves_67 rfl (fun c22 => ?_) (fun c22 => ?_)
            · have E := (if_neg c22).symm.trans E
              refine ea_iinc (pc := 145) (v := 1) (lv' := [(0, vR (some (b0 + 0))), (1, vI x1), (2, vI x2), (3, vI x3), (4, vI x4), (5, vI (x5 + (1 : Int32)))]) dX12_leaves_145 5 rfl rfl (Nat.le_of_ble_eq_true rfl) [1, 2, 3, 4, 5, 0] rfl ?_
              refine ea_goto (pc := 148) (tgt := 25) dX12_leaves_148 rfl ?_
              exact ((ih 25 (x1 : Int32) (x2 : Int32) (x3 : Int32) (x4 : Int32) ((x5 + (1 : Int32)) : Int32) 0 0 h _ _ E hs).2.1 rfl)
            · have E := (if_pos c22).symm.trans E
              refine ea_aload_n (pc := 70) dX12_leaves_70 rfl 0 rfl ?_
              refine ea_iload (pc := 71) dX12_leaves_71 4 rfl ?_
              refine ea_aload_n (pc := 73) dX12_leaves_73 rfl 0 rfl ?_
              refine ea_getR (pc := 74) dX12_leaves_74 ec_12 (k := 14) (Nat.le_of_ble_eq_true rfl) rfl (Or.inl ew_1359) (hs.1 0 (by decide)).1 (hs.1 0 (by decide)).2.1 (hs.2 0 14 rfl) ?_
              refine ea_iload_n (pc := 77) dX12_leaves_77 rfl 1 rfl ?_
              obtain ⟨z7, E⟩ := gd_some E
              refine ea_iald (pc := 78) dX12_leaves_78 (hs.1 10 (by decide)).1 (hs.1 10 (by decide)).2.1 (ea_vpl (hs.1 10 (by decide)).2.2 z7) ?_
              refine ea_aload_n (pc := 79) dX12_leaves_79 rfl 0 rfl ?_
              refine ea_getR (pc := 80) dX12_leaves_80 ec_12 (k := 66) (Nat.le_of_ble_eq_true rfl) rfl (Or.inl ew_1411) (hs.1 0 (by decide)).1 (hs.1 0 (by decide)).2.1 (hs.2 0 66 rfl) ?_
              refine ea_iload (pc := 83) dX12_leaves_83 5 rfl ?_
              obtain ⟨z8, E⟩ := gd_some E
              refine ea_iald (pc := 85) dX12_leaves_85 (hs.1 40 (by decide)).1 (hs.1 40 (by decide)).2.1 (ea_vpl (hs.1 40 (by decide)).2.2 z8) ?_
              obtain ⟨z9, E⟩ := gd_some E
              refine ea_callV (pc := 86) (d' := d - 1) (As := [vI x4, vI (ea_i h (b0 + 10) (Int32.toNatClampNeg x1)), vI (ea_i h (b0 + 40) (Int32.toNatClampNeg x5))]) (st := []) dX12_leaves_86 kX12_bestFrom (sX12_bestFrom (d := d - 1) (by omega) hs z9) (by omega) rfl (Nat.le_of_ble_eq_true rfl) ew_1770 ew_1772 ew_53 (ci := 12) rfl (by decide) (hs.1 0 (by decide)).1 (hs.1 0 (by decide)).2.1 ?_
              have hs10 : ShM b0 (wX12_bestFrom b0 (x4 : Int32) ((ea_i h (b0 + 10) (Int32.toNatClampNeg x1)) : Int32) ((ea_i h (b0 + 40) (Int32.toNatClampNeg x5)) : Int32) h) := shX12_bestFrom hs
              refine ea_iload_n (pc := 89) dX12_leaves_89 rfl 1 rfl ?_
              refine ea_icmp_eq (pc := 90) (tgt := 96) dX12_leaves_90 rfl (fun c21 => ?_) (fun c21 => ?_)
              · have E := (if_pos c21).symm.trans E
                refine ea_aload_n (pc := 96) dX12_leaves_96 rfl 0 rfl ?_
                refine ea_getR (pc := 97) dX12_leaves_97 ec_12 (k := 83) (Nat.le_of_ble_eq_true rfl) rfl (Or.inl ew_1428) (hs10.1 0 (by decide)).1 (hs10.1 0 (by decide)).2.1 (hs10.2 0 83 rfl) ?_
                refine ea_iload (pc := 100) dX12_leaves_100 5 rfl ?_
                refine ea_aload_n (pc := 102) dX12_leaves_102 rfl 0 rfl ?_
                refine ea_getR (pc := 103) dX12_leaves_103 ec_12 (k := 21) (Nat.le_of_ble_eq_true rfl) rfl (Or.inl ew_1366) (hs10.1 0 (by decide)).1 (hs10.1 0 (by decide)).2.1 (hs10.2 0 21 rfl) ?_
                refine ea_bipush (pc := 106) dX12_leaves_106 (v := 12) rfl ?_
                refine ea_iload_n (pc := 108) dX12_leaves_108 rfl 1 rfl ?_
                refine ea_imul (pc := 109) dX12_leaves_109 ?_
                refine ea_aload_n (pc := 110) dX12_leaves_110 rfl 0 rfl ?_
                refine ea_getR (pc := 111) dX12_leaves_111 ec_12 (k := 66) (Nat.le_of_ble_eq_true rfl) rfl (Or.inl ew_1411) (hs10.1 0 (by decide)).1 (hs10.1 0 (by decide)).2.1 (hs10.2 0 66 rfl) ?_
                refine ea_iload (pc := 114) dX12_leaves_114 5 rfl ?_
                obtain ⟨z11, E⟩ := gd_some E
                refine ea_iald (pc := 116) dX12_leaves_116 (hs10.1 40 (by decide)).1 (hs10.1 40 (by decide)).2.1 (ea_vpl (hs10.1 40 (by decide)).2.2 z11) ?_
                refine ea_iadd (pc := 117) dX12_leaves_117 ?_
                obtain ⟨z12, E⟩ := gd_some E
                refine ea_iald (pc := 118) dX12_leaves_118 (hs10.1 17 (by decide)).1 (hs10.1 17 (by decide)).2.1 (ea_vpl (hs10.1 17 (by decide)).2.2 z12) ?_
                obtain ⟨z13, E⟩ := gd_some E
                refine ea_iast (pc := 119) dX12_leaves_119 (hs10.1 57 (by decide)).1 (hs10.1 57 (by decide)).2.1 (ea_vpl (hs10.1 57 (by decide)).2.2 z13) ?_
                have hs14 : ShM b0 (ea_wi (wX12_bestFrom b0 (x4 : Int32) ((ea_i h (b0 + 10) (Int32.toNatClampNeg x1)) : Int32) ((ea_i h (b0 + 40) (Int32.toNatClampNeg x5)) : Int32) h) (b0 + 57) (Int32.toNatClampNeg x5) (ea_i (wX12_bestFrom b0 (x4 : Int32) ((ea_i h (b0 + 10) (Int32.toNatClampNeg x1)) : Int32) ((ea_i h (b0 + 40) (Int32.toNatClampNeg x5)) : Int32) h) (b0 + 17) (Int32.toNatClampNeg (((12 : Int32) * x1) + (ea_i (wX12_bestFrom b0 (x4 : Int32) ((ea_i h (b0 + 10) (Int32.toNatClampNeg x1)) : Int32) ((ea_i h (b0 + 40) (Int32.toNatClampNeg x5)) : Int32) h) (b0 + 40) (Int32.toNatClampNeg x5)))))) := ShM_wi hs10
                refine ea_aload_n (pc := 120) dX12_leaves_120 rfl 0 rfl ?_
                refine ea_getR (pc := 121) dX12_leaves_121 ec_12 (k := 87) (Nat.le_of_ble_eq_true rfl) rfl (Or.inl ew_1432) (hs14.1 0 (by decide)).1 (hs14.1 0 (by decide)).2.1 (hs14.2 0 87 rfl) ?_
                refine ea_iload (pc := 124) dX12_leaves_124 5 rfl ?_
                refine ea_iconst (pc := 126) dX12_leaves_126 (v := 0) rfl ?_
                obtain ⟨z15, E⟩ := gd_some E
                refine ea_zast (pc := 127) dX12_leaves_127 (y := 0) (ea_bn (Or.inl rfl)) (hs14.1 61 (by decide)).1 (hs14.1 61 (by decide)).2.1 (ea_vpl (hs14.1 61 (by decide)).2.2 z15) ?_
                have hs16 : ShM b0 (ea_wi (ea_wi (wX12_bestFrom b0 (x4 : Int32) ((ea_i h (b0 + 10) (Int32.toNatClampNeg x1)) : Int32) ((ea_i h (b0 + 40) (Int32.toNatClampNeg x5)) : Int32) h) (b0 + 57) (Int32.toNatClampNeg x5) (ea_i (wX12_bestFrom b0 (x4 : Int32) ((ea_i h (b0 + 10) (Int32.toNatClampNeg x1)) : Int32) ((ea_i h (b0 + 40) (Int32.toNatClampNeg x5)) : Int32) h) (b0 + 17) (Int32.toNatClampNeg (((12 : Int32) * x1) + (ea_i (wX12_bestFrom b0 (x4 : Int32) ((ea_i h (b0 + 10) (Int32.toNatClampNeg x1)) : Int32) ((ea_i h (b0 + 40) (Int32.toNatClampNeg x5)) : Int32) h) (b0 + 40) (Int32.toNatClampNeg x5)))))) (b0 + 61) (Int32.toNatClampNeg x5) 0) := ShM_wi hs14
                refine ea_aload_n (pc := 128) dX12_leaves_128 rfl 0 rfl ?_
                refine ea_iload (pc := 129) dX12_leaves_129 5 rfl ?_
                refine ea_aload_n (pc := 131) dX12_leaves_131 rfl 0 rfl ?_
                refine ea_getR (pc := 132) dX12_leaves_132 ec_12 (k := 14) (Nat.le_of_ble_eq_true rfl) rfl (Or.inl ew_1359) (hs16.1 0 (by decide)).1 (hs16.1 0 (by decide)).2.1 (hs16.2 0 14 rfl) ?_
                refine ea_iload_n (pc := 135) dX12_leaves_135 rfl 1 rfl ?_
                obtain ⟨z17, E⟩ := gd_some E
                refine ea_iald (pc := 136) dX12_leaves_136 (hs16.1 10 (by decide)).1 (hs16.1 10 (by decide)).2.1 (ea_vpl (hs16.1 10 (by decide)).2.2 z17) ?_
                refine ea_iconst (pc := 137) dX12_leaves_137 (v := 1) rfl ?_
                refine ea_iload_n (pc := 138) dX12_leaves_138 rfl 2 rfl ?_
                refine ea_callS (pc := 139) (d' := d - 1) (As := [vI x2]) (st := [vI 1, vI (ea_i (ea_wi (ea_wi (wX12_bestFrom b0 (x4 : Int32) ((ea_i h (b0 + 10) (Int32.toNatClampNeg x1)) : Int32) ((ea_i h (b0 + 40) (Int32.toNatClampNeg x5)) : Int32) h) (b0 + 57) (Int32.toNatClampNeg x5) (ea_i (wX12_bestFrom b0 (x4 : Int32) ((ea_i h (b0 + 10) (Int32.toNatClampNeg x1)) : Int32) ((ea_i h (b0 + 40) (Int32.toNatClampNeg x5)) : Int32) h) (b0 + 17) (Int32.toNatClampNeg (((12 : Int32) * x1) + (ea_i (wX12_bestFrom b0 (x4 : Int32) ((ea_i h (b0 + 10) (Int32.toNatClampNeg x1)) : Int32) ((ea_i h (b0 + 40) (Int32.toNatClampNeg x5)) : Int32) h) (b0 + 40) (Int32.toNatClampNeg x5)))))) (b0 + 61) (Int32.toNatClampNeg x5) 0) (b0 + 10) (Int32.toNatClampNeg x1)), vI x5, vR (some (b0 + 0))]) dX12_leaves_139 kX12_code (sX12_code (d := d - 1) (by omega)) (by omega) rfl (Nat.le_of_ble_eq_true rfl) ew_2071 ew_2072 ?_
                obtain ⟨z19, E⟩ := gd_some E
                refine ea_callV (pc := 142) (d' := d - 1) (As := [vI x5, vI (ea_i (ea_wi (ea_wi (wX12_bestFrom b0 (x4 : Int32) ((ea_i h (b0 + 10) (Int32.toNatClampNeg x1)) : Int32) ((ea_i h (b0 + 40) (Int32.toNatClampNeg x5)) : Int32) h) (b0 + 57) (Int32.toNatClampNeg x5) (ea_i (wX12_bestFrom b0 (x4 : Int32) ((ea_i h (b0 + 10) (Int32.toNatClampNeg x1)) : Int32) ((ea_i h (b0 + 40) (Int32.toNatClampNeg x5)) : Int32) h) (b0 + 17) (Int32.toNatClampNeg (((12 : Int32) * x1) + (ea_i (wX12_bestFrom b0 (x4 : Int32) ((ea_i h (b0 + 10) (Int32.toNatClampNeg x1)) : Int32) ((ea_i h (b0 + 40) (Int32.toNatClampNeg x5)) : Int32) h) (b0 + 40) (Int32.toNatClampNeg x5)))))) (b0 + 61) (Int32.toNatClampNeg x5) 0) (b0 + 10) (Int32.toNatClampNeg x1)), vI 1, vI (vX12_code (x2 : Int32) (ea_wi (ea_wi (wX12_bestFrom b0 (x4 : Int32) ((ea_i h (b0 + 10) (Int32.toNatClampNeg x1)) : Int32) ((ea_i h (b0 + 40) (Int32.toNatClampNeg x5)) : Int32) h) (b0 + 57) (Int32.toNatClampNeg x5) (ea_i (wX12_bestFrom b0 (x4 : Int32) ((ea_i h (b0 + 10) (Int32.toNatClampNeg x1)) : Int32) ((ea_i h (b0 + 40) (Int32.toNatClampNeg x5)) : Int32) h) (b0 + 17) (Int32.toNatClampNeg (((12 : Int32) * x1) + (ea_i (wX12_bestFrom b0 (x4 : Int32) ((ea_i h (b0 + 10) (Int32.toNatClampNeg x1)) : Int32) ((ea_i h (b0 + 40) (Int32.toNatClampNeg x5)) : Int32) h) (b0 + 40) (Int32.toNatClampNeg x5)))))) (b0 + 61) (Int32.toNatClampNeg x5) 0))]) (st := []) dX12_leaves_142 kX12_turns (sX12_turns (d := d - 1) (by omega) hs16 z19) (by omega) rfl (Nat.le_of_ble_eq_true rfl) ew_2011 ew_2013 ew_88 (ci := 12) rfl (by decide) (hs16.1 0 (by decide)).1 (hs16.1 0 (by decide)).2.1 ?_
                have hs20 : ShM b0 (wX12_turns b0 (x5 : Int32) ((ea_i (ea_wi (ea_wi (wX12_bestFrom b0 (x4 : Int32) ((ea_i h (b0 + 10) (Int32.toNatClampNeg x1)) : Int32) ((ea_i h (b0 + 40) (Int32.toNatClampNeg x5)) : Int32) h) (b0 + 57) (Int32.toNatClampNeg x5) (ea_i (wX12_bestFrom b0 (x4 : Int32) ((ea_i h (b0 + 10) (Int32.toNatClampNeg x1)) : Int32) ((ea_i h (b0 + 40) (Int32.toNatClampNeg x5)) : Int32) h) (b0 + 17) (Int32.toNatClampNeg (((12 : Int32) * x1) + (ea_i (wX12_bestFrom b0 (x4 : Int32) ((ea_i h (b0 + 10) (Int32.toNatClampNeg x1)) : Int32) ((ea_i h (b0 + 40) (Int32.toNatClampNeg x5)) : Int32) h) (b0 + 40) (Int32.toNatClampNeg x5)))))) (b0 + 61) (Int32.toNatClampNeg x5) 0) (b0 + 10) (Int32.toNatClampNeg x1)) : Int32) (1 : Int32) ((vX12_code (x2 : Int32) (ea_wi (ea_wi (wX12_bestFrom b0 (x4 : Int32) ((ea_i h (b0 + 10) (Int32.toNatClampNeg x1)) : Int32) ((ea_i h (b0 + 40) (Int32.toNatClampNeg x5)) : Int32) h) (b0 + 57) (Int32.toNatClampNeg x5) (ea_i (wX12_bestFrom b0 (x4 : Int32) ((ea_i h (b0 + 10) (Int32.toNatClampNeg x1)) : Int32) ((ea_i h (b0 + 40) (Int32.toNatClampNeg x5)) : Int32) h) (b0 + 17) (Int32.toNatClampNeg (((12 : Int32) * x1) + (ea_i (wX12_bestFrom b0 (x4 : Int32) ((ea_i h (b0 + 10) (Int32.toNatClampNeg x1)) : Int32) ((ea_i h (b0 + 40) (Int32.toNatClampNeg x5)) : Int32) h) (b0 + 40) (Int32.toNatClampNeg x5)))))) (b0 + 61) (Int32.toNatClampNeg x5) 0)) : Int32) (ea_wi (ea_wi (wX12_bestFrom b0 (x4 : Int32) ((ea_i h (b0 + 10) (Int32.toNatClampNeg x1)) : Int32) ((ea_i h (b0 + 40) (Int32.toNatClampNeg x5)) : Int32) h) (b0 + 57) (Int32.toNatClampNeg x5) (ea_i (wX12_bestFrom b0 (x4 : Int32) ((ea_i h (b0 + 10) (Int32.toNatClampNeg x1)) : Int32) ((ea_i h (b0 + 40) (Int32.toNatClampNeg x5)) : Int32) h) (b0 + 17) (Int32.toNatClampNeg (((12 : Int32) * x1) + (ea_i (wX12_bestFrom b0 (x4 : Int32) ((ea_i h (b0 + 10) (Int32.toNatClampNeg x1)) : Int32) ((ea_i h (b0 + 40) (Int32.toNatClampNeg x5)) : Int32) h) (b0 + 40) (Int32.toNatClampNeg x5)))))) (b0 + 61) (Int32.toNatClampNeg x5) 0)) := shX12_turns hs16
                refine ea_iinc (pc := 145) (v := 1) (lv' := [(0, vR (some (b0 + 0))), (1, vI x1), (2, vI x2), (3, vI x3), (4, vI x4), (5, vI (x5 + (1 : Int32)))]) dX12_leaves_145 5 rfl rfl (Nat.le_of_ble_eq_true rfl) [1, 2, 3, 4, 5, 0] rfl ?_
                refine ea_goto (pc := 148) (tgt := 25) dX12_leaves_148 rfl ?_
                exact ((ih 25 (x1 : Int32) (x2 : Int32) (x3 : Int32) (x4 : Int32) ((x5 + (1 : Int32)) : Int32) 0 0 (wX12_turns b0 (x5 : Int32) ((ea_i (ea_wi (ea_wi (wX12_bestFrom b0 (x4 : Int32) ((ea_i h (b0 + 10) (Int32.toNatClampNeg x1)) : Int32) ((ea_i h (b0 + 40) (Int32.toNatClampNeg x5)) : Int32) h) (b0 + 57) (Int32.toNatClampNeg x5) (ea_i (wX12_bestFrom b0 (x4 : Int32) ((ea_i h (b0 + 10) (Int32.toNatClampNeg x1)) : Int32) ((ea_i h (b0 + 40) (Int32.toNatClampNeg x5)) : Int32) h) (b0 + 17) (Int32.toNatClampNeg (((12 : Int32) * x1) + (ea_i (wX12_bestFrom b0 (x4 : Int32) ((ea_i h (b0 + 10) (Int32.toNatClampNeg x1)) : Int32) ((ea_i h (b0 + 40) (Int32.toNatClampNeg x5)) : Int32) h) (b0 + 40) (Int32.toNatClampNeg x5)))))) (b0 + 61) (Int32.toNatClampNeg x5) 0) (b0 + 10) (Int32.toNatClampNeg x1)) : Int32) (1 : Int32) ((vX12_code (x2 : Int32) (ea_wi (ea_wi (wX12_bestFrom b0 (x4 : Int32) ((ea_i h (b0 + 10) (Int32.toNatClampNeg x1)) : Int32) ((ea_i h (b0 + 40) (Int32.toNatClampNeg x5)) : Int32) h) (b0 + 57) (Int32.toNatClampNeg x5) (ea_i (wX12_bestFrom b0 (x4 : Int32) ((ea_i h (b0 + 10) (Int32.toNatClampNeg x1)) : Int32) ((ea_i h (b0 + 40) (Int32.toNatClampNeg x5)) : Int32) h) (b0 + 17) (Int32.toNatClampNeg (((12 : Int32) * x1) + (ea_i (wX12_bestFrom b0 (x4 : Int32) ((ea_i h (b0 + 10) (Int32.toNatClampNeg x1)) : Int32) ((ea_i h (b0 + 40) (Int32.toNatClampNeg x5)) : Int32) h) (b0 + 40) (Int32.toNatClampNeg x5)))))) (b0 + 61) (Int32.toNatClampNeg x5) 0)) : Int32) (ea_wi (ea_wi (wX12_bestFrom b0 (x4 : Int32) ((ea_i h (b0 + 10) (Int32.toNatClampNeg x1)) : Int32) ((ea_i h (b0 + 40) (Int32.toNatClampNeg x5)) : Int32) h) (b0 + 57) (Int32.toNatClampNeg x5) (ea_i (wX12_bestFrom b0 (x4 : Int32) ((ea_i h (b0 + 10) (Int32.toNatClampNeg x1)) : Int32) ((ea_i h (b0 + 40) (Int32.toNatClampNeg x5)) : Int32) h) (b0 + 17) (Int32.toNatClampNeg (((12 : Int32) * x1) + (ea_i (wX12_bestFrom b0 (x4 : Int32) ((ea_i h (b0 + 10) (Int32.toNatClampNeg x1)) : Int32) ((ea_i h (b0 + 40) (Int32.toNatClampNeg x5)) : Int32) h) (b0 + 40) (Int32.toNatClampNeg x5)))))) (b0 + 61) (Int32.toNatClampNeg x5) 0)) _ _ E hs20).2.1 rfl)
              · have E := (if_neg c21).symm.trans E
                refine ea_goto (pc := 93) (tgt := 145) dX12_leaves_93 rfl ?_
                refine ea_iinc (pc := 145) (v := 1) (lv' := [(0, vR (some (b0 + 0))), (1, vI x1), (2, vI x2), (3, vI x3), (4, vI x4), (5, vI (x5 + (1 : Int32)))]) dX12_leaves_145 5 rfl rfl (Nat.le_of_ble_eq_true rfl) [1, 2, 3, 4, 5, 0] rfl ?_
                refine ea_goto (pc := 148) (tgt := 25) dX12_leaves_148 rfl ?_
                exact ((ih 25 (x1 : Int32) (x2 : Int32) (x3 : Int32) (x4 : Int32) ((x5 + (1 : Int32)) : Int32) 0 0 (wX12_bestFrom b0 (x4 : Int32) ((ea_i h (b0 + 10) (Int32.toNatClampNeg x1)) : Int32) ((ea_i h (b0 + 40) (Int32.toNatClampNeg x5)) : Int32) h) _ _ E hs10).2.1 rfl)
    refine ⟨?_, ?_⟩
    · intro el
      subst el
      have E := (if_neg (by decide)).symm.trans E
      have E := (if_neg (by decide)).symm.trans E
      have E := (if_pos rfl).symm.trans E
      refine ea_aload_n (pc := 151) dX12_leaves_151 rfl 0 rfl ?_
      refine ea_iload_n (pc := 152) dX12_leaves_152 rfl 1 rfl ?_
      refine ea_iload_n (pc := 153) dX12_leaves_153 rfl 2 rfl ?_
      refine ea_iconst (pc := 154) dX12_leaves_154 (v := 1) rfl ?_
      refine ea_iadd (pc := 155) dX12_leaves_155 ?_
      obtain ⟨z26, E⟩ := gd_some E
      refine ea_callV (pc := 156) (d' := d - 1) (As := [vI x2, vI (x3 + (1 : Int32))]) (st := []) dX12_leaves_156 kX12_comesAt (sX12_comesAt (d := d - 1) (by omega) hs z26) (by omega) rfl (Nat.le_of_ble_eq_true rfl) ew_1762 ew_1764 ew_52 (ci := 12) rfl (by decide) (hs.1 0 (by decide)).1 (hs.1 0 (by decide)).2.1 ?_
      refine ea_aload_n (pc := 159) dX12_leaves_159 rfl 0 rfl ?_
      refine ea_iload_n (pc := 160) dX12_leaves_160 rfl 1 rfl ?_
      refine ea_iload_n (pc := 161) dX12_leaves_161 rfl 2 rfl ?_
      obtain ⟨z27, E⟩ := gd_some E
      refine ea_callV (pc := 162) (d' := d - 1) (As := [vI x2, vI x3]) (st := [vI (vX12_comesAt b0 (x2 : Int32) ((x3 + (1 : Int32)) : Int32) h)]) dX12_leaves_162 kX12_goesAt (sX12_goesAt (d := d - 1) (by omega) hs z27) (by omega) rfl (Nat.le_of_ble_eq_true rfl) ew_1786 ew_1788 ew_57 (ci := 12) rfl (by decide) (hs.1 0 (by decide)).1 (hs.1 0 (by decide)).2.1 ?_
      refine ea_isub (pc := 165) dX12_leaves_165 ?_
      refine ea_istore (pc := 166) (lv' := [(0, vR (some (b0 + 0))), (2, vI x2), (5, vI ((vX12_comesAt b0 (x2 : Int32) ((x3 + (1 : Int32)) : Int32) h) - (vX12_goesAt b0 (x2 : Int32) (x3 : Int32) h)))]) dX12_leaves_166 (Nat.le_of_ble_eq_true rfl) [1, 2, 0] rfl ?_
      refine ea_iconst (pc := 168) dX12_leaves_168 (v := 0) rfl ?_
      refine ea_istore (pc := 169) (lv' := [(0, vR (some (b0 + 0))), (2, vI x2), (5, vI ((vX12_comesAt b0 (x2 : Int32) ((x3 + (1 : Int32)) : Int32) h) - (vX12_goesAt b0 (x2 : Int32) (x3 : Int32) h))), (6, vI 0)]) dX12_leaves_169 (Nat.le_of_ble_eq_true rfl) [1, 2, 3, 0] rfl ?_
      exact ((ih 171 0 (x2 : Int32) 0 0 (((vX12_comesAt b0 (x2 : Int32) ((x3 + (1 : Int32)) : Int32) h) - (vX12_goesAt b0 (x2 : Int32) (x3 : Int32) h)) : Int32) (0 : Int32) 0 h _ _ E hs).2.2.2.1 rfl)
    refine ⟨?_, ?_⟩
    · intro el
      subst el
      have E := (if_neg (by decide)).symm.trans E
      have E := (if_neg (by decide)).symm.trans E
      have E := (if_neg (by decide)).symm.trans E
      have E := (if_pos rfl).symm.trans E
      refine ea_iload (pc := 171) dX12_leaves_171 3 rfl ?_
      refine ea_aload_n (pc := 173) dX12_leaves_173 rfl 0 rfl ?_
      refine ea_getI (pc := 174) dX12_leaves_174 ec_12 (k := 92) (Nat.le_of_ble_eq_true rfl) rfl (Or.inl ew_1437) (hs.1 0 (by decide)).1 (hs.1 0 (by decide)).2.1 ?_
      refine ea_icmp_ge (pc := 177) (tgt := 221) dX12_leaves_177 rfl (fun c35 => ?_) (fun c35 => ?_)
      · have E := (if_pos c35).symm.trans E
        refine ea_iconst (pc := 221) dX12_leaves_221 (v := 0) rfl ?_
        refine ea_istore (pc := 222) (lv' := [(0, vR (some (b0 + 0))), (2, vI x2), (6, vI 0)]) dX12_leaves_222 (Nat.le_of_ble_eq_true rfl) [1, 2, 0] rfl ?_
        exact ((ih 224 0 (x2 : Int32) 0 0 0 (0 : Int32) 0 h _ _ E hs).2.2.2.2.1 rfl)
      · have E := (if_neg c35).symm.trans E
        refine ea_aload_n (pc := 180) dX12_leaves_180 rfl 0 rfl ?_
        refine ea_getR (pc := 181) dX12_leaves_181 ec_12 (k := 96) (Nat.le_of_ble_eq_true rfl) rfl (Or.inl ew_1441) (hs.1 0 (by decide)).1 (hs.1 0 (by decide)).2.1 (hs.2 0 96 rfl) ?_
        refine ea_iload (pc := 184) dX12_leaves_184 3 rfl ?_
        refine ea_aload_n (pc := 186) dX12_leaves_186 rfl 0 rfl ?_
        refine ea_getR (pc := 187) dX12_leaves_187 ec_12 (k := 95) (Nat.le_of_ble_eq_true rfl) rfl (Or.inl ew_1440) (hs.1 0 (by decide)).1 (hs.1 0 (by decide)).2.1 (hs.2 0 95 rfl) ?_
        refine ea_iload (pc := 190) dX12_leaves_190 3 rfl ?_
        obtain ⟨z28, E⟩ := gd_some E
        refine ea_iald (pc := 192) dX12_leaves_192 (hs.1 68 (by decide)).1 (hs.1 68 (by decide)).2.1 (ea_vpl (hs.1 68 (by decide)).2.2 z28) ?_
        refine ea_iload_n (pc := 193) dX12_leaves_193 rfl 1 rfl ?_
        refine ea_bipush (pc := 194) dX12_leaves_194 (v := 7) rfl ?_
        refine ea_idiv (pc := 196) dX12_leaves_196 (by decide) ?_
        refine ea_icmp_ne (pc := 197) (tgt := 213) dX12_leaves_197 rfl (fun c34 => ?_) (fun c34 => ?_)
        · have E := (if_neg c34).symm.trans E
          refine ea_iconst (pc := 213) dX12_leaves_213 (v := 0) rfl ?_
          obtain ⟨z29, E⟩ := gd_some E
          refine ea_iast (pc := 214) dX12_leaves_214 (hs.1 69 (by decide)).1 (hs.1 69 (by decide)).2.1 (ea_vpl (hs.1 69 (by decide)).2.2 z29) ?_
          have hs30 : ShM b0 (ea_wi h (b0 + 69) (Int32.toNatClampNeg x6) 0) := ShM_wi hs
          refine ea_iinc (pc := 215) (v := 1) (lv' := [(0, vR (some (b0 + 0))), (2, vI x2), (5, vI x5), (6, vI (x6 + (1 : Int32)))]) dX12_leaves_215 3 rfl rfl (Nat.le_of_ble_eq_true rfl) [1, 2, 3, 0] rfl ?_
          refine ea_goto (pc := 218) (tgt := 171) dX12_leaves_218 rfl ?_
          exact ((ih 171 0 (x2 : Int32) 0 0 (x5 : Int32) ((x6 + (1 : Int32)) : Int32) 0 (ea_wi h (b0 + 69) (Int32.toNatClampNeg x6) 0) _ _ E hs30).2.2.2.1 rfl)
        · have E := (if_pos c34).symm.trans E
          refine ea_aload_n (pc := 200) dX12_leaves_200 rfl 0 rfl ?_
          refine ea_getR (pc := 201) dX12_leaves_201 ec_12 (k := 93) (Nat.le_of_ble_eq_true rfl) rfl (Or.inl ew_1438) (hs.1 0 (by decide)).1 (hs.1 0 (by decide)).2.1 (hs.2 0 93 rfl) ?_
          refine ea_iload (pc := 204) dX12_leaves_204 3 rfl ?_
          obtain ⟨z31, E⟩ := gd_some E
          refine ea_iald (pc := 206) dX12_leaves_206 (hs.1 66 (by decide)).1 (hs.1 66 (by decide)).2.1 (ea_vpl (hs.1 66 (by decide)).2.2 z31) ?_
          refine ea_iload (pc := 207) dX12_leaves_207 2 rfl ?_
          refine ea_imul (pc := 209) dX12_leaves_209 ?_
          refine ea_goto (pc := 210) (tgt := 214) dX12_leaves_210 rfl ?_
          obtain ⟨z32, E⟩ := gd_some E
          refine ea_iast (pc := 214) dX12_leaves_214 (hs.1 69 (by decide)).1 (hs.1 69 (by decide)).2.1 (ea_vpl (hs.1 69 (by decide)).2.2 z32) ?_
          have hs33 : ShM b0 (ea_wi h (b0 + 69) (Int32.toNatClampNeg x6) ((ea_i h (b0 + 66) (Int32.toNatClampNeg x6)) * x5)) := ShM_wi hs
          refine ea_iinc (pc := 215) (v := 1) (lv' := [(0, vR (some (b0 + 0))), (2, vI x2), (5, vI x5), (6, vI (x6 + (1 : Int32)))]) dX12_leaves_215 3 rfl rfl (Nat.le_of_ble_eq_true rfl) [1, 2, 3, 0] rfl ?_
          refine ea_goto (pc := 218) (tgt := 171) dX12_leaves_218 rfl ?_
          exact ((ih 171 0 (x2 : Int32) 0 0 (x5 : Int32) ((x6 + (1 : Int32)) : Int32) 0 (ea_wi h (b0 + 69) (Int32.toNatClampNeg x6) ((ea_i h (b0 + 66) (Int32.toNatClampNeg x6)) * x5)) _ _ E hs33).2.2.2.1 rfl)
    refine ⟨?_, ?_⟩
    · intro el
      subst el
      have E := (if_neg (by decide)).symm.trans E
      have E := (if_neg (by decide)).symm.trans E
      have E := (if_neg (by decide)).symm.trans E
      have E := (if_neg (by decide)).symm.trans E
      have E := (if_pos rfl).symm.trans E
      refine ea_iload (pc := 224) dX12_leaves_224 2 rfl ?_
      refine ea_bipush (pc := 226) dX12_leaves_226 (v := 8) rfl ?_
      refine ea_icmp_ge (pc := 228) (tgt := 300) dX12_leaves_228 rfl (fun c36 => ?_) (fun c36 => ?_)
      · have E := (if_pos c36).symm.trans E
        cases E
        exact ea_return (pc := 300) dX12_leaves_300 rfl
      · have E := (if_neg c36).symm.trans E
        refine ea_iconst (pc := 231) dX12_leaves_231 (v := 0) rfl ?_
        refine ea_istore (pc := 232) (lv' := [(0, vR (some (b0 + 0))), (2, vI x2), (6, vI x6), (7, vI 0)]) dX12_leaves_232 (Nat.le_of_ble_eq_true rfl) [1, 2, 3, 0] rfl ?_
        exact ((ih 234 0 (x2 : Int32) 0 0 0 (x6 : Int32) (0 : Int32) h _ _ E hs).2.2.2.2.2 rfl)
    intro el
    subst el
    have E := (if_neg (by decide)).symm.trans E
    have E := (if_neg (by decide)).symm.trans E
    have E := (if_neg (by decide)).symm.trans E
    have E := (if_neg (by decide)).symm.trans E
    have E := (if_neg (by decide)).symm.trans E
    have E := (if_pos rfl).symm.trans E
    refine ea_iload (pc := 234) dX12_leaves_234 3 rfl ?_
    refine ea_aload_n (pc := 236) dX12_leaves_236 rfl 0 rfl ?_
    refine ea_getI (pc := 237) dX12_leaves_237 ec_12 (k := 63) (Nat.le_of_ble_eq_true rfl) rfl (Or.inl ew_1408) (hs.1 0 (by decide)).1 (hs.1 0 (by decide)).2.1 ?_
    refine ea_icmp_ge (pc := 240) (tgt := 294) dX12_leaves_240 rfl (fun c46 => ?_) (fun c46 => ?_)
    · have E := (if_pos c46).symm.trans E
      refine ea_iinc (pc := 294) (v := 1) (lv' := [(0, vR (some (b0 + 0))), (2, vI x2), (6, vI (x6 + (1 : Int32)))]) dX12_leaves_294 2 rfl rfl (Nat.le_of_ble_eq_true rfl) [1, 2, 0] rfl ?_
      refine ea_goto (pc := 297) (tgt := 224) dX12_leaves_297 rfl ?_
      exact ((ih 224 0 (x2 : Int32) 0 0 0 ((x6 + (1 : Int32)) : Int32) 0 h _ _ E hs).2.2.2.2.1 rfl)
    · have E := (if_neg c46).symm.trans E
      refine ea_aload_n (pc := 243) dX12_leaves_243 rfl 0 rfl ?_
      refine ea_iload (pc := 244) dX12_leaves_244 3 rfl ?_
      refine ea_iload_n (pc := 246) dX12_leaves_246 rfl 1 rfl ?_
      obtain ⟨z37, E⟩ := gd_some E
      refine ea_callV (pc := 247) (d' := d - 1) (As := [vI x7, vI x2]) (st := []) dX12_leaves_247 kX12_isAboard (sX12_isAboard (d := d - 1) (by omega) hs z37) (by omega) rfl (Nat.le_of_ble_eq_true rfl) ew_2067 ew_2069 ew_95 (ci := 12) rfl (by decide) (hs.1 0 (by decide)).1 (hs.1 0 (by decide)).2.1 ?_
      refine ea_if_eq (pc := 250) (tgt := 288) dX12_leaves_250 rfl (fun c45 => ?_) (fun c45 => ?_)
      · have E := (if_pos c45).symm.trans E
        refine ea_iinc (pc := 288) (v := 1) (lv' := [(0, vR (some (b0 + 0))), (2, vI x2), (6, vI x6), (7, vI (x7 + (1 : Int32)))]) dX12_leaves_288 3 rfl rfl (Nat.le_of_ble_eq_true rfl) [1, 2, 3, 0] rfl ?_
        refine ea_goto (pc := 291) (tgt := 234) dX12_leaves_291 rfl ?_
        exact ((ih 234 0 (x2 : Int32) 0 0 0 (x6 : Int32) ((x7 + (1 : Int32)) : Int32) h _ _ E hs).2.2.2.2.2 rfl)
      · have E := (if_neg c45).symm.trans E
        refine ea_aload_n (pc := 253) dX12_leaves_253 rfl 0 rfl ?_
        refine ea_getR (pc := 254) dX12_leaves_254 ec_12 (k := 87) (Nat.le_of_ble_eq_true rfl) rfl (Or.inl ew_1432) (hs.1 0 (by decide)).1 (hs.1 0 (by decide)).2.1 (hs.2 0 87 rfl) ?_
        refine ea_iload (pc := 257) dX12_leaves_257 3 rfl ?_
        obtain ⟨z38, E⟩ := gd_some E
        refine ea_zald (pc := 259) dX12_leaves_259 (hs.1 61 (by decide)).1 (hs.1 61 (by decide)).2.1 (ea_vpl (hs.1 61 (by decide)).2.2 z38) ?_
        refine ea_if_ne (pc := 260) (tgt := 288) dX12_leaves_260 rfl (fun c44 => ?_) (fun c44 => ?_)
        · have E := (if_neg c44).symm.trans E
          refine ea_iinc (pc := 288) (v := 1) (lv' := [(0, vR (some (b0 + 0))), (2, vI x2), (6, vI x6), (7, vI (x7 + (1 : Int32)))]) dX12_leaves_288 3 rfl rfl (Nat.le_of_ble_eq_true rfl) [1, 2, 3, 0] rfl ?_
          refine ea_goto (pc := 291) (tgt := 234) dX12_leaves_291 rfl ?_
          exact ((ih 234 0 (x2 : Int32) 0 0 0 (x6 : Int32) ((x7 + (1 : Int32)) : Int32) h _ _ E hs).2.2.2.2.2 rfl)
        · have E := (if_pos c44).symm.trans E
          refine ea_aload_n (pc := 263) dX12_leaves_263 rfl 0 rfl ?_
          refine ea_getR (pc := 264) dX12_leaves_264 ec_12 (k := 83) (Nat.le_of_ble_eq_true rfl) rfl (Or.inl ew_1428) (hs.1 0 (by decide)).1 (hs.1 0 (by decide)).2.1 (hs.2 0 83 rfl) ?_
          refine ea_iload (pc := 267) dX12_leaves_267 3 rfl ?_
          obtain ⟨z39, E⟩ := gd_some E
          refine ea_iald (pc := 269) dX12_leaves_269 (hs.1 57 (by decide)).1 (hs.1 57 (by decide)).2.1 (ea_vpl (hs.1 57 (by decide)).2.2 z39) ?_
          refine ea_iload (pc := 270) dX12_leaves_270 2 rfl ?_
          refine ea_icmp_ne (pc := 272) (tgt := 288) dX12_leaves_272 rfl (fun c43 => ?_) (fun c43 => ?_)
          · have E := (if_neg c43).symm.trans E
            refine ea_iinc (pc := 288) (v := 1) (lv' := [(0, vR (some (b0 + 0))), (2, vI x2), (6, vI x6), (7, vI (x7 + (1 : Int32)))]) dX12_leaves_288 3 rfl rfl (Nat.le_of_ble_eq_true rfl) [1, 2, 3, 0] rfl ?_
            refine ea_goto (pc := 291) (tgt := 234) dX12_leaves_291 rfl ?_
            exact ((ih 234 0 (x2 : Int32) 0 0 0 (x6 : Int32) ((x7 + (1 : Int32)) : Int32) h _ _ E hs).2.2.2.2.2 rfl)
          · have E := (if_pos c43).symm.trans E
            refine ea_aload_n (pc := 275) dX12_leaves_275 rfl 0 rfl ?_
            refine ea_iload (pc := 276) dX12_leaves_276 3 rfl ?_
            refine ea_aload_n (pc := 278) dX12_leaves_278 rfl 0 rfl ?_
            refine ea_iload_n (pc := 279) dX12_leaves_279 rfl 1 rfl ?_
            refine ea_iload (pc := 280) dX12_leaves_280 2 rfl ?_
            obtain ⟨z40, E⟩ := gd_some E
            refine ea_callV (pc := 282) (d' := d - 1) (As := [vI x2, vI x6]) (st := [vI x7, vR (some (b0 + 0))]) dX12_leaves_282 kX12_townOf (sX12_townOf (d := d - 1) (by omega) hs z40) (by omega) rfl (Nat.le_of_ble_eq_true rfl) ew_1798 ew_1800 ew_60 (ci := 12) rfl (by decide) (hs.1 0 (by decide)).1 (hs.1 0 (by decide)).2.1 ?_
            obtain ⟨z41, E⟩ := gd_some E
            refine ea_callV (pc := 285) (d' := d - 1) (As := [vI x7, vI (vX12_townOf b0 (x2 : Int32) (x6 : Int32) h)]) (st := []) dX12_leaves_285 kX12_sorts (sX12_sorts (d := d - 1) (by omega) hs z41) (by omega) rfl (Nat.le_of_ble_eq_true rfl) ew_2082 ew_2084 ew_98 (ci := 12) rfl (by decide) (hs.1 0 (by decide)).1 (hs.1 0 (by decide)).2.1 ?_
            have hs42 : ShM b0 (wX12_sorts b0 (x7 : Int32) ((vX12_townOf b0 (x2 : Int32) (x6 : Int32) h) : Int32) h) := shX12_sorts hs
            refine ea_iinc (pc := 288) (v := 1) (lv' := [(0, vR (some (b0 + 0))), (2, vI x2), (6, vI x6), (7, vI (x7 + (1 : Int32)))]) dX12_leaves_288 3 rfl rfl (Nat.le_of_ble_eq_true rfl) [1, 2, 3, 0] rfl ?_
            refine ea_goto (pc := 291) (tgt := 234) dX12_leaves_291 rfl ?_
            exact ((ih 234 0 (x2 : Int32) 0 0 0 (x6 : Int32) ((x7 + (1 : Int32)) : Int32) (wX12_sorts b0 (x7 : Int32) ((vX12_townOf b0 (x2 : Int32) (x6 : Int32) h) : Int32) h) _ _ E hs42).2.2.2.2.2 rfl)
noncomputable def qX12_leaves (b0 : Nat) (x1 : Int32) (h : ea_H) : Option (Unit × ea_H) := gX12_leaves b0 1000000000 0 x1 0 0 0 0 0 0 h
def okX12_leaves (b0 : Nat) (x1 : Int32) (h : ea_H) : Prop := ∃ x, qX12_leaves b0 x1 h = some x
noncomputable def wX12_leaves (b0 : Nat) (x1 : Int32) (h : ea_H) : ea_H := ((qX12_leaves b0 x1 h).getD ((), h)).2
theorem sX12_leaves {d : Nat} {b0 : Nat} {x1 : Int32} {h : ea_H} (hd : 6 ≤ d) (hs : ShM b0 h) (K : okX12_leaves b0 x1 h) : ea_Met mX12_leaves d [vR (some (b0 + 0)), vI x1] h none (wX12_leaves b0 x1 h) := by
  obtain ⟨⟨x, y⟩, K⟩ := K
  unfold wX12_leaves
  rw [K]
  unfold qX12_leaves at K
  exact ea_enter rfl (Nat.le_of_ble_eq_true rfl) ((tX12_leaves hd 1000000000 0 x1 0 0 0 0 0 0 h x y K hs).1 rfl)
