/-! a letter that nobody will take: what it is told by, purely -/
theorem stIn_nb {G : Nat → Nat → Int} {l0 l : Nat} {town v : Int} (c : l ≠ l0 ∨ town ≠ G 0 l) : stIn (upX G 1 l0 v) l town = stIn G l town := by
  unfold stIn
  rw [upX_ne (show (0 : Nat) ≠ 1 by decide), upX_row]
  rcases c with c | c
  · rw [if_neg c]
  · rw [if_neg (fun z => c z.symm), if_neg (fun z => c z.symm)]
theorem Ld1_nb {T : Nat → Nat → Nat → Nat} {L : List Nat} {G : Nat → Nat → Int} {pf fr : Nat → Int} {M : Nat → Bool} {e : Nat} {X : Nat → Nat → Int} {l0 l : Nat} {v : Int} (c : l ≠ l0 ∨ X 0 l ≤ 1) (h : Ld1 T L G pf fr M e X l) : Ld1 T L (upX G 1 l0 v) pf fr M e X l := by
  obtain ⟨d1, d2, d3, d4, d5, d6⟩ := h
  refine ⟨d1, d2, d3, fun i hi => ?_, fun hx x hxm hg => ?_, d6⟩
  · obtain ⟨a1, a2, a3⟩ := d4 i hi
    refine ⟨a1, ?_, a3⟩
    rw [a2]
    by_cases z : kGo ((ldK L M e).getD i 0) = 1
    · rw [if_pos z, if_pos z]
    · rw [if_neg z, if_neg z]
      exact (stIn_nb (c.elim Or.inl fun hx => Or.inr (d5 hx _ (getD_mem hi) z))).symm
  · rw [upX_ne (show (0 : Nat) ≠ 1 by decide)]
    exact d5 hx x hxm hg
