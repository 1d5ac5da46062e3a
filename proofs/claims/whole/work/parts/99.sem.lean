/-! letters on their way: whose row is added -/
def SAl (X Y : Nat → Nat → Int) (l : Nat) : Prop := (Y 0 l = X 0 l ∧ Y 1 l = X 1 l ∧ Y 7 l = X 7 l ∧ Y 5 l = X 5 l) ∧ ∀ i, i < 1000 → Y 8 (1000 * l + i) = X 8 (1000 * l + i) ∧ Y 9 (1000 * l + i) = X 9 (1000 * l + i) ∧ Y 10 (1000 * l + i) = X 10 (1000 * l + i)
def MVl (X Y : Nat → Nat → Int) (l : Nat) (mn st pl : Int) : Prop := (Y 0 l = st ∧ Y 1 l = pl ∧ Y 7 l = X 7 l + 1 ∧ Y 5 l = mn) ∧ (∀ i : Nat, i < 1000 → (i : Int) ≠ X 7 l → Y 8 (1000 * l + i) = X 8 (1000 * l + i) ∧ Y 9 (1000 * l + i) = X 9 (1000 * l + i) ∧ Y 10 (1000 * l + i) = X 10 (1000 * l + i)) ∧ Y 8 (1000 * l + (X 7 l).toNat) = mn ∧ Y 9 (1000 * l + (X 7 l).toNat) = st ∧ Y 10 (1000 * l + (X 7 l).toNat) = pl
section RW
variable {T : Nat → Nat → Nat → Nat} {L : List Nat} {G : Nat → Nat → Int} {X Y Z : Nat → Nat → Int}
theorem SAl_rfl (X : Nat → Nat → Int) (l : Nat) : SAl X X l := ⟨⟨rfl, rfl, rfl, rfl⟩, fun _ _ => ⟨rfl, rfl, rfl⟩⟩
theorem SAl.tr {l : Nat} (a : SAl X Y l) (b : SAl Y Z l) : SAl X Z l := by
  obtain ⟨⟨a1, a2, a3, a4⟩, a5⟩ := a
  obtain ⟨⟨b1, b2, b3, b4⟩, b5⟩ := b
  exact ⟨⟨b1.trans a1, b2.trans a2, b3.trans a3, b4.trans a4⟩, fun i hi => ⟨(b5 i hi).1.trans (a5 i hi).1, (b5 i hi).2.1.trans (a5 i hi).2.1, (b5 i hi).2.2.trans (a5 i hi).2.2⟩⟩
theorem SAl.mv {l : Nat} {mn st pl : Int} (a : SAl X Y l) (b : MVl Y Z l mn st pl) : MVl X Z l mn st pl := by
  obtain ⟨⟨a1, a2, a3, a4⟩, a5⟩ := a
  obtain ⟨⟨b1, b2, b3, b4⟩, b5, b6⟩ := b
  rw [a3] at b3 b5 b6
  exact ⟨⟨b1, b2, b3, b4⟩, fun i hi hx => ⟨(b5 i hi hx).1.trans (a5 i hi).1, (b5 i hi hx).2.1.trans (a5 i hi).2.1, (b5 i hi hx).2.2.trans (a5 i hi).2.2⟩, b6⟩
theorem MVl.sa {l : Nat} {mn st pl : Int} (h7 : 0 ≤ X 7 l) (h7b : X 7 l < 1000) (a : MVl X Y l mn st pl) (b : SAl Y Z l) : MVl X Z l mn st pl := by
  obtain ⟨⟨a1, a2, a3, a4⟩, a5, a6, a7, a8⟩ := a
  obtain ⟨⟨b1, b2, b3, b4⟩, b5⟩ := b
  have b6 := b5 (X 7 l).toNat (by omega)
  exact ⟨⟨b1.trans a1, b2.trans a2, b3.trans a3, b4.trans a4⟩, fun i hi hx => ⟨(b5 i hi).1.trans (a5 i hi hx).1, (b5 i hi).2.1.trans (a5 i hi hx).2.1, (b5 i hi).2.2.trans (a5 i hi hx).2.2⟩, b6.1.trans a6, b6.2.1.trans a7, b6.2.2.trans a8⟩
theorem mvX_sa {l j : Nat} {mn st pl : Int} (hj : l ≠ j) (h7 : 0 ≤ X 7 j) (h7b : X 7 j < 1000) : SAl X (mvX X j mn st pl) l := by
  refine ⟨⟨?_, ?_, ?_, ?_⟩, fun i hi => ⟨?_, ?_, ?_⟩⟩
  · rw [mvX_0, if_neg hj]
  · rw [mvX_1, if_neg hj]
  · rw [mvX_7, if_neg hj]
  · rw [mvX_5, if_neg hj]
  · rw [mvX_8, if_neg (by omega)]
  · rw [mvX_9, if_neg (by omega)]
  · rw [mvX_10, if_neg (by omega)]
theorem mvX_mv {j : Nat} {mn st pl : Int} (h7 : 0 ≤ X 7 j) : MVl X (mvX X j mn st pl) j mn st pl := by
  refine ⟨⟨?_, ?_, ?_, ?_⟩, fun i hi hx => ⟨?_, ?_, ?_⟩, ?_, ?_, ?_⟩
  · rw [mvX_0, if_pos rfl]
  · rw [mvX_1, if_pos rfl]
  · rw [mvX_7, if_pos rfl]
  · rw [mvX_5, if_pos rfl]
  · rw [mvX_8, if_neg (by omega)]
  · rw [mvX_9, if_neg (by omega)]
  · rw [mvX_10, if_neg (by omega)]
  · rw [mvX_8, if_pos rfl]
  · rw [mvX_9, if_pos rfl]
  · rw [mvX_10, if_pos rfl]
theorem upX_sa {g q : Nat} {v : Int} (l : Nat) (hg : g = 2 ∨ g = 3 ∨ g = 4 ∨ g = 6) : SAl X (upX X g q v) l := ⟨⟨upX_ne (by omega), upX_ne (by omega), upX_ne (by omega), upX_ne (by omega)⟩, fun i _ => ⟨upX_ne (by omega), upX_ne (by omega), upX_ne (by omega)⟩⟩
theorem cmL_rw {x j : Nat} (h7 : 0 ≤ X 7 j) (h7b : X 0 j = 1 → X 7 j < 1000) : (∀ l, l ≠ j → SAl X (cmL T G x X j) l) ∧ (SAl X (cmL T G x X j) j ∨ (X 0 j = 1 ∧ MVl X (cmL T G x X j) j (kMin x) (stIn G j (kA (tW T) x)) (kA (tW T) x))) := by
  have z : ∀ l, SAl X (@ite _ (X 4 j = 0) (Classical.propDecidable _) (upX (upX X 3 j (bmw (X 3 j + 1))) 6 (kR x) (bmw (X 6 (kR x) + 1))) X) l := fun l => by
    split
    · exact (upX_sa l (by omega)).tr (upX_sa l (by omega))
    · exact SAl_rfl _ _
  unfold cmL
  by_cases c : cmC T X x j
  · rw [if_pos c]
    have e7 := (z j).1.2.2.1
    have c0 := c.1
    have b7 := h7b c0
    refine ⟨fun l hl => (z l).tr ((mvX_sa hl (by rw [e7]; exact h7) (by rw [e7]; exact b7)).tr (upX_sa l (by omega))), Or.inr ⟨c0, ?_⟩⟩
    exact MVl.sa h7 b7 ((z j).mv (mvX_mv (by rw [e7]; exact h7))) (upX_sa j (by omega))
  · rw [if_neg c]
    exact ⟨fun l _ => SAl_rfl _ _, Or.inl (SAl_rfl _ _)⟩
theorem cmF_rw {x m : Nat} (h7 : ∀ l, l < m → 0 ≤ X 7 l ∧ (X 0 l ≤ 3 → X 7 l < 1000)) : ∀ j, j ≤ m → ∀ l, l < m → (j ≤ l → SAl X (cmF T G x X j) l) ∧ (SAl X (cmF T G x X j) l ∨ (X 0 l = 1 ∧ MVl X (cmF T G x X j) l (kMin x) (stIn G l (kA (tW T) x)) (kA (tW T) x))) := by
  intro j
  induction j with
  | zero => exact fun _ l _ => ⟨fun _ => SAl_rfl _ _, Or.inl (SAl_rfl _ _)⟩
  | succ j ih =>
    intro hj l hl
    have hS := (ih (by omega) j (by omega)).1 (Nat.le_refl _)
    obtain ⟨a1, a2⟩ := h7 j (by omega)
    obtain ⟨r1, r2⟩ := cmL_rw (T := T) (G := G) (x := x) (X := cmF T G x X j) (j := j) (by rw [hS.1.2.2.1]; exact a1) (fun z => by rw [hS.1.2.2.1]; rw [hS.1.1] at z; exact a2 (by omega))
    obtain ⟨i1, i2⟩ := ih (by omega) l hl
    show (j + 1 ≤ l → SAl X (cmL T G x (cmF T G x X j) j) l) ∧ (SAl X (cmL T G x (cmF T G x X j) j) l ∨ _)
    refine ⟨fun q => (i1 (by omega)).tr (r1 l (by omega)), ?_⟩
    by_cases q : l = j
    · subst q
      rcases r2 with r2 | ⟨r2, r3⟩
      · exact Or.inl (hS.tr r2)
      · rw [hS.1.1] at r2
        exact Or.inr ⟨r2, hS.mv r3⟩
    · rcases i2 with i2 | ⟨i2, i3⟩
      · exact Or.inl (i2.tr (r1 l q))
      · exact Or.inr ⟨i2, i3.sa (h7 l hl).1 ((h7 l hl).2 (by omega)) (r1 l q)⟩
theorem bdL_rw {x j : Nat} (h7 : 0 ≤ X 7 j) (h7b : X 0 j = 0 → X 7 j < 1000) : (∀ l, l ≠ j → SAl X (bdL T L G x X j) l) ∧ (SAl X (bdL T L G x X j) j ∨ (X 0 j = 0 ∧ MVl X (bdL T L G x X j) j (kMin x) 1 (kR x))) := by
  unfold bdL
  by_cases c : bdC T L G X x j
  · rw [if_pos c]
    have b7 := h7b c.1
    exact ⟨fun l hl => (mvX_sa hl h7 b7).tr (upX_sa l (by omega)), Or.inr ⟨c.1, MVl.sa h7 b7 (mvX_mv h7) (upX_sa j (by omega))⟩⟩
  · rw [if_neg c]
    exact ⟨fun l _ => SAl_rfl _ _, Or.inl (SAl_rfl _ _)⟩
theorem bdF_rw {x m : Nat} (h7 : ∀ l, l < m → 0 ≤ X 7 l ∧ (X 0 l ≤ 3 → X 7 l < 1000)) : ∀ j, j ≤ m → ∀ l, l < m → (j ≤ l → SAl X (bdF T L G x X j) l) ∧ (SAl X (bdF T L G x X j) l ∨ (X 0 l = 0 ∧ MVl X (bdF T L G x X j) l (kMin x) 1 (kR x))) := by
  intro j
  induction j with
  | zero => exact fun _ l _ => ⟨fun _ => SAl_rfl _ _, Or.inl (SAl_rfl _ _)⟩
  | succ j ih =>
    intro hj l hl
    have hS := (ih (by omega) j (by omega)).1 (Nat.le_refl _)
    obtain ⟨a1, a2⟩ := h7 j (by omega)
    obtain ⟨r1, r2⟩ := bdL_rw (T := T) (L := L) (G := G) (x := x) (X := bdF T L G x X j) (j := j) (by rw [hS.1.2.2.1]; exact a1) (fun z => by rw [hS.1.2.2.1]; rw [hS.1.1] at z; exact a2 (by omega))
    obtain ⟨i1, i2⟩ := ih (by omega) l hl
    show (j + 1 ≤ l → SAl X (bdL T L G x (bdF T L G x X j) j) l) ∧ (SAl X (bdL T L G x (bdF T L G x X j) j) l ∨ _)
    refine ⟨fun q => (i1 (by omega)).tr (r1 l (by omega)), ?_⟩
    by_cases q : l = j
    · subst q
      rcases r2 with r2 | ⟨r2, r3⟩
      · exact Or.inl (hS.tr r2)
      · rw [hS.1.1] at r2
        exact Or.inr ⟨r2, hS.mv r3⟩
    · rcases i2 with i2 | ⟨i2, i3⟩
      · exact Or.inl (i2.tr (r1 l q))
      · exact Or.inr ⟨i2, i3.sa (h7 l hl).1 ((h7 l hl).2 (by omega)) (r1 l q)⟩
theorem soK_sa {r t : Nat} {W : (Nat → Nat → Int) × (Nat → Int)} (k l : Nat) : SAl W.1 (soK T G r t W k).1 l := ⟨⟨soK_f (by decide) _ k, soK_f (by decide) _ k, soK_f (by decide) _ k, soK_f (by decide) _ k⟩, fun i _ => ⟨soK_f (by decide) _ k, soK_f (by decide) _ k, soK_f (by decide) _ k⟩⟩
/-- at a happening a letter keeps its rows, or it was in a hole or aboard and gets one more -/
theorem evX_rw {x m : Nat} (hG : G 7 0 = m) (h7 : ∀ l, l < m → 0 ≤ X 7 l ∧ (X 0 l ≤ 3 → X 7 l < 1000)) {l : Nat} (hl : l < m) : SAl X (evX T L G x X) l ∨ ∃ st pl : Int, MVl X (evX T L G x X) l (kMin x) st pl ∧ ((kGo x = 1 ∧ X 0 l = 0 ∧ st = 1 ∧ pl = kR x) ∨ (kGo x ≠ 1 ∧ X 0 l = 1 ∧ st = stIn G l (kA (tW T) x) ∧ pl = kA (tW T) x)) := by
  have hm2 : (G 7 0).toNat = m := by omega
  unfold evX
  by_cases g : kGo x = 1
  · rw [if_pos g]
    unfold goX
    rw [hm2]
    have s := soK_sa (T := T) (G := G) (r := kR x) (t := kT x) (W := (if G 3 (8 * kR x + kI x) = 0 then bdF T L G x X m else X, sTm T G (kT x) (kI x))) 8 l
    by_cases c : G 3 (8 * kR x + kI x) = 0
    · rw [if_pos c] at s ⊢
      rcases (bdF_rw (T := T) (L := L) (G := G) (x := x) h7 m (Nat.le_refl _) l hl).2 with a | ⟨a, b⟩
      · exact Or.inl (a.tr s)
      · exact Or.inr ⟨1, kR x, b.sa (h7 l hl).1 ((h7 l hl).2 (by omega)) s, Or.inl ⟨g, a, rfl, rfl⟩⟩
    · rw [if_neg c] at s ⊢
      exact Or.inl s
  · rw [if_neg g]
    unfold coX
    rw [hm2]
    split
    · rcases (cmF_rw (T := T) (G := G) (x := x) h7 m (Nat.le_refl _) l hl).2 with a | ⟨a, b⟩
      · exact Or.inl a
      · exact Or.inr ⟨_, _, b, Or.inr ⟨g, a, rfl, rfl⟩⟩
    · exact Or.inl (SAl_rfl _ _)
theorem brF_rw {day m : Nat} (h7 : ∀ l, l < m → 0 ≤ X 7 l ∧ (X 0 l ≤ 3 → X 7 l < 1000)) : ∀ j, j ≤ m → ∀ l, l < m → (j ≤ l → SAl X (brF G day X j) l) ∧ (SAl X (brF G day X j) l ∨ (X 0 l = 3 ∧ MVl X (brF G day X j) l (1440 * day) 6 (X 1 l))) := by
  intro j
  induction j with
  | zero => exact fun _ l _ => ⟨fun _ => SAl_rfl _ _, Or.inl (SAl_rfl _ _)⟩
  | succ j ih =>
    intro hj l hl
    have hS := (ih (by omega) j (by omega)).1 (Nat.le_refl _)
    obtain ⟨a1, a2⟩ := h7 j (by omega)
    have r : (∀ l, l ≠ j → SAl (brF G day X j) (brL G day (brF G day X j) j) l) ∧ (SAl (brF G day X j) (brL G day (brF G day X j) j) j ∨ (brF G day X j 0 j = 3 ∧ MVl (brF G day X j) (brL G day (brF G day X j) j) j (1440 * day) 6 (brF G day X j 1 j))) := by
      unfold brL
      by_cases c : brC G (brF G day X j) day j
      · rw [if_pos c]
        have c0 := c.1
        have z := c0
        rw [hS.1.1] at z
        have b7 : brF G day X j 7 j < 1000 := by rw [hS.1.2.2.1]; exact a2 (by omega)
        have b0 : 0 ≤ brF G day X j 7 j := by rw [hS.1.2.2.1]; exact a1
        exact ⟨fun l hl => mvX_sa hl b0 b7, Or.inr ⟨c0, mvX_mv b0⟩⟩
      · rw [if_neg c]
        exact ⟨fun l _ => SAl_rfl _ _, Or.inl (SAl_rfl _ _)⟩
    obtain ⟨r1, r2⟩ := r
    obtain ⟨i1, i2⟩ := ih (by omega) l hl
    show (j + 1 ≤ l → SAl X (brL G day (brF G day X j) j) l) ∧ (SAl X (brL G day (brF G day X j) j) l ∨ _)
    refine ⟨fun q => (i1 (by omega)).tr (r1 l (by omega)), ?_⟩
    by_cases q : l = j
    · subst q
      rcases r2 with r2 | ⟨r2, r3⟩
      · exact Or.inl (hS.tr r2)
      · rw [hS.1.1] at r2
        rw [hS.1.2.1] at r3
        exact Or.inr ⟨r2, hS.mv r3⟩
    · rcases i2 with i2 | ⟨i2, i3⟩
      · exact Or.inl (i2.tr (r1 l q))
      · exact Or.inr ⟨i2, i3.sa (h7 l hl).1 ((h7 l hl).2 (by omega)) (r1 l q)⟩
theorem XOk_7 {T : Nat → Nat → Nat → Nat} {m : Nat} {b : Int} (hb : b ≤ 1000) (h : XOk T m (fun _ => b) X) : ∀ l, l < m → 0 ≤ X 7 l ∧ (X 0 l ≤ 3 → X 7 l < 1000) := by
  intro l hl
  have w := (h l hl).2.2.2.2.1
  dsimp only at w
  refine ⟨by omega, fun z => ?_⟩
  rw [if_pos z] at w
  omega
end RW
