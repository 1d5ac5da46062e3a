/-! what time leaves alone: rows that stand, letters that are no more on their way -/
def KP (X Y : Nat → Nat → Int) (l up : Nat) : Prop := (∀ i : Nat, (i : Int) < X 7 l → i < 1000 → Y 8 (1000 * l + i) = X 8 (1000 * l + i) ∧ Y 9 (1000 * l + i) = X 9 (1000 * l + i) ∧ Y 10 (1000 * l + i) = X 10 (1000 * l + i)) ∧ X 7 l ≤ Y 7 l ∧ (4 ≤ X 0 l → Y 0 l = X 0 l ∧ Y 1 l = X 1 l ∧ Y 7 l = X 7 l ∧ Y 5 l = X 5 l) ∧ (4 ≤ Y 0 l → 4 ≤ X 0 l ∨ (Y 0 l = 6 ∧ 0 ≤ Y 8 (1000 * l + (Y 7 l - 1).toNat) ∧ Y 8 (1000 * l + (Y 7 l - 1).toNat) ≤ up))
section KPS
variable {T : Nat → Nat → Nat → Nat} {L : List Nat} {G : Nat → Nat → Int} {X Y Z : Nat → Nat → Int} {m l up : Nat}
theorem KP_rfl (X : Nat → Nat → Int) (l up : Nat) : KP X X l up := ⟨fun _ _ _ => ⟨rfl, rfl, rfl⟩, Int.le_refl _, fun _ => ⟨rfl, rfl, rfl, rfl⟩, fun h => Or.inl h⟩
theorem KP.tr (h1 : 1 ≤ Y 7 l ∧ Y 7 l ≤ 1000) (a : KP X Y l up) (b : KP Y Z l up) : KP X Z l up := by
  obtain ⟨a1, a2, a3, a4⟩ := a
  obtain ⟨b1, b2, b3, b4⟩ := b
  refine ⟨fun i hi h => ?_, by omega, fun h => ?_, fun h => ?_⟩
  · obtain ⟨c1, c2, c3⟩ := a1 i hi h
    obtain ⟨d1, d2, d3⟩ := b1 i (by omega) h
    exact ⟨d1.trans c1, d2.trans c2, d3.trans c3⟩
  · obtain ⟨c1, c2, c3, c4⟩ := a3 h
    obtain ⟨d1, d2, d3, d4⟩ := b3 (by omega)
    exact ⟨d1.trans c1, d2.trans c2, d3.trans c3, d4.trans c4⟩
  · rcases b4 h with w | w
    · obtain ⟨d1, d2, d3, d4⟩ := b3 w
      rcases a4 w with u | ⟨u1, u2, u3⟩
      · exact Or.inl u
      · obtain ⟨r1, -⟩ := b1 (Y 7 l - 1).toNat (by omega) (by omega)
        rw [d1, d3, r1]
        exact Or.inr ⟨u1, u2, u3⟩
    · exact Or.inr w
theorem SAl.kp (s : SAl X Y l) : KP X Y l up := by
  obtain ⟨⟨s0, s1, s7, s5⟩, s8⟩ := s
  exact ⟨fun i _ hi => s8 i hi, by omega, fun _ => ⟨s0, s1, s7, s5⟩, fun h => Or.inl (by omega)⟩
theorem MVl.kp {mn st pl : Int} (s : MVl X Y l mn st pl) (h0 : X 0 l ≤ 3) (h7 : 1 ≤ X 7 l) (hs : st ≤ 3 ∨ st = 6 ∧ 0 ≤ mn ∧ mn ≤ up) : KP X Y l up := by
  obtain ⟨⟨s0, s1, s7, s5⟩, s8, n8, n9, n10⟩ := s
  refine ⟨fun i h1 hi => s8 i hi (by omega), by omega, fun h => by omega, fun h => Or.inr ?_⟩
  rw [s7, show X 7 l + 1 - 1 = X 7 l by omega, n8, s0]
  omega
theorem evX_kp {x : Nat} {b : Int} (hb : b ≤ 1000) (hG : G 7 0 = m) (hX : XOk T m (fun _ => b) X) (hl : l < m) : KP X (evX T L G x X) l up := by
  have h7 := XOk_7 hb hX
  have w := (hX l hl).2.2.2.2.1.1
  rcases evX_rw (T := T) (L := L) (x := x) hG h7 hl with a | ⟨st, pl, a, c⟩
  · exact a.kp
  · refine a.kp (by rcases c with c | c <;> omega) w (Or.inl ?_)
    rcases c with ⟨-, -, c, -⟩ | ⟨-, -, c, -⟩
    · omega
    · have := stIn_c G l (kA (tW T) x : Int)
      omega
theorem brF_kp {day : Nat} {b : Int} (hb : b ≤ 1000) (hd : 1440 * day ≤ up) (hX : XOk T m (fun _ => b) X) (hl : l < m) : KP X (brF G day X m) l up := by
  have h7 := XOk_7 hb hX
  have w := (hX l hl).2.2.2.2.1.1
  rcases (brF_rw (G := G) (day := day) h7 m (Nat.le_refl _) l hl).2 with a | ⟨a0, a⟩
  · exact a.kp
  · exact a.kp (by omega) w (Or.inr ⟨rfl, by omega, by omega⟩)
theorem XOk_in {b : Int} (hb : b ≤ 1000) (hX : XOk T m (fun _ => b) X) (hl : l < m) : 1 ≤ X 7 l ∧ X 7 l ≤ 1000 := by
  have w := (hX l hl).2.2.2.2.1
  dsimp only at w
  split at w <;> omega
theorem brN_kp {b : Int} (hb : b ≤ 1000) (hG : G 7 0 = m) (hup : up ≤ 10079) (hl : l < m) : ∀ (n day : Nat) (X : Nat → Nat → Int), 1440 * (day + n) ≤ up + 1440 → XOk T m (fun _ => b) X → KP X (brN G n day X) l up := by
  intro n
  induction n with
  | zero => exact fun _ X _ _ => KP_rfl X l up
  | succ n ih =>
    intro day X hd hX
    have hm2 : (G 7 0).toNat = m := by omega
    have k1 := brF_kp (G := G) (up := up) (day := day) hb (by omega) hX hl
    have hX2 := brF_ok (G := G) (day := day) (by omega) hX m
    have k2 := ih (day + 1) (brF G day X m) (by omega) hX2
    show KP X (brN G n (day + 1) (brF G day X (G 7 0).toNat)) l up
    rw [hm2]
    exact k1.tr (XOk_in hb hX2 hl) k2
theorem caX_kp (ok : tOk T) (hL : tList T L) (hG : G 7 0 = m) (hup : up ≤ 10079) (hl : l < m) : ∀ (S : List Nat) (cur : Nat) (X : Nat → Nat → Int) (b : Int), (∀ x ∈ S, x ∈ L) → cur ≤ up → b + S.length ≤ 1000 → XOk T m (fun _ => b) X → KP X (caX T L G up S cur X) l up := by
  intro S
  induction S with
  | nil =>
    intro cur X b _ hc hb hX
    exact brN_kp (by rw [List.length_nil] at hb; omega) hG hup hl _ _ X (by omega) hX
  | cons x S ih =>
    intro cur X b hS hc hb hX
    rw [List.length_cons] at hb
    show KP X (if kMin x ≤ up then caX T L G up S (kMin x) (evX T L G x (brN G (kMin x / 1440 - cur / 1440) (cur / 1440 + 1) X)) else brN G (up / 1440 - cur / 1440) (cur / 1440 + 1) X) l up
    by_cases c : kMin x ≤ up
    · rw [if_pos c]
      have k1 := brN_kp (G := G) (by omega) hG hup hl (kMin x / 1440 - cur / 1440) (cur / 1440 + 1) X (by omega) hX
      have hX1 := brN_ok (G := G) (kMin x / 1440 - cur / 1440) (cur / 1440 + 1) X (by omega) hX
      have k2 := evX_kp (L := L) (x := x) (up := up) (by omega) hG hX1 hl
      have hX2 := evX_ok ok hL (hS x List.mem_cons_self) hG hX1
      have k3 := ih (kMin x) _ (b + 1) (fun y hy => hS y (List.mem_cons_of_mem _ hy)) c (by omega) hX2
      exact k1.tr (XOk_in (by omega) hX1 hl) (k2.tr (XOk_in (by omega) hX2 hl) k3)
    · rw [if_neg c]
      exact brN_kp (by omega) hG hup hl _ _ X (by omega) hX
theorem caX_ok (ok : tOk T) (hL : tList T L) (hG : G 7 0 = m) (hup : up ≤ 10079) : ∀ (S : List Nat) (cur : Nat) (X : Nat → Nat → Int) (b : Int), (∀ x ∈ S, x ∈ L) → cur ≤ up → XOk T m (fun _ => b) X → XOk T m (fun _ => b + S.length) (caX T L G up S cur X) := by
  intro S
  induction S with
  | nil =>
    intro cur X b _ hc hX
    rw [List.length_nil]
    have := brN_ok (G := G) (up / 1440 - cur / 1440) (cur / 1440 + 1) X (by omega) hX
    exact fun l hl => XL_up (by dsimp only; omega) (this l hl)
  | cons x S ih =>
    intro cur X b hS hc hX
    rw [List.length_cons]
    show XOk T m _ (if kMin x ≤ up then caX T L G up S (kMin x) (evX T L G x (brN G (kMin x / 1440 - cur / 1440) (cur / 1440 + 1) X)) else brN G (up / 1440 - cur / 1440) (cur / 1440 + 1) X)
    by_cases c : kMin x ≤ up
    · rw [if_pos c]
      have hX1 := brN_ok (G := G) (kMin x / 1440 - cur / 1440) (cur / 1440 + 1) X (by omega) hX
      have hX2 := evX_ok ok hL (hS x List.mem_cons_self) hG hX1
      have := ih (kMin x) _ (b + 1) (fun y hy => hS y (List.mem_cons_of_mem _ hy)) c hX2
      exact fun l hl => XL_up (by dsimp only; omega) (this l hl)
    · rw [if_neg c]
      have := brN_ok (G := G) (up / 1440 - cur / 1440) (cur / 1440 + 1) X (by omega) hX
      exact fun l hl => XL_up (by dsimp only; omega) (this l hl)
/-- a letter that ends on its way, now: robbed or found -/
theorem ld_mv {pf fr : Nat → Int} {M : Nat → Bool} {p now : Nat} (hp : fstB L now p) {mn st pl : Int} (hmn : mn = now) (hst : 4 ≤ st) (h0 : X 0 l ≤ 3) (h7 : 0 ≤ X 7 l ∧ X 7 l < 1000) (hmv : MVl X Y l mn st pl) (h : Ld1 T L G pf fr M p X l) : Ld1 T L G pf fr M p Y l := by
  obtain ⟨a1, a2, a3, a4, a5, a6⟩ := h
  obtain ⟨⟨s0, s1, s7, s5⟩, s8, n8, n9, n10⟩ := hmv
  rw [if_neg (by omega)] at a2
  have idx : (X 7 l).toNat = 1 + (ldK L M p).length := by omega
  rw [idx] at n8 n9 n10
  unfold Ld1
  rw [s0, s1, s7]
  refine ⟨a1, ?_, ?_, fun i hi => ?_, fun z => by omega, fun _ => ⟨n9, n10, fun y hy => ?_⟩⟩
  · rw [if_pos hst, a2]
    omega
  · have r0 := s8 0 (by decide) (by omega)
    rw [Nat.add_zero] at r0
    rw [r0.1, r0.2.1, r0.2.2]
    exact a3
  · have r := s8 (1 + i) (by omega) (by omega)
    unfold ldRow
    rw [r.1, r.2.1, r.2.2]
    exact a4 i hi
  · rw [n8]
    obtain ⟨j, j1, j2, j3⟩ := take_at (List.mem_filter.mp hy).1
    have := (hp.2 j j2).mp j1
    rw [j3] at this
    omega
theorem Ld1_sal {pf fr : Nat → Int} {M : Nat → Bool} {p : Nat} (h7 : X 7 l ≤ 1000) (s : SAl X Y l) (h : Ld1 T L G pf fr M p X l) : Ld1 T L G pf fr M p Y l := by
  obtain ⟨a1, a2, a3, a4, a5, a6⟩ := h
  obtain ⟨⟨s0, s1, s7, s5⟩, s8⟩ := s
  have q0 : 0 ≤ (if 4 ≤ X 0 l then (1 : Int) else 0) := by split <;> decide
  unfold Ld1
  rw [s0, s1, s7]
  refine ⟨a1, a2, ?_, fun i hi => ?_, a5, fun h4 => ?_⟩
  · have r0 := s8 0 (by decide)
    rw [Nat.add_zero] at r0
    rw [r0.1, r0.2.1, r0.2.2]
    exact a3
  · have r := s8 (1 + i) (by omega)
    unfold ldRow
    rw [r.1, r.2.1, r.2.2]
    exact a4 i hi
  · have a2' := a2
    rw [if_pos h4] at a2'
    have r := s8 (1 + (ldK L M p).length) (by omega)
    rw [r.1, r.2.1, r.2.2]
    exact a6 h4
end KPS
