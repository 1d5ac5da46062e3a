/-! what time leaves alone beyond the letters; the letters' part after each change -/
def ofX (m : Nat) (X Y : Nat → Nat → Int) : Prop := ∀ l, m ≤ l → ∀ f, f ≤ 7 → f ≠ 6 → Y f l = X f l
section OFX
variable {T T' : Nat → Nat → Nat → Nat} {L L' : List Nat} {G G' X Y Z : Nat → Nat → Int} {m n n' p p' : Nat} {h h' : ea_H}
theorem ofX.rf : ofX m X X := fun _ _ _ _ _ => rfl
theorem ofX.tr (a : ofX m X Y) (b : ofX m Y Z) : ofX m X Z := fun l hl f h7 h6 => (b l hl f h7 h6).trans (a l hl f h7 h6)
theorem mvX_of {j : Nat} {mn st pl : Int} (hj : j < m) : ofX m X (mvX X j mn st pl) := fun l hl f h7 h6 => by
  have hc : f = 0 ∨ f = 1 ∨ f = 2 ∨ f = 3 ∨ f = 4 ∨ f = 5 ∨ f = 7 := by omega
  rcases hc with q | q | q | q | q | q | q <;> subst q
  · rw [mvX_0, if_neg (by omega)]
  · rw [mvX_1, if_neg (by omega)]
  · rw [mvX_2]
  · rw [mvX_3]
  · rw [mvX_4, if_neg (by omega)]
  · rw [mvX_5, if_neg (by omega)]
  · rw [mvX_7, if_neg (by omega)]
theorem upX_of {g j : Nat} {v : Int} (hj : g = 6 ∨ j < m) : ofX m X (upX X g j v) := fun l hl f h7 h6 => by
  show (if f = g ∧ l = j then v else X f l) = _
  rw [if_neg (by omega)]
theorem brF_of {day : Nat} : ∀ j, j ≤ m → ofX m X (brF G day X j) := by
  intro j
  induction j with
  | zero => exact fun _ => ofX.rf
  | succ j ih =>
    intro hj
    refine (ih (by omega)).tr ?_
    show ofX m _ (@ite _ _ (Classical.propDecidable _) _ _)
    split
    · exact mvX_of (by omega)
    · exact ofX.rf
theorem brN_of (hG : G 7 0 = m) : ∀ (k day : Nat) (X : Nat → Nat → Int), ofX m X (brN G k day X) := by
  intro k
  induction k with
  | zero => exact fun _ _ => ofX.rf
  | succ k ih => exact fun day X => (brF_of (G 7 0).toNat (by omega)).tr (ih (day + 1) _)
theorem bdF_of {x : Nat} : ∀ j, j ≤ m → ofX m X (bdF T L G x X j) := by
  intro j
  induction j with
  | zero => exact fun _ => ofX.rf
  | succ j ih =>
    intro hj
    refine (ih (by omega)).tr ?_
    show ofX m _ (@ite _ _ (Classical.propDecidable _) _ _)
    split
    · exact (mvX_of (by omega)).tr (upX_of (Or.inr (by omega)))
    · exact ofX.rf
theorem cmF_of {x : Nat} : ∀ j, j ≤ m → ofX m X (cmF T G x X j) := by
  intro j
  induction j with
  | zero => exact fun _ => ofX.rf
  | succ j ih =>
    intro hj
    refine (ih (by omega)).tr ?_
    show ofX m _ (@ite _ _ (Classical.propDecidable _) _ _)
    split
    · refine ofX.tr (Y := @ite _ (cmF T G x X j 4 j = 0) (Classical.propDecidable _) (upX (upX (cmF T G x X j) 3 j (bmw (cmF T G x X j 3 j + 1))) 6 (kR x) (bmw (cmF T G x X j 6 (kR x) + 1))) (cmF T G x X j)) ?_ ((mvX_of (by omega)).tr (upX_of (Or.inr (by omega))))
      split
      · exact (upX_of (Or.inr (by omega))).tr (upX_of (Or.inl rfl))
      · exact ofX.rf
    · exact ofX.rf
theorem soF_of {r town k : Nat} {Z : (Nat → Nat → Int) × (Nat → Int)} : ∀ j, j ≤ m → ofX m Z.1 (soF G r town k Z j).1 := by
  intro j
  induction j with
  | zero => exact fun _ => ofX.rf
  | succ j ih =>
    intro hj
    refine (ih (by omega)).tr ?_
    show ofX m _ (soL G r town k (soF G r town k Z j) j).1
    unfold soL
    split
    · exact upX_of (Or.inr (by omega))
    · exact ofX.rf
theorem soK_of (hG : G 7 0 = m) {r t : Nat} {Z : (Nat → Nat → Int) × (Nat → Int)} : ∀ k, ofX m Z.1 (soK T G r t Z k).1 := by
  intro k
  induction k with
  | zero => exact ofX.rf
  | succ k ih => exact ih.tr (soF_of _ (by omega))
theorem evX_of (hG : G 7 0 = m) {x : Nat} : ofX m X (evX T L G x X) := by
  unfold evX
  split
  · unfold goX
    refine ofX.tr (Y := if G 3 (8 * kR x + kI x) = 0 then bdF T L G x X (G 7 0).toNat else X) ?_ (soK_of hG (Z := (if G 3 (8 * kR x + kI x) = 0 then bdF T L G x X (G 7 0).toNat else X, sTm T G (kT x) (kI x))) 8)
    split
    · exact bdF_of _ (by omega)
    · exact ofX.rf
  · unfold coX
    split
    · exact cmF_of _ (by omega)
    · exact ofX.rf
theorem caX_of (hG : G 7 0 = m) {up : Nat} : ∀ (S : List Nat) (cur : Nat) (X : Nat → Nat → Int), ofX m X (caX T L G up S cur X) := by
  intro S
  induction S with
  | nil => exact fun cur X => brN_of hG _ _ X
  | cons x S ih =>
    intro cur X
    show ofX m X (if kMin x ≤ up then caX T L G up S (kMin x) (evX T L G x (brN G (kMin x / 1440 - cur / 1440) (cur / 1440 + 1) X)) else brN G (up / 1440 - cur / 1440) (cur / 1440 + 1) X)
    split
    · exact ((brN_of hG _ _ X).tr (evX_of hG)).tr (ih _ _)
    · exact brN_of hG _ _ X
/-- the letters' part stays, but for what is told of trains and sorters -/
def W_L0 : List (Nat × Nat) := [(51, 51), (53, 61), (73, 75), (76, 315), (364, 390), (396, 403)]
def V_L0 : List ((Nat × Nat) × Nat × Nat) := [((0, 0), 13, 13), ((52, 52), 0, 0), ((52, 52), 10, 10), ((326, 326), 0, 0), ((326, 326), 63, 63), ((326, 326), 100, 100)]
theorem SLe.core (s : keq W_L0 V_L0 h h') (e7 : G' 7 0 = G 7 0) (g0 : ∀ l, G' 0 l = G 0 l) (g1 : ∀ l, G' 1 l = G 1 l) (gc : GC G' h') (gm : GM n' G' h') (sl : SLe h n T m X G) : SLe h' n' T m X G' := by
  obtain ⟨sb, sh, nw, ss, sc, sf, sp, sr⟩ := sl
  have hm := sb.2.2.2.1.1.2
  have le : ltE [0, 1, 2, 3, 4, 5, 6, 7, 8, 9, 10, 11, 12, 13, 14, 15, 16, 17, 18] h h' := keq.lt (s.sub rfl rfl : keq [] [((76, 315), 0, 18)] h h') rfl
  refine ⟨SBg.re (s.sub rfl rfl) (le.sub rfl) e7 gc gm (fun L p pf fr M l hl d => Ld1_g (g0 l) (g1 l) d) sb, fun l hl => ?_, nw.lq (s.sub rfl rfl) (le.sub rfl), ss.lq hm (s.sub rfl rfl) (le.sub rfl), sc.lq hm (s.sub rfl rfl) (le.sub rfl), sf.lq hm (s.sub rfl rfl) (le.sub rfl), sp.lq (s.sub rfl rfl) (le.sub rfl) (keq.pl (s.sub rfl rfl : keq [] [((76, 315), 0, 3)] h h') List.mem_cons_self) hm, sr.kq (s.sub rfl rfl) fun l _ => Iff.rfl⟩
  rw [le l 1 (by omega) (by decide), s.V 326 0 rfl]
  exact sh l hl
theorem GM.mono (hn : n ≤ n') (c : GM n G h) : GM n' G h := by
  obtain ⟨m, k, a, b, c, d⟩ := c
  refine ⟨m, k, a, fun l hl => ?_, c, d⟩
  obtain ⟨⟨b1, b2, b3⟩, b4⟩ := b l hl
  exact ⟨⟨b1, b2, by omega⟩, b4⟩
def W_Le : List (Nat × Nat) := [(12, 12), (19, 21), (51, 51), (53, 61), (73, 75), (76, 315), (334, 334), (354, 354), (364, 390), (392, 394), (396, 403)]
def V_Le : List ((Nat × Nat) × Nat × Nat) := [((0, 0), 13, 13), ((18, 18), 0, 0), ((52, 52), 0, 0), ((52, 52), 10, 10), ((326, 326), 0, 0), ((326, 326), 63, 63), ((326, 326), 92, 92), ((326, 326), 100, 100)]
theorem SLe.keep (s : keq W_Le V_Le h h') (hn : n ≤ n') (sl : SLe h n T m X G) : SLe h' n' T m X G := SLe.core (s.sub rfl rfl) rfl (fun _ => rfl) (fun _ => rfl) (sl.1.2.1.kq (s.sub rfl rfl)) ((sl.1.2.2.1.kq (s.sub rfl rfl)).mono hn) sl
/-- minutes go by -/
theorem fst_uq {mi : Nat} (a : fstB L mi p) (b : fstB L mi p') : p = p' := by
  obtain ⟨a1, a2⟩ := a
  obtain ⟨b1, b2⟩ := b
  apply Classical.byContradiction
  intro q
  by_cases w : p < p'
  · have := (a2 p (by omega)).mpr ((b2 p (by omega)).mp w)
    omega
  · have := (b2 p' (by omega)).mpr ((a2 p' (by omega)).mp (by omega))
    omega
theorem SLe.min (ok : tOk T) (n0 : 0 ≤ hI h 326 0) (n1 : hI h' 326 0 ≤ 10079) (up : hI h 326 0 ≤ hI h' 326 0) (s : keq [(73, 75), (364, 375), (378, 380), (396, 403)] [((0, 0), 13, 13), ((76, 315), 0, 15), ((76, 315), 18, 18), ((326, 326), 100, 100)] h h') (hL : tList T L) (hp : fstB L (hI h 326 0).toNat p) (sb' : SBg h' n T m (caX T L G (hI h' 326 0).toNat (L.drop p) (hI h 326 0).toNat X) G) (sl : SLe h n T m X G) : SLe h' n T m (caX T L G (hI h' 326 0).toNat (L.drop p) (hI h 326 0).toNat X) G := by
  obtain ⟨⟨hG, gc, gm, rc, rn, rm, df, L2, p2, hL2, hp2, hX, hld⟩, sh, nw, ss, sc, sf, sp, sr⟩ := sl
  have eL := t_uniq hL2 hL
  subst eL
  have ep := fst_uq hp2 hp
  subst ep
  have hm := rc.1.2
  have h980 := t_len2 ok hL
  have hp1 := hp.1
  have le : ltE [0, 1, 2, 3, 4, 5, 6, 7, 8, 9, 10, 11, 12, 13, 14, 15, 18] h h' := keq.lt (s.sub rfl rfl : keq [] [((76, 315), 0, 15), ((76, 315), 18, 18)] h h') rfl
  have kp := fun l (hl : l < m) => caX_kp (up := (hI h' 326 0).toNat) ok hL hG (by omega) hl (L2.drop p2) (hI h 326 0).toNat X (2 + (p2 : Int)) (fun x hx => List.mem_of_mem_drop hx) (by omega) (by rw [List.length_drop]; omega) hX
  have of := caX_of (T := T) (L := L2) hG (up := (hI h' 326 0).toNat) (L2.drop p2) (hI h 326 0).toNat X
  generalize caX T L2 G (hI h' 326 0).toNat (L2.drop p2) (hI h 326 0).toNat X = Y at *
  refine ⟨sb', fun l hl => ?_, fun l hl hl2 => ?_, ss.lq hm (s.sub rfl rfl) (le.sub rfl), sc.lq hm (s.sub rfl rfl) (le.sub rfl), sf.lq hm (s.sub rfl rfl) (le.sub rfl), sp.lq (s.sub rfl rfl) (le.sub rfl) (keq.pl (s.sub rfl rfl : keq [] [((76, 315), 0, 3)] h h') List.mem_cons_self) hm, sr.kq (s.sub rfl rfl) fun l hl => ?_⟩
  · obtain ⟨c1, c2⟩ := sh l hl
    obtain ⟨k1, k2, k3, k4⟩ := kp l hl
    rw [le l 1 (by omega) (by decide)]
    refine ⟨c1, fun z => ?_⟩
    rcases k4 z with w | ⟨w1, w2, w3⟩
    · obtain ⟨u1, u2, u3, u4⟩ := k3 w
      have w7 := (hX l hl).2.2.2.2.1
      dsimp only at w7
      rw [if_neg (by omega)] at w7
      rw [u3, (k1 (X 7 l - 1).toNat (by omega) (by omega)).1]
      have := c2 w
      omega
    · omega
  · rw [of l hl 3 (by decide) (by decide), of l hl 7 (by decide) (by decide)]
    exact (nw.lq (s.sub rfl rfl) (le.sub rfl)) l hl hl2
  · obtain ⟨k1, k2, k3, k4⟩ := kp l hl
    constructor
    · intro z
      rcases k4 (by omega) with w | ⟨w1, w2, w3⟩
      · have := (k3 w).1
        omega
      · omega
    · intro z
      have := (k3 (by omega)).1
      omega
end OFX
