/-! the class: a coming whole; a going, who boards -/
theorem cmF_none {T : Nat → Nat → Nat → Nat} {G : Nat → Nat → Int} {x m : Nat} {X : Nat → Nat → Int} (h : ∀ l, l < m → ¬ (X 0 l = 1 ∧ X 1 l = kR x)) : ∀ j, j ≤ m → cmF T G x X j = X := by
  intro j
  induction j with
  | zero => exact fun _ => rfl
  | succ j ih =>
    intro hj
    show cmL T G x (cmF T G x X j) j = X
    rw [ih (by omega)]
    unfold cmL
    exact if_neg fun c => h j (by omega) ⟨c.1, c.2.1⟩
theorem bdF_none {T : Nat → Nat → Nat → Nat} {L : List Nat} {G : Nat → Nat → Int} {x m : Nat} {X : Nat → Nat → Int} (h : ∀ l, l < m → ¬ (X 0 l = 0 ∧ X 1 l = kA (tW T) x)) : ∀ j, j ≤ m → bdF T L G x X j = X := by
  intro j
  induction j with
  | zero => exact fun _ => rfl
  | succ j ih =>
    intro hj
    show bdL T L G x (bdF T L G x X j) j = X
    rw [ih (by omega)]
    unfold bdL
    exact if_neg fun c => h j (by omega) ⟨c.1, c.2.1⟩
theorem bdL_7 {T : Nat → Nat → Nat → Nat} {L : List Nat} {G : Nat → Nat → Int} {x : Nat} (X : Nat → Nat → Int) (j : Nat) : (∀ l, l ≠ j → bdL T L G x X j 7 l = X 7 l) ∧ (bdC T L G X x j → bdL T L G x X j 7 j = X 7 j + 1) ∧ (¬ bdC T L G X x j → bdL T L G x X j 7 j = X 7 j) := by
  unfold bdL
  by_cases c : bdC T L G X x j
  · rw [if_pos c]
    refine ⟨fun l hl => ?_, fun _ => ?_, fun w => absurd c w⟩
    · rw [upX_ne (by decide), mvX_7, if_neg hl]
    · rw [upX_ne (by decide), mvX_7, if_pos rfl]
  · rw [if_neg c]
    exact ⟨fun _ _ => rfl, fun w => absurd w c, fun _ => rfl⟩
theorem bdF_7 {T : Nat → Nat → Nat → Nat} {L : List Nat} {G : Nat → Nat → Int} {x : Nat} {X : Nat → Nat → Int} : ∀ (j l : Nat), j ≤ l → bdF T L G x X j 7 l = X 7 l := by
  intro j
  induction j with
  | zero => exact fun _ _ => rfl
  | succ j ih =>
    intro l hl
    show bdL T L G x (bdF T L G x X j) j 7 l = _
    rw [(bdL_7 (bdF T L G x X j) j).1 l (by omega)]
    exact ih l (by omega)
theorem c_run {x1 : Int32} {x : Nat} (e1 : x1.toInt = x) (hT : kT x < 10) (hD : kD x < 7) (h : ea_H) : ∃ t i d, qX10_trainIn x1 h = some (t, h) ∧ qX10_stopIn x1 h = some (i, h) ∧ qX10_dayIn x1 h = some (d, h) ∧ t.toInt = kT x ∧ i.toInt = kI x ∧ d.toInt = kD x ∧ ((10 : Int32) * d + t).toInt = kR x ∧ ((8 : Int32) * t + i).toInt = ((8 * kT x + kI x : Nat) : Int) := by
  obtain ⟨t, a1, a2⟩ := c_trainIn e1 h
  obtain ⟨i, b1, b2⟩ := c_stopIn e1 h
  obtain ⟨d, d1, d2⟩ := c_dayIn e1 h
  have hi := kI_lt x
  refine ⟨t, i, d, a1, b1, d1, a2, b2, d2, ?_, ?_⟩
  · rw [n_add, n_mul, a2, d2, l_10]
    simp (disch := omega) only [n_bm]
    unfold kR
    omega
  · rw [n_add, n_mul, a2, b2, l_8]
    simp (disch := omega) only [n_bm]
    omega
theorem MkR_rfl (m : Nat) (X : Nat → Nat → Int) (kx : Nat) (h : ea_H) : MkR m X kx h X h := fun c l _ => ⟨Or.inl, fun w => by
  rcases w with w | ⟨-, w⟩
  · exact w
  · exact absurd rfl w⟩
theorem c_comes52 {T : Nat → Nat → Nat → Nat} {G : Nat → Nat → Int} {m x : Nat} (ok : tOk T) (hxk : tKey T x) (hgo : kGo x ≠ 1) (L : List Nat) (hG : G 7 0 = m) {X : Nat → Nat → Int} {b : Int} (hX : XOk T m (fun _ => b) X) (hb : b ≤ 999) {x1 x2 : Int32} (e1 : x1.toInt = x) (e2 : x2.toInt = kMin x) {h : ea_H} (hs : ShC h) (hT : CTab h T) (g : GC G h) (rc : RC52 m X h) (rn : RN m X h) :
    sat (qX1_comes_at52 x1 x2 h) fun y => fq [(51, 51), (53, 61)] [((52, 52), 10, 10), ((76, 315), 16, 17)] h y.2 ∧ RC52 m (evX T L G x X) y.2 ∧ RN m (evX T L G x X) y.2 ∧ MkR m X (kC x) h (evX T L G x X) y.2 := by
  obtain ⟨t1, t2, t3, t4, t5, t6, t7, t8⟩ := t_bounds ok hxk
  have hm2 : (G 7 0).toNat = m := by omega
  have hev : evX T L G x X = if G 3 (8 * kR x + kI x) = 0 then cmF T G x X m else X := by
    unfold evX coX
    rw [if_neg hgo, hm2]
  rw [hev]
  obtain ⟨t, i, d, a1, a2, a3, b1, b2, b3, b4, b5⟩ := c_run e1 t1 t2 h
  have icr : ((10 : Int32) * d + t).toNatClampNeg = kR x := by
    rw [n_idx, b4]
    rfl
  have ict : t.toNatClampNeg = kT x := by
    rw [n_idx, b1]
    rfl
  have ics : ((8 : Int32) * t + i).toNatClampNeg = 8 * kT x + kI x := by
    rw [n_idx, b5]
    rfl
  have same : (X = if G 3 (8 * kR x + kI x) = 0 then cmF T G x X m else X) → sat (some ((), h)) fun y => fq [(51, 51), (53, 61)] [((52, 52), 10, 10), ((76, 315), 16, 17)] h y.2 ∧ RC52 m (if G 3 (8 * kR x + kI x) = 0 then cmF T G x X m else X) y.2 ∧ RN m (if G 3 (8 * kR x + kI x) = 0 then cmF T G x X m else X) y.2 ∧ MkR m X (kC x) h (if G 3 (8 * kR x + kI x) = 0 then cmF T G x X m else X) y.2 := by
    intro e
    rw [← e]
    exact sat_ret ⟨fq_rfl _ _ _, rc, rn, MkR_rfl _ _ _ _⟩
  unfold qX1_comes_at52
  refine uqX1_comes_at52_0 ?_
  unfold BX1_comes_at52_0
  refine sat_call a1 (sat_call a2 (sat_call a3 (sat_sub ?_)))
  dsimp only
  rw [icr, ict]
  have c9 := rc.2.2.2.2.1 (kR x) t7
  refine sat_gd (vp80 b4 t7) (sat_ite (fun c => ?_) fun c => ?_)
  · rw [n_eq, hI_eq, c9, l_0] at c
    refine same ?_
    split
    · exact (cmF_none (fun l hl => cnt_zero (P := fun k => X 0 k = 1 ∧ X 1 k = ((kR x : Nat) : Int)) (by omega) l hl) m (Nat.le_refl _)).symm
    · rfl
  obtain ⟨m2, s, ⟨g1, g2, g3, g4, g5⟩, gb, gc, gd2⟩ := g
  obtain ⟨M, M1, M2, M3⟩ := gc (kR x) t7
  obtain ⟨vm, pm, qm⟩ := c_isMissed b4 b2 (h := h) t7 t3 M1 M2
  have M4 := M3 (kI x) t3
  refine sat_call pm (sat_eti (fun c2 => ?_) fun c2 => ?_)
  · refine same ?_
    rw [if_neg]
    rcases qm with ⟨w1, w2⟩ | ⟨w1, w2⟩
    · omega
    · exact absurd w1 c2
  have c2 : vm = 0 := c2
  have hmis : G 3 (8 * kR x + kI x) = 0 := by
    rcases qm with ⟨w1, w2⟩ | ⟨w1, w2⟩
    · rw [c2] at w1
      exact absurd w1 (by decide)
    · omega
  rw [if_pos hmis]
  have vS : (ea_i h 6 (kT x)).toInt = tS T (kT x) := hT.2.1 _ t1
  have vS1 := n_pred (x := ea_i h 6 (kT x)) (by omega)
  rw [vS] at vS1
  have vW : (ea_i h 7 (8 * kT x + kI x)).toInt = kA (tW T) x := (hT.2.2.1 _ _ t1 t3).1
  have go : ∀ s0 : Int32, ((s0 = 1 ∧ kI x + 1 = tS T (kT x)) ∨ (s0 = 0 ∧ ¬ kI x + 1 = tS T (kT x))) → sat (qX1_comes_at52_68 x1 x2 t i ((10 : Int32) * d + t) s0 h) fun y => fq [(51, 51), (53, 61)] [((52, 52), 10, 10), ((76, 315), 16, 17)] h y.2 ∧ RC52 m (cmF T G x X m) y.2 ∧ RN m (cmF T G x X m) y.2 ∧ MkR m X (kC x) h (cmF T G x X m) y.2 := by
    intro s0 hs0
    refine uqX1_comes_at52_68 ?_
    unfold BX1_comes_at52_68
    rw [ics]
    refine sat_gd (vp80 b5 (by omega)) (sat_sub ?_)
    refine sat_mono (c_com9052 (L := []) ok hxk hG hX hb e1 e2 b2 b4 vW hs0 hs m 0 h 0 (by omega) rfl ⟨m2, s, ⟨g1, g2, g3, g4, g5⟩, gb, gc, gd2⟩ rc rn (MkR_rfl _ _ _ _) (fq_rfl _ _ _)) fun y hy => ⟨hy.1, hy.2.2⟩
  refine sat_gd (vp80 b1 t1) (sat_ite (fun c3 => ?_) fun c3 => ?_)
  · rw [n_eq, vS1, b2] at c3
    exact go 1 (Or.inl ⟨rfl, by omega⟩)
  · rw [n_eq, vS1, b2] at c3
    exact go 0 (Or.inr ⟨rfl, by omega⟩)
theorem c_go6652 {T : Nat → Nat → Nat → Nat} {L : List Nat} {G : Nat → Nat → Int} {m x : Nat} (ok : tOk T) (hL : tList T L) (hxL : x ∈ L) (hgo : kGo x = 1) (hG : G 7 0 = m) {X : Nat → Nat → Int} {b : Int} (hX : XOk T m (fun _ => b) X) (hb : b ≤ 999) {x1 x2 x3 x4 x5 x6 : Int32} (e1 : x1.toInt = x) (e2 : x2.toInt = kMin x) (e5 : x5.toInt = kR x) (e6 : x6.toInt = kA (tW T) x) {h0 : ea_H} (hs0 : ShC h0) {P : Unit × ea_H → Prop}
    (K : ∀ h, fq [(51, 51), (53, 61)] [((52, 52), 10, 10), ((76, 315), 16, 17)] h0 h → GC G h → RC52 m (bdF T L G x X m) h → RN m (bdF T L G x X m) h → MkR m X (kC x) h0 (bdF T L G x X m) h → sat (qX1_goes_at52_168 x3 x4 x5 h) P) :
    ∀ (k j : Nat) (h : ea_H) (x7 : Int32), j + k = m → x7.toInt = j → GC G h → cLeav (tGm T) (tW T) h L → RC52 m (bdF T L G x X j) h → RN m (bdF T L G x X j) h → MkR m X (kC x) h0 (bdF T L G x X j) h → fq [(51, 51), (53, 61)] [((52, 52), 10, 10), ((76, 315), 16, 17)] h0 h → sat (qX1_goes_at52_66 x1 x2 x3 x4 x5 x6 x7 h) P := by
  have hxk := (hL.2 x).mp hxL
  obtain ⟨t1, t2, t3, t4, t5, t6, t7, t8⟩ := t_bounds ok hxk
  intro k
  induction k with
  | zero =>
    intro j h x7 hk e7 g lv rc rn mk f
    have hjm : j = m := by omega
    subst hjm
    refine uqX1_goes_at52_66 ?_
    unfold BX1_goes_at52_66
    exact sat_pos (by rw [n_le, hI_eq, rc.1.1, e7]; omega) (K h f g rc rn mk)
  | succ k ih =>
    intro j h x7 hk e7 g lv rc rn mk f
    have hj : j < m := by omega
    have hm := rc.1.2
    have hj' : j < 120 := by omega
    have gj := vp80 e7 hj'
    have ic : x7.toNatClampNeg = j := by
      rw [n_idx, e7]
      rfl
    have e71 := n_inc e7 (by omega)
    have XF := bdF_ok (G := G) ok hL hxL hgo hX j (by omega)
    have XO := XF j hj
    dsimp only at XO
    rw [if_neg (Nat.lt_irrefl _)] at XO
    have h7j := bdF_7 (T := T) (L := L) (G := G) (x := x) (X := X) j j (Nat.le_refl _)
    have hsx : bdF T L G x X (j + 1) = bdL T L G x (bdF T L G x X j) j := rfl
    generalize bdF T L G x X j = Y at *
    have hs : ShC h := ShC_core f.1 hs0
    obtain ⟨k1, k2⟩ := ltr_ref hs hj'
    obtain ⟨m2, s, ⟨g1, g2, g3, g4, g5⟩, gb, gc, gd2⟩ := id g
    have hm3 : m2 = m := by omega
    rw [hm3] at gb
    obtain ⟨⟨b1, b2, b3⟩, -⟩ := gb j hj
    have v1 : (ea_i h 53 j).toInt = Y 0 j := (rc.2.1 j hj).1
    have v2 : (ea_i h 54 j).toInt = Y 1 j := (rc.2.1 j hj).2.1
    have no : ¬ bdC T L G Y x j → ∀ s : Int32, s.toInt ≤ 0 → sat (qX1_goes_at52_119 x1 x2 x3 x4 x5 x6 x7 s h) P := by
      intro hc s hs0
      have e : bdF T L G x X (j + 1) = Y := by
        rw [hsx]
        unfold bdL
        rw [if_neg hc]
      refine uqX1_goes_at52_119 ?_
      unfold BX1_goes_at52_119
      refine sat_pos (by rw [n_le, l_0]; exact hs0) (ih (j + 1) h (x7 + 1) (by omega) e71 g lv ?_ ?_ ?_ f)
      · rw [e]
        exact rc
      · rw [e]
        exact rn
      · rw [e]
        exact mk
    refine uqX1_goes_at52_66 ?_
    unfold BX1_goes_at52_66
    rw [ic, k1]
    refine sat_neg (by rw [n_le, hI_eq, rc.1.1, e7]; omega) (sat_gd gj (sat_eti (fun c => ?_) fun c => ?_))
    · rw [n_eq, v1, l_0] at c
      exact no (fun z => c z.1) 0 (by decide)
    rw [n_eq, v1, l_0] at c
    refine sat_gd gj (sat_eti (fun c2 => ?_) fun c2 => ?_)
    · rw [n_eq, v2, e6] at c2
      exact no (fun z => c2 z.2.1) 0 (by decide)
    rw [n_eq, v2, e6] at c2
    have tv : (ea_i h (76 + 2 * j) 2).toInt = ((G 0 j).toNat : Int) := by
      rw [hI_eq, b1]
      omega
    obtain ⟨w, pw, qw⟩ := c_leftBehind (x2 := ea_i h (76 + 2 * j) 2) e1 tv (by omega) ⟨t1, t2⟩ lv
    refine sat_gd gj (sat_gd rfl (sat_gd k2 (sat_call pw ?_)))
    by_cases hz : wLv (tGm T) (tW T) L (kS x) (G 0 j).toNat = 0
    · exact no (fun z => z.2.2 hz) w (by rw [qw, hz]; decide)
    have hc : bdC T L G Y x j := ⟨c, c2, hz⟩
    -- its goal as it stands does no harm
    have rcg : RC52 m (upX Y 2 j (hI h 55 j)) h := rc.goal (by omega)
    have rng : RN m (upX Y 2 j (hI h 55 j)) h := ⟨fun l hl => by
      rw [upX_ne (show (7 : Nat) ≠ 2 by decide), upX_ne (show (8 : Nat) ≠ 2 by decide), upX_ne (show (9 : Nat) ≠ 2 by decide), upX_ne (show (10 : Nat) ≠ 2 by decide)]
      exact rn.1 l hl, rn.2⟩
    have H := c_move52 (st := 1) (pl := kR x) (x3 := 1) e7 e2 rfl e5 hs hj rcg (fun z => by rw [upX_ne (show (1 : Nat) ≠ 2 by decide)]; omega) (fun z => by rw [upX_ne (show (0 : Nat) ≠ 2 by decide)] at z; omega) (by decide) (by decide) (fun z => by omega) (fun _ => by omega) (by omega) (by omega) (by omega) (by omega) (fun _ => by rw [upX_row, if_pos rfl]) rng (fun l hl => by rw [upX_ne (show (7 : Nat) ≠ 2 by decide)]; have w := (XF l hl).2.2.2.2.1; dsimp only at w; split at w <;> split at w <;> omega) (by rw [upX_ne (show (7 : Nat) ≠ 2 by decide)]; have w := XO.2.2.2.2.1; rw [c, if_pos (by decide)] at w; omega)
    refine uqX1_goes_at52_119 ?_
    unfold BX1_goes_at52_119
    refine sat_neg (by rw [n_le, qw, l_0]; omega) (sat_bind H fun y hy => ?_)
    obtain ⟨y1, y2, y3⟩ := hy
    rw [ic]
    refine sat_gd gj (sat_let fun H22 q22 => ?_)
    have f22 : fq [(55, 55)] [] y.2 H22 := q22 ▸ fq_wi rfl
    have e : bdF T L G x X (j + 1) = upX (mvX Y j (kMin x) 1 (kR x)) 2 j ((wLv (tGm T) (tW T) L (kS x) (G 0 j).toNat : Nat) : Int) := by
      rw [hsx]
      unfold bdL
      rw [if_pos hc]
    have rc22 : RC52 m (bdF T L G x X (j + 1)) H22 := by
      rw [e]
      obtain ⟨a0, a2, a3, a4, a5, a6, a7⟩ := y2
      have u0 : ∀ k, mvX (upX Y 2 j (hI h 55 j)) j (kMin x) 1 (kR x) 0 k = mvX Y j (kMin x) 1 (kR x) 0 k := fun k => by rw [mvX_0, mvX_0, upX_ne (by decide)]
      have u1 : ∀ k, mvX (upX Y 2 j (hI h 55 j)) j (kMin x) 1 (kR x) 1 k = mvX Y j (kMin x) 1 (kR x) 1 k := fun k => by rw [mvX_1, mvX_1, upX_ne (by decide)]
      refine ⟨by rw [f22.C 52 rfl rfl]; exact a0, fun l hl => ?_, fun r hr => ?_, fun a ha => ?_, fun r hr => ?_, ?_, fun k => or01 (f22.C 57 rfl rfl k) (a7 k)⟩
      · obtain ⟨w0, w1, w3, w4, w5⟩ := a2 l hl
        rw [u0] at w0 w4 w5
        rw [u1] at w1
        rw [mvX_3, upX_ne (by decide)] at w3
        rw [mvX_2, mvX_4, upX_row, upX_ne (show (4 : Nat) ≠ 2 by decide)] at w4
        rw [mvX_5, upX_ne (show (5 : Nat) ≠ 2 by decide)] at w5
        rw [f22.C 53 rfl rfl, f22.C 54 rfl rfl, f22.C 56 rfl rfl, f22.C 57 rfl rfl, f22.C 59 rfl rfl, upX_ne (show (0 : Nat) ≠ 2 by decide), upX_ne (show (1 : Nat) ≠ 2 by decide), upX_row, upX_ne (show (3 : Nat) ≠ 2 by decide), upX_ne (show (4 : Nat) ≠ 2 by decide), upX_ne (show (5 : Nat) ≠ 2 by decide), mvX_2, mvX_3, mvX_4, mvX_5]
        refine ⟨w0, w1, w3, fun z => ⟨?_, (w4 z).2⟩, w5⟩
        rw [q22, hI_row]
        by_cases zz : l = j
        · rw [if_pos zz, if_pos zz]
          exact qw
        · have := (w4 z).1
          rw [if_neg zz] at this
          rw [if_neg zz, if_neg zz]
          exact this
      · rw [f22.C 58 rfl rfl, a3 r hr, upX_ne (by decide), mvX_6, mvX_6, upX_ne (by decide)]
      · rw [f22.C 60 rfl rfl, a4 a ha]
        exact cnt_eq fun k _ => by rw [u0, u1, upX_ne (show (0 : Nat) ≠ 2 by decide), upX_ne (show (1 : Nat) ≠ 2 by decide)]
      · rw [f22.C 61 rfl rfl, a5 r hr]
        exact cnt_eq fun k _ => by rw [u0, u1, upX_ne (show (0 : Nat) ≠ 2 by decide), upX_ne (show (1 : Nat) ≠ 2 by decide)]
      · rw [f22.C 52 rfl rfl, a6]
        exact cnt_eq fun k _ => by rw [u0, upX_ne (show (0 : Nat) ≠ 2 by decide)]
    have F22 := f.tr ((y1.up rfl rfl).tr (f22.up rfl rfl))
    have G22 : GC G H22 := (g.kq (y1.kq rfl)).kq (f22.kq rfl)
    have L22 : cLeav (tGm T) (tW T) H22 L := fun q hq => by
      rw [f22.J 15 rfl, y1.J 15 rfl]
      exact lv q hq
    refine sat_bind (c_mark e1 e7 hj' t1 t2 H22) fun z hz => ?_
    obtain ⟨z1, z2, z3⟩ := hz
    refine ih (j + 1) z.2 (x7 + 1) (by omega) e71 (G22.kq (z1.kq rfl)) (fun q hq => by rw [z1.J 15 rfl]; exact L22 q hq) ?_ ?_ ?_ (F22.tr (z1.up rfl rfl))
    · obtain ⟨a0, a2, a3, a4, a5, a6, a7⟩ := rc22
      refine ⟨by rw [z2]; exact a0, fun l hl => by rw [z2, z2, z2, z2, z2, z2]; exact a2 l hl, fun r hr => by rw [z2]; exact a3 r hr, fun a ha => by rw [z2]; exact a4 a ha, fun r hr => by rw [z2]; exact a5 r hr, by rw [z2]; exact a6, fun k => or01 (z2 57 k) (a7 k)⟩
    · rw [e]
      refine ⟨fun l hl => ?_, fun l hl hl2 => by rw [z2, z2, f22.C (76 + 2 * l) (inB_no (by omega)) rfl, f22.C 56 rfl rfl]; exact ⟨(y3.2 l hl hl2).1, (y3.2 l hl hl2).2.1, fun c => UN_mk (z3 c l hl2) (by omega) ((mkB_fq f22 rfl c l).trans ((y3.2 l hl hl2).2.2 c))⟩⟩
      have o1 : ∀ c, hI H22 (76 + 2 * l) c = hI y.2 (76 + 2 * l) c := fun c => f22.C (76 + 2 * l) (inB_no (by omega)) rfl c
      have := y3.1 l hl
      rw [mvX_7, mvX_8, mvX_9, mvX_10, upX_ne (show (7 : Nat) ≠ 2 by decide), upX_ne (show (7 : Nat) ≠ 2 by decide), upX_ne (show (8 : Nat) ≠ 2 by decide), upX_ne (show (9 : Nat) ≠ 2 by decide), upX_ne (show (10 : Nat) ≠ 2 by decide)] at this
      rw [upX_ne (show (7 : Nat) ≠ 2 by decide), upX_ne (show (8 : Nat) ≠ 2 by decide), upX_ne (show (9 : Nat) ≠ 2 by decide), upX_ne (show (10 : Nat) ≠ 2 by decide), z2, z2, o1, o1, mvX_7, mvX_8, mvX_9, mvX_10]
      exact this
    · intro cc l hl
      have c7 := bdL_7 (T := T) (L := L) (G := G) (x := x) Y j
      have m1 : mkB H22 cc l = mkB h cc l := (mkB_fq f22 rfl cc l).trans (mkB_fq y1 rfl cc l)
      rw [z3 cc l (by omega), m1, mk cc l hl, hsx]
      by_cases w : l = j
      · rw [w, c7.2.1 hc]
        constructor
        · rintro ((a | ⟨a, a2⟩) | ⟨a, a2⟩)
          · exact Or.inl a
          · exact Or.inr ⟨a, by omega⟩
          · exact Or.inr ⟨a, by omega⟩
        · rintro (a | ⟨a, a2⟩)
          · exact Or.inl (Or.inl a)
          · exact Or.inr ⟨a, rfl⟩
      · rw [c7.1 l w]
        constructor
        · rintro (a | ⟨a, a2⟩)
          · exact a
          · exact absurd a2 w
        · exact Or.inl
theorem c_comes62 {T : Nat → Nat → Nat → Nat} {G : Nat → Nat → Int} {m x : Nat} (ok : tOk T) (hxk : tKey T x) (hgo : kGo x ≠ 1) (L : List Nat) (hG : G 7 0 = m) {X : Nat → Nat → Int} {b : Int} (hX : XOk T m (fun _ => b) X) (hb : b ≤ 999) {x1 x2 : Int32} (e1 : x1.toInt = x) (e2 : x2.toInt = kMin x) {h : ea_H} (hs : ShC h) (hT : CTab h T) (g : GC G h) (rc : RC62 m X h) :
    sat (qX1_comes_at62 x1 x2 h) fun y => fq [(63, 71)] [((62, 62), 10, 10)] h y.2 ∧ RC62 m (evX T L G x X) y.2 := by
  obtain ⟨t1, t2, t3, t4, t5, t6, t7, t8⟩ := t_bounds ok hxk
  have hm2 : (G 7 0).toNat = m := by omega
  have hev : evX T L G x X = if G 3 (8 * kR x + kI x) = 0 then cmF T G x X m else X := by
    unfold evX coX
    rw [if_neg hgo, hm2]
  rw [hev]
  obtain ⟨t, i, d, a1, a2, a3, b1, b2, b3, b4, b5⟩ := c_run e1 t1 t2 h
  have icr : ((10 : Int32) * d + t).toNatClampNeg = kR x := by
    rw [n_idx, b4]
    rfl
  have ict : t.toNatClampNeg = kT x := by
    rw [n_idx, b1]
    rfl
  have ics : ((8 : Int32) * t + i).toNatClampNeg = 8 * kT x + kI x := by
    rw [n_idx, b5]
    rfl
  have same : (X = if G 3 (8 * kR x + kI x) = 0 then cmF T G x X m else X) → sat (some ((), h)) fun y => fq [(63, 71)] [((62, 62), 10, 10)] h y.2 ∧ RC62 m (if G 3 (8 * kR x + kI x) = 0 then cmF T G x X m else X) y.2 := by
    intro e
    rw [← e]
    exact sat_ret ⟨fq_rfl _ _ _, rc⟩
  unfold qX1_comes_at62
  refine uqX1_comes_at62_0 ?_
  unfold BX1_comes_at62_0
  refine sat_call a1 (sat_call a2 (sat_call a3 (sat_sub ?_)))
  dsimp only
  rw [icr, ict]
  have c9 := rc.2.2.2.2.1 (kR x) t7
  refine sat_gd (vp80 b4 t7) (sat_ite (fun c => ?_) fun c => ?_)
  · rw [n_eq, hI_eq, c9, l_0] at c
    refine same ?_
    split
    · exact (cmF_none (fun l hl => cnt_zero (P := fun k => X 0 k = 1 ∧ X 1 k = ((kR x : Nat) : Int)) (by omega) l hl) m (Nat.le_refl _)).symm
    · rfl
  obtain ⟨m2, s, ⟨g1, g2, g3, g4, g5⟩, gb, gc, gd2⟩ := g
  obtain ⟨M, M1, M2, M3⟩ := gc (kR x) t7
  obtain ⟨vm, pm, qm⟩ := c_isMissed b4 b2 (h := h) t7 t3 M1 M2
  have M4 := M3 (kI x) t3
  refine sat_call pm (sat_eti (fun c2 => ?_) fun c2 => ?_)
  · refine same ?_
    rw [if_neg]
    rcases qm with ⟨w1, w2⟩ | ⟨w1, w2⟩
    · omega
    · exact absurd w1 c2
  have c2 : vm = 0 := c2
  have hmis : G 3 (8 * kR x + kI x) = 0 := by
    rcases qm with ⟨w1, w2⟩ | ⟨w1, w2⟩
    · rw [c2] at w1
      exact absurd w1 (by decide)
    · omega
  rw [if_pos hmis]
  have vS : (ea_i h 6 (kT x)).toInt = tS T (kT x) := hT.2.1 _ t1
  have vS1 := n_pred (x := ea_i h 6 (kT x)) (by omega)
  rw [vS] at vS1
  have vW : (ea_i h 7 (8 * kT x + kI x)).toInt = kA (tW T) x := (hT.2.2.1 _ _ t1 t3).1
  have go : ∀ s0 : Int32, ((s0 = 1 ∧ kI x + 1 = tS T (kT x)) ∨ (s0 = 0 ∧ ¬ kI x + 1 = tS T (kT x))) → sat (qX1_comes_at62_68 x1 x2 t i ((10 : Int32) * d + t) s0 h) fun y => fq [(63, 71)] [((62, 62), 10, 10)] h y.2 ∧ RC62 m (cmF T G x X m) y.2 := by
    intro s0 hs0
    refine uqX1_comes_at62_68 ?_
    unfold BX1_comes_at62_68
    rw [ics]
    refine sat_gd (vp80 b5 (by omega)) (sat_sub ?_)
    refine sat_mono (c_com9062 (L := []) ok hxk hG hX hb e1 e2 b2 b4 vW hs0 hs m 0 h 0 (by omega) rfl ⟨m2, s, ⟨g1, g2, g3, g4, g5⟩, gb, gc, gd2⟩ rc (fq_rfl _ _ _)) fun y hy => ⟨hy.1, hy.2.2⟩
  refine sat_gd (vp80 b1 t1) (sat_ite (fun c3 => ?_) fun c3 => ?_)
  · rw [n_eq, vS1, b2] at c3
    exact go 1 (Or.inl ⟨rfl, by omega⟩)
  · rw [n_eq, vS1, b2] at c3
    exact go 0 (Or.inr ⟨rfl, by omega⟩)
theorem c_go6662 {T : Nat → Nat → Nat → Nat} {L : List Nat} {G : Nat → Nat → Int} {m x : Nat} (ok : tOk T) (hL : tList T L) (hxL : x ∈ L) (hgo : kGo x = 1) (hG : G 7 0 = m) {X : Nat → Nat → Int} {b : Int} (hX : XOk T m (fun _ => b) X) (hb : b ≤ 999) {x1 x2 x3 x4 x5 x6 : Int32} (e1 : x1.toInt = x) (e2 : x2.toInt = kMin x) (e5 : x5.toInt = kR x) (e6 : x6.toInt = kA (tW T) x) {h0 : ea_H} (hs0 : ShC h0) {P : Unit × ea_H → Prop}
    (K : ∀ h, fq [(63, 71)] [((62, 62), 10, 10)] h0 h → GC G h → RC62 m (bdF T L G x X m) h → sat (qX1_goes_at62_168 x3 x4 x5 h) P) :
    ∀ (k j : Nat) (h : ea_H) (x7 : Int32), j + k = m → x7.toInt = j → GC G h → cLeav (tGm T) (tW T) h L → RC62 m (bdF T L G x X j) h → fq [(63, 71)] [((62, 62), 10, 10)] h0 h → sat (qX1_goes_at62_66 x1 x2 x3 x4 x5 x6 x7 h) P := by
  have hxk := (hL.2 x).mp hxL
  obtain ⟨t1, t2, t3, t4, t5, t6, t7, t8⟩ := t_bounds ok hxk
  intro k
  induction k with
  | zero =>
    intro j h x7 hk e7 g lv rc f
    have hjm : j = m := by omega
    subst hjm
    refine uqX1_goes_at62_66 ?_
    unfold BX1_goes_at62_66
    exact sat_pos (by rw [n_le, hI_eq, rc.1.1, e7]; omega) (K h f g rc)
  | succ k ih =>
    intro j h x7 hk e7 g lv rc f
    have hj : j < m := by omega
    have hm := rc.1.2
    have hj' : j < 120 := by omega
    have gj := vp80 e7 hj'
    have ic : x7.toNatClampNeg = j := by
      rw [n_idx, e7]
      rfl
    have e71 := n_inc e7 (by omega)
    have XF := bdF_ok (G := G) ok hL hxL hgo hX j (by omega)
    have XO := XF j hj
    dsimp only at XO
    rw [if_neg (Nat.lt_irrefl _)] at XO
    have hsx : bdF T L G x X (j + 1) = bdL T L G x (bdF T L G x X j) j := rfl
    generalize bdF T L G x X j = Y at *
    have hs : ShC h := ShC_core f.1 hs0
    obtain ⟨k1, k2⟩ := ltr_ref hs hj'
    obtain ⟨m2, s, ⟨g1, g2, g3, g4, g5⟩, gb, gc, gd2⟩ := id g
    have hm3 : m2 = m := by omega
    rw [hm3] at gb
    obtain ⟨⟨b1, b2, b3⟩, -⟩ := gb j hj
    have v1 : (ea_i h 63 j).toInt = Y 0 j := (rc.2.1 j hj).1
    have v2 : (ea_i h 64 j).toInt = Y 1 j := (rc.2.1 j hj).2.1
    have no : ¬ bdC T L G Y x j → ∀ s : Int32, s.toInt ≤ 0 → sat (qX1_goes_at62_119 x1 x2 x3 x4 x5 x6 x7 s h) P := by
      intro hc s hs0
      have e : bdF T L G x X (j + 1) = Y := by
        rw [hsx]
        unfold bdL
        rw [if_neg hc]
      refine uqX1_goes_at62_119 ?_
      unfold BX1_goes_at62_119
      refine sat_pos (by rw [n_le, l_0]; exact hs0) (ih (j + 1) h (x7 + 1) (by omega) e71 g lv ?_ f)
      · rw [e]
        exact rc
    refine uqX1_goes_at62_66 ?_
    unfold BX1_goes_at62_66
    rw [ic, k1]
    refine sat_neg (by rw [n_le, hI_eq, rc.1.1, e7]; omega) (sat_gd gj (sat_eti (fun c => ?_) fun c => ?_))
    · rw [n_eq, v1, l_0] at c
      exact no (fun z => c z.1) 0 (by decide)
    rw [n_eq, v1, l_0] at c
    refine sat_gd gj (sat_eti (fun c2 => ?_) fun c2 => ?_)
    · rw [n_eq, v2, e6] at c2
      exact no (fun z => c2 z.2.1) 0 (by decide)
    rw [n_eq, v2, e6] at c2
    have tv : (ea_i h (76 + 2 * j) 2).toInt = ((G 0 j).toNat : Int) := by
      rw [hI_eq, b1]
      omega
    obtain ⟨w, pw, qw⟩ := c_leftBehind (x2 := ea_i h (76 + 2 * j) 2) e1 tv (by omega) ⟨t1, t2⟩ lv
    refine sat_gd gj (sat_gd rfl (sat_gd k2 (sat_call pw ?_)))
    by_cases hz : wLv (tGm T) (tW T) L (kS x) (G 0 j).toNat = 0
    · exact no (fun z => z.2.2 hz) w (by rw [qw, hz]; decide)
    have hc : bdC T L G Y x j := ⟨c, c2, hz⟩
    -- its goal as it stands does no harm
    have rcg : RC62 m (upX Y 2 j (hI h 65 j)) h := rc.goal (by omega)
    have H := c_move62 (st := 1) (pl := kR x) (x3 := 1) e7 e2 rfl e5 hs hj rcg (fun z => by rw [upX_ne (show (1 : Nat) ≠ 2 by decide)]; omega) (fun z => by rw [upX_ne (show (0 : Nat) ≠ 2 by decide)] at z; omega) (by decide) (by decide) (fun z => by omega) (fun _ => by omega) (by omega) (by omega) (by omega) (by omega) (fun _ => by rw [upX_row, if_pos rfl])
    refine uqX1_goes_at62_119 ?_
    unfold BX1_goes_at62_119
    refine sat_neg (by rw [n_le, qw, l_0]; omega) (sat_bind H fun y hy => ?_)
    obtain ⟨y1, y2⟩ := hy
    rw [ic]
    refine sat_gd gj (sat_let fun H22 q22 => ?_)
    have f22 : fq [(65, 65)] [] y.2 H22 := q22 ▸ fq_wi rfl
    have e : bdF T L G x X (j + 1) = upX (mvX Y j (kMin x) 1 (kR x)) 2 j ((wLv (tGm T) (tW T) L (kS x) (G 0 j).toNat : Nat) : Int) := by
      rw [hsx]
      unfold bdL
      rw [if_pos hc]
    have rc22 : RC62 m (bdF T L G x X (j + 1)) H22 := by
      rw [e]
      obtain ⟨a0, a2, a3, a4, a5, a6, a7⟩ := y2
      have u0 : ∀ k, mvX (upX Y 2 j (hI h 65 j)) j (kMin x) 1 (kR x) 0 k = mvX Y j (kMin x) 1 (kR x) 0 k := fun k => by rw [mvX_0, mvX_0, upX_ne (by decide)]
      have u1 : ∀ k, mvX (upX Y 2 j (hI h 65 j)) j (kMin x) 1 (kR x) 1 k = mvX Y j (kMin x) 1 (kR x) 1 k := fun k => by rw [mvX_1, mvX_1, upX_ne (by decide)]
      refine ⟨by rw [f22.C 62 rfl rfl]; exact a0, fun l hl => ?_, fun r hr => ?_, fun a ha => ?_, fun r hr => ?_, ?_, fun k => or01 (f22.C 67 rfl rfl k) (a7 k)⟩
      · obtain ⟨w0, w1, w3, w4, w5⟩ := a2 l hl
        rw [u0] at w0 w4 w5
        rw [u1] at w1
        rw [mvX_3, upX_ne (by decide)] at w3
        rw [mvX_2, mvX_4, upX_row, upX_ne (show (4 : Nat) ≠ 2 by decide)] at w4
        rw [mvX_5, upX_ne (show (5 : Nat) ≠ 2 by decide)] at w5
        rw [f22.C 63 rfl rfl, f22.C 64 rfl rfl, f22.C 66 rfl rfl, f22.C 67 rfl rfl, f22.C 69 rfl rfl, upX_ne (show (0 : Nat) ≠ 2 by decide), upX_ne (show (1 : Nat) ≠ 2 by decide), upX_row, upX_ne (show (3 : Nat) ≠ 2 by decide), upX_ne (show (4 : Nat) ≠ 2 by decide), upX_ne (show (5 : Nat) ≠ 2 by decide), mvX_2, mvX_3, mvX_4, mvX_5]
        refine ⟨w0, w1, w3, fun z => ⟨?_, (w4 z).2⟩, w5⟩
        rw [q22, hI_row]
        by_cases zz : l = j
        · rw [if_pos zz, if_pos zz]
          exact qw
        · have := (w4 z).1
          rw [if_neg zz] at this
          rw [if_neg zz, if_neg zz]
          exact this
      · rw [f22.C 68 rfl rfl, a3 r hr, upX_ne (by decide), mvX_6, mvX_6, upX_ne (by decide)]
      · rw [f22.C 70 rfl rfl, a4 a ha]
        exact cnt_eq fun k _ => by rw [u0, u1, upX_ne (show (0 : Nat) ≠ 2 by decide), upX_ne (show (1 : Nat) ≠ 2 by decide)]
      · rw [f22.C 71 rfl rfl, a5 r hr]
        exact cnt_eq fun k _ => by rw [u0, u1, upX_ne (show (0 : Nat) ≠ 2 by decide), upX_ne (show (1 : Nat) ≠ 2 by decide)]
      · rw [f22.C 62 rfl rfl, a6]
        exact cnt_eq fun k _ => by rw [u0, upX_ne (show (0 : Nat) ≠ 2 by decide)]
    have F22 := f.tr ((y1.up rfl rfl).tr (f22.up rfl rfl))
    have G22 : GC G H22 := (g.kq (y1.kq rfl)).kq (f22.kq rfl)
    have L22 : cLeav (tGm T) (tW T) H22 L := fun q hq => by
      rw [f22.J 15 rfl, y1.J 15 rfl]
      exact lv q hq
    exact ih (j + 1) H22 (x7 + 1) (by omega) e71 G22 L22 rc22 F22
