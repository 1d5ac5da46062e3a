/-! the class: a going whole; days; the walk over the keys -/
theorem CTab.kq {T : Nat → Nat → Nat → Nat} {h h' : ea_H} (s : keq [(6, 9), (11, 11)] [((5, 5), 0, 0)] h h') (c : CTab h T) : CTab h' T := by
  obtain ⟨c1, c2, c3, c4⟩ := c
  refine ⟨(s.V 5 0 rfl).trans c1, fun t ht => (s.W 6 rfl _).trans (c2 t ht), fun t i ht hi => ?_, fun t d ht hd => (s.W 11 rfl _).trans (c4 t d ht hd)⟩
  rw [s.W 7 rfl, s.W 8 rfl, s.W 9 rfl]
  exact c3 t i ht hi
theorem evX_go7 {T : Nat → Nat → Nat → Nat} {G : Nat → Nat → Int} {r t : Nat} {Z : (Nat → Nat → Int) × (Nat → Int)} (k l : Nat) : (soK T G r t Z k).1 7 l = Z.1 7 l := soK_f (by decide) l k
/-- what the class's walk leaves as it is -/
def gCx (T : Nat → Nat → Nat → Nat) (L : List Nat) (G : Nat → Nat → Int) (h : ea_H) : Prop := ShC h ∧ CTab h T ∧ GC G h ∧ KyC h L ∧ cLeav (tGm T) (tW T) h L
theorem gCx_fq {T : Nat → Nat → Nat → Nat} {L : List Nat} {G : Nat → Nat → Int} {A : List (Nat × Nat)} {B : List ((Nat × Nat) × Nat × Nat)} {h h' : ea_H} (f : fq A B h h') (w1 : fre A B [(6, 9), (11, 11)] [((5, 5), 0, 0)] = true) (w2 : fre A B [(12, 12), (19, 21)] V_GC = true) (w3 : fre A B [(13, 15)] [] = true) (g : gCx T L G h) : gCx T L G h' := by
  obtain ⟨g1, g2, g3, g4, g5⟩ := g
  have k := f.kq w3
  refine ⟨ShC_core f.1 g1, g2.kq (f.kq w1), g3.kq (f.kq w2), ⟨(k.W 13 rfl 1).trans g4.1, fun e he => (k.W 14 rfl e).trans (g4.2 e he)⟩, fun q hq => ?_⟩
  rw [k.2.2 15 rfl]
  exact g5 q hq
theorem c_go16852 {T : Nat → Nat → Nat → Nat} {L : List Nat} {G : Nat → Nat → Int} {m x : Nat} (ok : tOk T) (hxk : tKey T x) (hgo : kGo x = 1) (hG : G 7 0 = m) {Y : Nat → Nat → Int} {B : Nat → Int} (hX : XOk T m B Y) {x3 x4 x5 : Int32} (e3 : x3.toInt = kT x) (e4 : x4.toInt = kI x) (e5 : x5.toInt = kR x) {h : ea_H} (g : gCx T L G h) (rc : RC52 m Y h) (rn : RN m Y h) :
    sat (qX1_goes_at52_168 x3 x4 x5 h) fun y => fq [(22, 22), (57, 57)] [] h y.2 ∧ RC52 m (soK T G (kR x) (kT x) (Y, sTm T G (kT x) (kI x)) 8).1 y.2 := by
  obtain ⟨t1, t2, t3, t4, t5, t6, t7, t8⟩ := t_bounds ok hxk
  obtain ⟨hs, hT, gc, -, -⟩ := g
  obtain ⟨m2, s, ⟨g1, g2, g3, g4, g5⟩, gb, gm, gd⟩ := id gc
  have hst : kI x + 1 < tS T (kT x) := by
    rcases hxk.2.2.2 with ⟨z1, z2, z3, z4⟩ | ⟨z1, z2, z3⟩
    · omega
    · exact z2
  have ic5 : x5.toNatClampNeg = kR x := by
    rw [n_idx, e5]
    rfl
  have ic3 : x3.toNatClampNeg = kT x := by
    rw [n_idx, e3]
    rfl
  have c9 := rc.2.2.2.2.1 (kR x) t7
  have same : (∀ k, soK T G (kR x) (kT x) (Y, sTm T G (kT x) (kI x)) k = (Y, sTm T G (kT x) (kI x))) → sat (some ((), h)) fun y => fq [(22, 22), (57, 57)] [] h y.2 ∧ RC52 m (soK T G (kR x) (kT x) (Y, sTm T G (kT x) (kI x)) 8).1 y.2 := by
    intro e
    rw [e 8]
    exact sat_ret ⟨fq_rfl _ _ _, rc⟩
  refine uqX1_goes_at52_168 ?_
  unfold BX1_goes_at52_168
  rw [ic5]
  refine sat_gd (vp80 e5 t7) (sat_ite (fun c => ?_) fun c => ?_)
  · rw [n_le, hI_eq, c9, l_0] at c
    exact same (soK_none hG fun l hl => cnt_zero (P := fun k => Y 0 k = 1 ∧ Y 1 k = ((kR x : Nat) : Int)) c l hl)
  obtain ⟨v, p, q⟩ := c_sitsIn g2 e3 gc
  refine sat_call p (sat_ite (fun c2 => ?_) fun c2 => ?_)
  · refine same (soK_tm fun q2 => ?_)
    show sTm T G (kT x) (kI x) q2 ≤ 0
    unfold sTm
    split
    · rename_i w
      exact absurd w.2 (q c2 q2 (by omega))
    · exact Int.le_refl _
  have i0 : ((8 : Int32) * x3 + x4).toInt = 8 * (kT x : Int) + kI x := by simp (disch := omega) only [n_add, n_sub, n_mul, n_neg, n_bm, n_idx, n_if, hI_eq, l_m1000, l_m100, l_m60, l_m19, l_m18, l_m17, l_m16, l_m15, l_m14, l_m13, l_m12, l_m11, l_m10, l_m8, l_m1, l_0, l_1, l_2, l_3, l_4, l_5, l_6, l_7, l_8, l_9, l_10, l_11, l_12, l_13, l_14, l_15, l_16, l_17, l_18, l_19, l_20, l_21, l_24, l_25, l_32, l_40, l_41, l_42, l_43, l_45, l_47, l_48, l_57, l_59, l_60, l_61, l_62, l_63, l_64, l_65, l_70, l_80, l_90, l_97, l_99, l_100, l_120, l_122, l_127, l_144, l_150, l_201, l_202, l_203, l_204, l_205, l_206, l_207, l_255, l_300, l_364, l_480, l_560, l_600, l_601, l_620, l_840, l_900, l_980, l_999, l_1000, l_1023, l_1024, l_1220, l_1439, l_1440, l_2240, l_2400, l_3000, l_3600, l_4095, l_4096, l_7320, l_9999, l_10079, l_10080, l_12000, l_99999, l_120000, l_1000000, l_2147483647, e3, e4]
  have i1 : ((8 : Int32) * x3 + x4).toInt = ((8 * kT x + kI x : Nat) : Int) := by
    rw [i0]
    omega
  have ics : ((8 : Int32) * x3 + x4).toNatClampNeg = 8 * kT x + kI x := by
    rw [n_idx, i1]
    rfl
  have i2 : ((8 : Int32) * x3 + x4 + 1).toInt = ((8 * kT x + (kI x + 1) : Nat) : Int) := by
    rw [n_inc i1 (by omega)]
    rfl
  have ics2 : ((8 : Int32) * x3 + x4 + 1).toNatClampNeg = 8 * kT x + (kI x + 1) := by
    rw [n_idx, i2]
    rfl
  have vS : (ea_i h 6 (kT x)).toInt = tS T (kT x) := hT.2.1 _ t1
  have vC : (ea_i h 8 (8 * kT x + (kI x + 1))).toInt = tC T (kT x) (kI x + 1) := (hT.2.2.1 _ _ t1 (by omega)).2.1
  have vG : (ea_i h 9 (8 * kT x + kI x)).toInt = tG T (kT x) (kI x) := (hT.2.2.1 _ _ t1 t3).2.2
  have bc := ok.2.2.2.1 (kT x) (kI x + 1) t1 hst
  have bg := ok.2.2.2.1 (kT x) (kI x) t1 (by omega)
  have bs := ok.2.2.2.2.1 (kT x) (kI x) t1 hst
  have vd : (ea_i h 8 (8 * kT x + (kI x + 1)) - ea_i h 9 (8 * kT x + kI x)).toInt = (tC T (kT x) (kI x + 1) : Int) - tG T (kT x) (kI x) := by
    rw [n_sub, vC, vG, n_bm (by omega) (by omega)]
  refine sat_bind (?_ : sat (qX1_sort_at52 x5 x3 x4 h) fun y => fq [(22, 22), (57, 57)] [] h y.2 ∧ RC52 m (soK T G (kR x) (kT x) (Y, sTm T G (kT x) (kI x)) 8).1 y.2) fun y hy => sat_ret hy
  unfold qX1_sort_at52
  refine uqX1_sort_at52_0 ?_
  unfold BX1_sort_at52_0
  rw [ic3, ics, ics2]
  refine sat_gd (vp80 e3 t1) (sat_pos ?_ (sat_gd (vp80 i2 (by omega)) (sat_gd (vp80 i1 (by omega)) ?_)))
  · rw [n_lt, vS, n_inc e4 (by omega)]
    omega
  refine sat_bind (c_begin3 g2 (by omega) (by omega) vd gc) fun y hy => ?_
  obtain ⟨y1, y2⟩ := hy
  have ry : RC52 m Y y.2 := by
    obtain ⟨a0, a2, a3, a4, a5, a6, a7⟩ := rc
    refine ⟨by rw [y1.C 52 rfl rfl]; exact a0, fun l hl => ?_, fun r hr => ?_, fun a ha => ?_, fun r hr => ?_, ?_, fun k => or01 (y1.C 57 rfl rfl k) (a7 k)⟩
    · rw [y1.C 53 rfl rfl, y1.C 54 rfl rfl, y1.C 55 rfl rfl, y1.C 56 rfl rfl, y1.C 57 rfl rfl, y1.C 59 rfl rfl]
      exact a2 l hl
    · rw [y1.C 58 rfl rfl]
      exact a3 r hr
    · rw [y1.C 60 rfl rfl]
      exact a4 a ha
    · rw [y1.C 61 rfl rfl]
      exact a5 r hr
    · rw [y1.C 52 rfl rfl]
      exact a6
  have tmc : TMc G (kT x) s (sTm T G (kT x) (kI x)) y.2 := by
    refine ⟨fun q hq hg => ?_, fun q hq => ?_⟩
    · rw [y2 q hq]
      unfold sTm
      rw [if_pos ⟨by omega, hg⟩]
    · unfold sTm
      exact if_neg fun w => hq ⟨by omega, w.2⟩
  have eR : 10 * kD x + kT x = kR x := rfl
  have st := soK_stop (G := G) (d := kD x) t1 hG (Z := (Y, sTm T G (kT x) (kI x))) hX (8 - tS T (kT x))
  rw [show tS T (kT x) + (8 - tS T (kT x)) = 8 by omega, eR] at st
  rw [st]
  have H := c_sort5752 (Z := (Y, sTm T G (kT x) (kI x))) (h0 := y.2) ok t1 t2 hG g2 hX e5 e3 (tS T (kT x)) 0 y.2 0 (by omega) rfl (hT.kq (y1.kq rfl)) (gc.kq (y1.kq rfl)) ry tmc (fq_rfl _ _ _)
  refine sat_mono H fun z hz => ⟨(y1.up rfl rfl).tr hz.1, ?_⟩
  rw [← eR]
  exact hz.2
theorem c_goes52 {T : Nat → Nat → Nat → Nat} {L : List Nat} {G : Nat → Nat → Int} {m x : Nat} (ok : tOk T) (hL : tList T L) (hxL : x ∈ L) (hgo : kGo x = 1) (hG : G 7 0 = m) {X : Nat → Nat → Int} {b : Int} (hX : XOk T m (fun _ => b) X) (hb : b ≤ 999) {x1 x2 : Int32} (e1 : x1.toInt = x) (e2 : x2.toInt = kMin x) {h : ea_H} (g : gCx T L G h) (rc : RC52 m X h) (rn : RN m X h) :
    sat (qX1_goes_at52 x1 x2 h) fun y => fq [(22, 22), (51, 51), (53, 61)] [((52, 52), 10, 10), ((76, 315), 16, 17)] h y.2 ∧ RC52 m (evX T L G x X) y.2 ∧ RN m (evX T L G x X) y.2 ∧ MkR m X (kC x) h (evX T L G x X) y.2 := by
  have hxk := (hL.2 x).mp hxL
  obtain ⟨t1, t2, t3, t4, t5, t6, t7, t8⟩ := t_bounds ok hxk
  have hm2 : (G 7 0).toNat = m := by omega
  have hev : evX T L G x X = (soK T G (kR x) (kT x) (if G 3 (8 * kR x + kI x) = 0 then bdF T L G x X m else X, sTm T G (kT x) (kI x)) 8).1 := by
    unfold evX goX
    rw [if_pos hgo, hm2]
  rw [hev]
  obtain ⟨t, i, d, a1, a2, a3, b1, b2, b3, b4, b5⟩ := c_run e1 t1 t2 h
  have ics : ((8 : Int32) * t + i).toNatClampNeg = 8 * kT x + kI x := by
    rw [n_idx, b5]
    rfl
  obtain ⟨m2, s, ⟨g1, g2, g3, g4, g5⟩, gb, gm, gd⟩ := id g.2.2.1
  obtain ⟨M, M1, M2, M3⟩ := gm (kR x) t7
  have M4 := M3 (kI x) t3
  have vW : (ea_i h 7 (8 * kT x + kI x)).toInt = kA (tW T) x := (g.2.1.2.2.1 _ _ t1 t3).1
  have icw : (ea_i h 7 (8 * kT x + kI x)).toNatClampNeg = kA (tW T) x := by
    rw [n_idx, vW]
    rfl
  have c8 := rc.2.2.2.1 (kA (tW T) x) t5
  have bb : ∀ Y, (Y = if G 3 (8 * kR x + kI x) = 0 then bdF T L G x X m else X) → XOk T m (fun _ => b + 1) Y := by
    intro Y hY
    rw [hY]
    split
    · exact XOk_all (bdF_ok ok hL hxL hgo hX m (Nat.le_refl _)) (by omega)
    · exact fun l hl => XL_up (by show b ≤ b + 1; omega) (hX l hl)
  -- behind the boarding
  have rest : ∀ (h1 : ea_H) (Y : Nat → Nat → Int), (Y = if G 3 (8 * kR x + kI x) = 0 then bdF T L G x X m else X) → fq [(51, 51), (53, 61)] [((52, 52), 10, 10), ((76, 315), 16, 17)] h h1 → RC52 m Y h1 → RN m Y h1 → MkR m X (kC x) h Y h1 → sat (qX1_goes_at52_168 t i ((10 : Int32) * d + t) h1) fun y => fq [(22, 22), (51, 51), (53, 61)] [((52, 52), 10, 10), ((76, 315), 16, 17)] h y.2 ∧ RC52 m (soK T G (kR x) (kT x) (if G 3 (8 * kR x + kI x) = 0 then bdF T L G x X m else X, sTm T G (kT x) (kI x)) 8).1 y.2 ∧ RN m (soK T G (kR x) (kT x) (if G 3 (8 * kR x + kI x) = 0 then bdF T L G x X m else X, sTm T G (kT x) (kI x)) 8).1 y.2 ∧ MkR m X (kC x) h (soK T G (kR x) (kT x) (if G 3 (8 * kR x + kI x) = 0 then bdF T L G x X m else X, sTm T G (kT x) (kI x)) 8).1 y.2 := by
    intro h1 Y hY f1 rc1 rn1 mk1
    rw [← hY]
    refine sat_mono (c_go16852 ok hxk hgo hG (bb Y hY) b1 b2 b4 (gCx_fq f1 rfl rfl rfl g) rc1 rn1) fun y hy => ?_
    obtain ⟨y1, y2⟩ := hy
    refine ⟨(f1.up rfl rfl).tr (y1.up rfl rfl), y2, ⟨fun l hl => ?_, fun l hl hl2 => by rw [y1.C (76 + 2 * l) (inB_sub (A := [(22, 62)]) rfl _ (inB_no (by omega))) rfl, y1.C 56 rfl rfl]; exact ⟨(rn1.2 l hl hl2).1, (rn1.2 l hl hl2).2.1, fun c => (mkB_fq y1 rfl c l).trans ((rn1.2 l hl hl2).2.2 c)⟩⟩, fun c l hl => ?_⟩
    · have o1 : ∀ c, hI y.2 (76 + 2 * l) c = hI h1 (76 + 2 * l) c := fun c => y1.C (76 + 2 * l) (inB_sub (A := [(22, 62)]) rfl _ (inB_no (by omega))) rfl c
      rw [soK_f (by decide), soK_f (by decide), soK_f (by decide), soK_f (by decide), o1, o1]
      exact rn1.1 l hl
    · rw [mkB_fq y1 rfl, soK_f (by decide)]
      exact mk1 c l hl
  unfold qX1_goes_at52
  refine uqX1_goes_at52_0 ?_
  unfold BX1_goes_at52_0
  refine sat_call a1 (sat_call a2 (sat_call a3 (sat_sub ?_)))
  dsimp only
  rw [ics]
  refine sat_gd (vp80 b5 (by omega)) (sat_sub ?_)
  rw [icw]
  refine sat_gd (vp80 vW t5) (sat_ite (fun c => ?_) fun c => ?_)
  · rw [n_le, hI_eq, c8, l_0] at c
    refine rest h X ?_ (fq_rfl _ _ _) rc rn (MkR_rfl _ _ _ _)
    split
    · exact (bdF_none (fun l hl => cnt_zero (P := fun q => X 0 q = 0 ∧ X 1 q = ((kA (tW T) x : Nat) : Int)) c l hl) m (Nat.le_refl _)).symm
    · rfl
  obtain ⟨vm, pm, qm⟩ := c_isMissed b4 b2 (h := h) t7 t3 M1 M2
  refine sat_call pm (sat_eti (fun c2 => ?_) fun c2 => ?_)
  · refine rest h X ?_ (fq_rfl _ _ _) rc rn (MkR_rfl _ _ _ _)
    rw [if_neg]
    rcases qm with ⟨w1, w2⟩ | ⟨w1, w2⟩
    · omega
    · exact absurd w1 c2
  have c2 : vm = 0 := c2
  have hmis : G 3 (8 * kR x + kI x) = 0 := by
    rcases qm with ⟨w1, w2⟩ | ⟨w1, w2⟩
    · rw [c2] at w1
      exact absurd w1 (by decide)
    · omega
  refine c_go6652 (h0 := h) ok hL hxL hgo hG hX hb e1 e2 b4 vW g.1 (fun h1 f1 g1' r1 rn1 mk1 => rest h1 _ (by rw [if_pos hmis]) f1 r1 rn1 mk1) m 0 h 0 (by omega) rfl g.2.2.1 g.2.2.2.2 rc rn (MkR_rfl _ _ _ _) (fq_rfl _ _ _)
theorem c_burn52 {T : Nat → Nat → Nat → Nat} {L : List Nat} {G : Nat → Nat → Int} {m day : Nat} (hG : G 7 0 = m) (hd1 : 1 ≤ day) (hd : day ≤ 6) {X : Nat → Nat → Int} {b : Int} (hX : XOk T m (fun _ => b) X) (hb : b ≤ 1000) {x1 : Int32} (e1 : x1.toInt = day) {h : ea_H} (g : gCx T L G h) (rc : RC52 m X h) (rn : RN m X h) :
    sat (qX1_burn_at52 x1 h) fun y => fq [(53, 61)] [((52, 52), 10, 10), ((76, 315), 16, 17)] h y.2 ∧ gCx T L G y.2 ∧ RC52 m (brF G day X m) y.2 ∧ RN m (brF G day X m) y.2 := by
  have H : ∀ (k j : Nat) (h1 : ea_H) (x2 : Int32), j + k = m → x2.toInt = j → gCx T L G h1 → RC52 m (brF G day X j) h1 → RN m (brF G day X j) h1 → fq [(53, 61)] [((52, 52), 10, 10), ((76, 315), 16, 17)] h h1 → sat (qX1_burn_at52_2 x1 x2 h1) fun y => fq [(53, 61)] [((52, 52), 10, 10), ((76, 315), 16, 17)] h y.2 ∧ gCx T L G y.2 ∧ RC52 m (brF G day X m) y.2 ∧ RN m (brF G day X m) y.2 := by
    intro k
    induction k with
    | zero =>
      intro j h1 x2 hk e2 g rc rn f
      have hjm : j = m := by omega
      subst hjm
      refine uqX1_burn_at52_2 ?_
      unfold BX1_burn_at52_2
      exact sat_pos (by rw [n_le, hI_eq, rc.1.1, e2]; omega) (sat_ret ⟨f, g, rc, rn⟩)
    | succ k ih =>
      intro j h1 x2 hk e2 g rc rn f
      have hj : j < m := by omega
      have hm := rc.1.2
      have hj' : j < 120 := by omega
      have gj := vp80 e2 hj'
      have ic : x2.toNatClampNeg = j := by
        rw [n_idx, e2]
        rfl
      have e21 := n_inc e2 (by omega)
      have XF := brF_ok (G := G) hd hX j
      have XO := XF j hj
      have hsx : brF G day X (j + 1) = brL G day (brF G day X j) j := rfl
      generalize brF G day X j = Y at *
      obtain ⟨k1, k2⟩ := ltr_ref g.1 hj'
      obtain ⟨m2, s, ⟨g1, g2, g3, g4, g5⟩, gb, -⟩ := id g.2.2.1
      have hm3 : m2 = m := by omega
      rw [hm3] at gb
      obtain ⟨-, -, d1, d2, d3⟩ := gb j hj
      have v1 : (ea_i h1 53 j).toInt = Y 0 j := (rc.2.1 j hj).1
      have v2 : (ea_i h1 54 j).toInt = Y 1 j := (rc.2.1 j hj).2.1
      have skip : ¬ brC G Y day j → sat (qX1_burn_at52_2 x1 (x2 + 1) h1) fun y => fq [(53, 61)] [((52, 52), 10, 10), ((76, 315), 16, 17)] h y.2 ∧ gCx T L G y.2 ∧ RC52 m (brF G day X m) y.2 ∧ RN m (brF G day X m) y.2 := by
        intro hc
        have e : brF G day X (j + 1) = Y := by
          rw [hsx]
          unfold brL
          exact if_neg hc
        refine ih (j + 1) h1 (x2 + 1) (by omega) e21 g ?_ ?_ f
        · rw [e]
          exact rc
        · rw [e]
          exact rn
      refine uqX1_burn_at52_2 ?_
      unfold BX1_burn_at52_2
      rw [ic, k1]
      refine sat_neg (by rw [n_le, hI_eq, rc.1.1, e2]; omega) (sat_gd gj (sat_eti (fun c => ?_) fun c => ?_))
      · rw [n_eq, v1, l_3] at c
        exact skip fun z => c z.1
      rw [n_eq, v1, l_3] at c
      obtain ⟨x0, -, -, x5, ⟨x7, x8⟩, x1', x2'⟩ := XO
      rw [c, if_pos (by decide)] at x8
      have x8 : Y 7 j + 1 ≤ b := x8
      have v7 : (ea_i h1 59 j).toInt = Y 5 j := (rc.2.1 j hj).2.2.2.2 (Or.inr c)
      have vd : (x1 - ea_i h1 59 j / (1440 : Int32)).toInt = (day : Int) - Y 5 j / 1440 := by
        rw [n_sub, n_div0 (m := 1440) (by omega) l_1440 (by decide), v7, e1, n_bm (by omega) (by omega)]
      have v14 : (ea_i h1 (76 + 2 * j) 14).toInt = G 2 j := d1
      refine sat_gd gj (sat_gd gj (sat_gd rfl (sat_gd k2 (sat_ite (fun c2 => ?_) fun c2 => ?_))))
      · have c2 : x1 - ea_i h1 59 j / (1440 : Int32) < ea_i h1 (76 + 2 * j) 14 := c2
        rw [n_lt, vd, v14] at c2
        exact skip fun z => by have := z.2; omega
      have c2 : ¬ x1 - ea_i h1 59 j / (1440 : Int32) < ea_i h1 (76 + 2 * j) 14 := c2
      rw [n_lt, vd, v14] at c2
      have hc : brC G Y day j := ⟨c, by omega⟩
      have e : brF G day X (j + 1) = mvX Y j (1440 * day) 6 (Y 1 j) := by
        rw [hsx]
        unfold brL
        exact if_pos hc
      have vm : (x1 * (1440 : Int32)).toInt = 1440 * (day : Int) := by
        rw [n_mul, e1, l_1440, n_bm (by omega) (by omega)]
        omega
      have MV := c_move52 (mn := 1440 * (day : Int)) (st := 6) (pl := Y 1 j) (x3 := 6) e2 vm rfl v2 g.1 hj rc (fun z => by omega) (fun z => by omega) (by decide) (by decide) (fun z => absurd z (by decide)) (fun z => absurd z (by decide)) x1' x2' (by omega) (by omega) (fun z => absurd z (by decide)) rn (fun l hl => by have w := (XF l hl).2.2.2.2.1; dsimp only at w; split at w <;> omega) (by omega)
      refine sat_gd gj (sat_bind MV fun y hy => ?_)
      obtain ⟨y1, y2, y3⟩ := hy
      refine ih (j + 1) y.2 (x2 + 1) (by omega) e21 (gCx_fq y1 rfl rfl rfl g) ?_ ?_ (f.tr (y1.up rfl rfl))
      · rw [e]
        exact y2
      · rw [e]
        exact y3
  unfold qX1_burn_at52
  refine uqX1_burn_at52_0 ?_
  unfold BX1_burn_at52_0
  exact H m 0 h 0 (by omega) rfl g rc rn (fq_rfl _ _ _)
theorem c_go16862 {T : Nat → Nat → Nat → Nat} {L : List Nat} {G : Nat → Nat → Int} {m x : Nat} (ok : tOk T) (hxk : tKey T x) (hgo : kGo x = 1) (hG : G 7 0 = m) {Y : Nat → Nat → Int} {B : Nat → Int} (hX : XOk T m B Y) {x3 x4 x5 : Int32} (e3 : x3.toInt = kT x) (e4 : x4.toInt = kI x) (e5 : x5.toInt = kR x) {h : ea_H} (g : gCx T L G h) (rc : RC62 m Y h) :
    sat (qX1_goes_at62_168 x3 x4 x5 h) fun y => fq [(22, 22), (67, 67)] [] h y.2 ∧ RC62 m (soK T G (kR x) (kT x) (Y, sTm T G (kT x) (kI x)) 8).1 y.2 := by
  obtain ⟨t1, t2, t3, t4, t5, t6, t7, t8⟩ := t_bounds ok hxk
  obtain ⟨hs, hT, gc, -, -⟩ := g
  obtain ⟨m2, s, ⟨g1, g2, g3, g4, g5⟩, gb, gm, gd⟩ := id gc
  have hst : kI x + 1 < tS T (kT x) := by
    rcases hxk.2.2.2 with ⟨z1, z2, z3, z4⟩ | ⟨z1, z2, z3⟩
    · omega
    · exact z2
  have ic5 : x5.toNatClampNeg = kR x := by
    rw [n_idx, e5]
    rfl
  have ic3 : x3.toNatClampNeg = kT x := by
    rw [n_idx, e3]
    rfl
  have c9 := rc.2.2.2.2.1 (kR x) t7
  have same : (∀ k, soK T G (kR x) (kT x) (Y, sTm T G (kT x) (kI x)) k = (Y, sTm T G (kT x) (kI x))) → sat (some ((), h)) fun y => fq [(22, 22), (67, 67)] [] h y.2 ∧ RC62 m (soK T G (kR x) (kT x) (Y, sTm T G (kT x) (kI x)) 8).1 y.2 := by
    intro e
    rw [e 8]
    exact sat_ret ⟨fq_rfl _ _ _, rc⟩
  refine uqX1_goes_at62_168 ?_
  unfold BX1_goes_at62_168
  rw [ic5]
  refine sat_gd (vp80 e5 t7) (sat_ite (fun c => ?_) fun c => ?_)
  · rw [n_le, hI_eq, c9, l_0] at c
    exact same (soK_none hG fun l hl => cnt_zero (P := fun k => Y 0 k = 1 ∧ Y 1 k = ((kR x : Nat) : Int)) c l hl)
  obtain ⟨v, p, q⟩ := c_sitsIn g2 e3 gc
  refine sat_call p (sat_ite (fun c2 => ?_) fun c2 => ?_)
  · refine same (soK_tm fun q2 => ?_)
    show sTm T G (kT x) (kI x) q2 ≤ 0
    unfold sTm
    split
    · rename_i w
      exact absurd w.2 (q c2 q2 (by omega))
    · exact Int.le_refl _
  have i0 : ((8 : Int32) * x3 + x4).toInt = 8 * (kT x : Int) + kI x := by simp (disch := omega) only [n_add, n_sub, n_mul, n_neg, n_bm, n_idx, n_if, hI_eq, l_m1000, l_m100, l_m60, l_m19, l_m18, l_m17, l_m16, l_m15, l_m14, l_m13, l_m12, l_m11, l_m10, l_m8, l_m1, l_0, l_1, l_2, l_3, l_4, l_5, l_6, l_7, l_8, l_9, l_10, l_11, l_12, l_13, l_14, l_15, l_16, l_17, l_18, l_19, l_20, l_21, l_24, l_25, l_32, l_40, l_41, l_42, l_43, l_45, l_47, l_48, l_57, l_59, l_60, l_61, l_62, l_63, l_64, l_65, l_70, l_80, l_90, l_97, l_99, l_100, l_120, l_122, l_127, l_144, l_150, l_201, l_202, l_203, l_204, l_205, l_206, l_207, l_255, l_300, l_364, l_480, l_560, l_600, l_601, l_620, l_840, l_900, l_980, l_999, l_1000, l_1023, l_1024, l_1220, l_1439, l_1440, l_2240, l_2400, l_3000, l_3600, l_4095, l_4096, l_7320, l_9999, l_10079, l_10080, l_12000, l_99999, l_120000, l_1000000, l_2147483647, e3, e4]
  have i1 : ((8 : Int32) * x3 + x4).toInt = ((8 * kT x + kI x : Nat) : Int) := by
    rw [i0]
    omega
  have ics : ((8 : Int32) * x3 + x4).toNatClampNeg = 8 * kT x + kI x := by
    rw [n_idx, i1]
    rfl
  have i2 : ((8 : Int32) * x3 + x4 + 1).toInt = ((8 * kT x + (kI x + 1) : Nat) : Int) := by
    rw [n_inc i1 (by omega)]
    rfl
  have ics2 : ((8 : Int32) * x3 + x4 + 1).toNatClampNeg = 8 * kT x + (kI x + 1) := by
    rw [n_idx, i2]
    rfl
  have vS : (ea_i h 6 (kT x)).toInt = tS T (kT x) := hT.2.1 _ t1
  have vC : (ea_i h 8 (8 * kT x + (kI x + 1))).toInt = tC T (kT x) (kI x + 1) := (hT.2.2.1 _ _ t1 (by omega)).2.1
  have vG : (ea_i h 9 (8 * kT x + kI x)).toInt = tG T (kT x) (kI x) := (hT.2.2.1 _ _ t1 t3).2.2
  have bc := ok.2.2.2.1 (kT x) (kI x + 1) t1 hst
  have bg := ok.2.2.2.1 (kT x) (kI x) t1 (by omega)
  have bs := ok.2.2.2.2.1 (kT x) (kI x) t1 hst
  have vd : (ea_i h 8 (8 * kT x + (kI x + 1)) - ea_i h 9 (8 * kT x + kI x)).toInt = (tC T (kT x) (kI x + 1) : Int) - tG T (kT x) (kI x) := by
    rw [n_sub, vC, vG, n_bm (by omega) (by omega)]
  refine sat_bind (?_ : sat (qX1_sort_at62 x5 x3 x4 h) fun y => fq [(22, 22), (67, 67)] [] h y.2 ∧ RC62 m (soK T G (kR x) (kT x) (Y, sTm T G (kT x) (kI x)) 8).1 y.2) fun y hy => sat_ret hy
  unfold qX1_sort_at62
  refine uqX1_sort_at62_0 ?_
  unfold BX1_sort_at62_0
  rw [ic3, ics, ics2]
  refine sat_gd (vp80 e3 t1) (sat_pos ?_ (sat_gd (vp80 i2 (by omega)) (sat_gd (vp80 i1 (by omega)) ?_)))
  · rw [n_lt, vS, n_inc e4 (by omega)]
    omega
  refine sat_bind (c_begin3 g2 (by omega) (by omega) vd gc) fun y hy => ?_
  obtain ⟨y1, y2⟩ := hy
  have ry : RC62 m Y y.2 := by
    obtain ⟨a0, a2, a3, a4, a5, a6, a7⟩ := rc
    refine ⟨by rw [y1.C 62 rfl rfl]; exact a0, fun l hl => ?_, fun r hr => ?_, fun a ha => ?_, fun r hr => ?_, ?_, fun k => or01 (y1.C 67 rfl rfl k) (a7 k)⟩
    · rw [y1.C 63 rfl rfl, y1.C 64 rfl rfl, y1.C 65 rfl rfl, y1.C 66 rfl rfl, y1.C 67 rfl rfl, y1.C 69 rfl rfl]
      exact a2 l hl
    · rw [y1.C 68 rfl rfl]
      exact a3 r hr
    · rw [y1.C 70 rfl rfl]
      exact a4 a ha
    · rw [y1.C 71 rfl rfl]
      exact a5 r hr
    · rw [y1.C 62 rfl rfl]
      exact a6
  have tmc : TMc G (kT x) s (sTm T G (kT x) (kI x)) y.2 := by
    refine ⟨fun q hq hg => ?_, fun q hq => ?_⟩
    · rw [y2 q hq]
      unfold sTm
      rw [if_pos ⟨by omega, hg⟩]
    · unfold sTm
      exact if_neg fun w => hq ⟨by omega, w.2⟩
  have eR : 10 * kD x + kT x = kR x := rfl
  have st := soK_stop (G := G) (d := kD x) t1 hG (Z := (Y, sTm T G (kT x) (kI x))) hX (8 - tS T (kT x))
  rw [show tS T (kT x) + (8 - tS T (kT x)) = 8 by omega, eR] at st
  rw [st]
  have H := c_sort5762 (Z := (Y, sTm T G (kT x) (kI x))) (h0 := y.2) ok t1 t2 hG g2 hX e5 e3 (tS T (kT x)) 0 y.2 0 (by omega) rfl (hT.kq (y1.kq rfl)) (gc.kq (y1.kq rfl)) ry tmc (fq_rfl _ _ _)
  refine sat_mono H fun z hz => ⟨(y1.up rfl rfl).tr hz.1, ?_⟩
  rw [← eR]
  exact hz.2
theorem c_goes62 {T : Nat → Nat → Nat → Nat} {L : List Nat} {G : Nat → Nat → Int} {m x : Nat} (ok : tOk T) (hL : tList T L) (hxL : x ∈ L) (hgo : kGo x = 1) (hG : G 7 0 = m) {X : Nat → Nat → Int} {b : Int} (hX : XOk T m (fun _ => b) X) (hb : b ≤ 999) {x1 x2 : Int32} (e1 : x1.toInt = x) (e2 : x2.toInt = kMin x) {h : ea_H} (g : gCx T L G h) (rc : RC62 m X h) :
    sat (qX1_goes_at62 x1 x2 h) fun y => fq [(22, 22), (63, 71)] [((62, 62), 10, 10)] h y.2 ∧ RC62 m (evX T L G x X) y.2 := by
  have hxk := (hL.2 x).mp hxL
  obtain ⟨t1, t2, t3, t4, t5, t6, t7, t8⟩ := t_bounds ok hxk
  have hm2 : (G 7 0).toNat = m := by omega
  have hev : evX T L G x X = (soK T G (kR x) (kT x) (if G 3 (8 * kR x + kI x) = 0 then bdF T L G x X m else X, sTm T G (kT x) (kI x)) 8).1 := by
    unfold evX goX
    rw [if_pos hgo, hm2]
  rw [hev]
  obtain ⟨t, i, d, a1, a2, a3, b1, b2, b3, b4, b5⟩ := c_run e1 t1 t2 h
  have ics : ((8 : Int32) * t + i).toNatClampNeg = 8 * kT x + kI x := by
    rw [n_idx, b5]
    rfl
  obtain ⟨m2, s, ⟨g1, g2, g3, g4, g5⟩, gb, gm, gd⟩ := id g.2.2.1
  obtain ⟨M, M1, M2, M3⟩ := gm (kR x) t7
  have M4 := M3 (kI x) t3
  have vW : (ea_i h 7 (8 * kT x + kI x)).toInt = kA (tW T) x := (g.2.1.2.2.1 _ _ t1 t3).1
  have icw : (ea_i h 7 (8 * kT x + kI x)).toNatClampNeg = kA (tW T) x := by
    rw [n_idx, vW]
    rfl
  have c8 := rc.2.2.2.1 (kA (tW T) x) t5
  have bb : ∀ Y, (Y = if G 3 (8 * kR x + kI x) = 0 then bdF T L G x X m else X) → XOk T m (fun _ => b + 1) Y := by
    intro Y hY
    rw [hY]
    split
    · exact XOk_all (bdF_ok ok hL hxL hgo hX m (Nat.le_refl _)) (by omega)
    · exact fun l hl => XL_up (by show b ≤ b + 1; omega) (hX l hl)
  -- behind the boarding
  have rest : ∀ (h1 : ea_H) (Y : Nat → Nat → Int), (Y = if G 3 (8 * kR x + kI x) = 0 then bdF T L G x X m else X) → fq [(63, 71)] [((62, 62), 10, 10)] h h1 → RC62 m Y h1 → sat (qX1_goes_at62_168 t i ((10 : Int32) * d + t) h1) fun y => fq [(22, 22), (63, 71)] [((62, 62), 10, 10)] h y.2 ∧ RC62 m (soK T G (kR x) (kT x) (if G 3 (8 * kR x + kI x) = 0 then bdF T L G x X m else X, sTm T G (kT x) (kI x)) 8).1 y.2 := by
    intro h1 Y hY f1 rc1
    rw [← hY]
    refine sat_mono (c_go16862 ok hxk hgo hG (bb Y hY) b1 b2 b4 (gCx_fq f1 rfl rfl rfl g) rc1) fun y hy => ?_
    obtain ⟨y1, y2⟩ := hy
    exact ⟨(f1.up rfl rfl).tr (y1.up rfl rfl), y2⟩
  unfold qX1_goes_at62
  refine uqX1_goes_at62_0 ?_
  unfold BX1_goes_at62_0
  refine sat_call a1 (sat_call a2 (sat_call a3 (sat_sub ?_)))
  dsimp only
  rw [ics]
  refine sat_gd (vp80 b5 (by omega)) (sat_sub ?_)
  rw [icw]
  refine sat_gd (vp80 vW t5) (sat_ite (fun c => ?_) fun c => ?_)
  · rw [n_le, hI_eq, c8, l_0] at c
    refine rest h X ?_ (fq_rfl _ _ _) rc
    split
    · exact (bdF_none (fun l hl => cnt_zero (P := fun q => X 0 q = 0 ∧ X 1 q = ((kA (tW T) x : Nat) : Int)) c l hl) m (Nat.le_refl _)).symm
    · rfl
  obtain ⟨vm, pm, qm⟩ := c_isMissed b4 b2 (h := h) t7 t3 M1 M2
  refine sat_call pm (sat_eti (fun c2 => ?_) fun c2 => ?_)
  · refine rest h X ?_ (fq_rfl _ _ _) rc
    rw [if_neg]
    rcases qm with ⟨w1, w2⟩ | ⟨w1, w2⟩
    · omega
    · exact absurd w1 c2
  have c2 : vm = 0 := c2
  have hmis : G 3 (8 * kR x + kI x) = 0 := by
    rcases qm with ⟨w1, w2⟩ | ⟨w1, w2⟩
    · rw [c2] at w1
      exact absurd w1 (by decide)
    · omega
  refine c_go6662 (h0 := h) ok hL hxL hgo hG hX hb e1 e2 b4 vW g.1 (fun h1 f1 g1' r1 => rest h1 _ (by rw [if_pos hmis]) f1 r1) m 0 h 0 (by omega) rfl g.2.2.1 g.2.2.2.2 rc (fq_rfl _ _ _)
theorem c_burn62 {T : Nat → Nat → Nat → Nat} {L : List Nat} {G : Nat → Nat → Int} {m day : Nat} (hG : G 7 0 = m) (hd1 : 1 ≤ day) (hd : day ≤ 6) {X : Nat → Nat → Int} {b : Int} (hX : XOk T m (fun _ => b) X) (hb : b ≤ 1000) {x1 : Int32} (e1 : x1.toInt = day) {h : ea_H} (g : gCx T L G h) (rc : RC62 m X h) :
    sat (qX1_burn_at62 x1 h) fun y => fq [(63, 71)] [((62, 62), 10, 10)] h y.2 ∧ gCx T L G y.2 ∧ RC62 m (brF G day X m) y.2 := by
  have H : ∀ (k j : Nat) (h1 : ea_H) (x2 : Int32), j + k = m → x2.toInt = j → gCx T L G h1 → RC62 m (brF G day X j) h1 → fq [(63, 71)] [((62, 62), 10, 10)] h h1 → sat (qX1_burn_at62_2 x1 x2 h1) fun y => fq [(63, 71)] [((62, 62), 10, 10)] h y.2 ∧ gCx T L G y.2 ∧ RC62 m (brF G day X m) y.2 := by
    intro k
    induction k with
    | zero =>
      intro j h1 x2 hk e2 g rc f
      have hjm : j = m := by omega
      subst hjm
      refine uqX1_burn_at62_2 ?_
      unfold BX1_burn_at62_2
      exact sat_pos (by rw [n_le, hI_eq, rc.1.1, e2]; omega) (sat_ret ⟨f, g, rc⟩)
    | succ k ih =>
      intro j h1 x2 hk e2 g rc f
      have hj : j < m := by omega
      have hm := rc.1.2
      have hj' : j < 120 := by omega
      have gj := vp80 e2 hj'
      have ic : x2.toNatClampNeg = j := by
        rw [n_idx, e2]
        rfl
      have e21 := n_inc e2 (by omega)
      have XF := brF_ok (G := G) hd hX j
      have XO := XF j hj
      have hsx : brF G day X (j + 1) = brL G day (brF G day X j) j := rfl
      generalize brF G day X j = Y at *
      obtain ⟨k1, k2⟩ := ltr_ref g.1 hj'
      obtain ⟨m2, s, ⟨g1, g2, g3, g4, g5⟩, gb, -⟩ := id g.2.2.1
      have hm3 : m2 = m := by omega
      rw [hm3] at gb
      obtain ⟨-, -, d1, d2, d3⟩ := gb j hj
      have v1 : (ea_i h1 63 j).toInt = Y 0 j := (rc.2.1 j hj).1
      have v2 : (ea_i h1 64 j).toInt = Y 1 j := (rc.2.1 j hj).2.1
      have skip : ¬ brC G Y day j → sat (qX1_burn_at62_2 x1 (x2 + 1) h1) fun y => fq [(63, 71)] [((62, 62), 10, 10)] h y.2 ∧ gCx T L G y.2 ∧ RC62 m (brF G day X m) y.2 := by
        intro hc
        have e : brF G day X (j + 1) = Y := by
          rw [hsx]
          unfold brL
          exact if_neg hc
        refine ih (j + 1) h1 (x2 + 1) (by omega) e21 g ?_ f
        · rw [e]
          exact rc
      refine uqX1_burn_at62_2 ?_
      unfold BX1_burn_at62_2
      rw [ic, k1]
      refine sat_neg (by rw [n_le, hI_eq, rc.1.1, e2]; omega) (sat_gd gj (sat_eti (fun c => ?_) fun c => ?_))
      · rw [n_eq, v1, l_3] at c
        exact skip fun z => c z.1
      rw [n_eq, v1, l_3] at c
      obtain ⟨x0, -, -, x5, ⟨x7, x8⟩, x1', x2'⟩ := XO
      rw [c, if_pos (by decide)] at x8
      have x8 : Y 7 j + 1 ≤ b := x8
      have v7 : (ea_i h1 69 j).toInt = Y 5 j := (rc.2.1 j hj).2.2.2.2 (Or.inr c)
      have vd : (x1 - ea_i h1 69 j / (1440 : Int32)).toInt = (day : Int) - Y 5 j / 1440 := by
        rw [n_sub, n_div0 (m := 1440) (by omega) l_1440 (by decide), v7, e1, n_bm (by omega) (by omega)]
      have v14 : (ea_i h1 (76 + 2 * j) 14).toInt = G 2 j := d1
      refine sat_gd gj (sat_gd gj (sat_gd rfl (sat_gd k2 (sat_ite (fun c2 => ?_) fun c2 => ?_))))
      · have c2 : x1 - ea_i h1 69 j / (1440 : Int32) < ea_i h1 (76 + 2 * j) 14 := c2
        rw [n_lt, vd, v14] at c2
        exact skip fun z => by have := z.2; omega
      have c2 : ¬ x1 - ea_i h1 69 j / (1440 : Int32) < ea_i h1 (76 + 2 * j) 14 := c2
      rw [n_lt, vd, v14] at c2
      have hc : brC G Y day j := ⟨c, by omega⟩
      have e : brF G day X (j + 1) = mvX Y j (1440 * day) 6 (Y 1 j) := by
        rw [hsx]
        unfold brL
        exact if_pos hc
      have vm : (x1 * (1440 : Int32)).toInt = 1440 * (day : Int) := by
        rw [n_mul, e1, l_1440, n_bm (by omega) (by omega)]
        omega
      have MV := c_move62 (mn := 1440 * (day : Int)) (st := 6) (pl := Y 1 j) (x3 := 6) e2 vm rfl v2 g.1 hj rc (fun z => by omega) (fun z => by omega) (by decide) (by decide) (fun z => absurd z (by decide)) (fun z => absurd z (by decide)) x1' x2' (by omega) (by omega) (fun z => absurd z (by decide))
      refine sat_gd gj (sat_bind MV fun y hy => ?_)
      obtain ⟨y1, y2⟩ := hy
      refine ih (j + 1) y.2 (x2 + 1) (by omega) e21 (gCx_fq y1 rfl rfl rfl g) ?_ (f.tr (y1.up rfl rfl))
      · rw [e]
        exact y2
  unfold qX1_burn_at62
  refine uqX1_burn_at62_0 ?_
  unfold BX1_burn_at62_0
  exact H m 0 h 0 (by omega) rfl g rc (fq_rfl _ _ _)
