/-! the reference: days begin; the happenings in their order -/
section LD
variable {T : Nat → Nat → Nat → Nat} {L : List Nat} {G : Nat → Nat → Int} {n m : Nat}
theorem m_begins (hG : G 7 0 = m) {day : Nat} (hd1 : 1 ≤ day) (hd : day ≤ 6) {X : Nat → Nat → Int} {b : Int} (hX : XOk T m (fun _ => b) X) (hb : b ≤ 1000) {x1 : Int32} (e1 : x1.toInt = ((1440 * day : Nat) : Int)) {h : ea_H} (g : gFy T L n G h) (r : RM0 m X h) (df : DFm m (fun _ => (day : Int) - 1) X h) :
    sat (qX12_begins x1 h) fun y => fq [(376, 377), (381, 390), (395, 395)] [] h y.2 ∧ gFy T L n G y.2 ∧ RM0 m (brF G day X m) y.2 ∧ DFm m (fun _ => (day : Int)) (brF G day X m) y.2 := by
  have H : ∀ (k j : Nat) (h1 : ea_H) (x2 : Int32), j + k = m → x2.toInt = j → gFy T L n G h1 → RM0 m (brF G day X j) h1 → DFm m (fun l => if l < j then (day : Int) else (day : Int) - 1) (brF G day X j) h1 → fq [(376, 377), (381, 390), (395, 395)] [] h h1 → sat (qX12_begins_2 x1 x2 h1) fun y => fq [(376, 377), (381, 390), (395, 395)] [] h y.2 ∧ gFy T L n G y.2 ∧ RM0 m (brF G day X m) y.2 ∧ DFm m (fun _ => (day : Int)) (brF G day X m) y.2 := by
    intro k
    induction k with
    | zero =>
      intro j h1 x2 hk e2 g r df f
      have hjm : j = m := by omega
      subst hjm
      refine uqX12_begins_2 ?_
      unfold BX12_begins_2
      refine sat_pos (by rw [n_le, hI_eq, r.1.1, e2]; omega) (sat_ret ⟨f, g, r, fun l hl hz => ?_⟩)
      have := df l hl hz
      dsimp only at this ⊢
      rw [if_pos hl] at this
      exact this
    | succ k ih =>
      intro j h1 x2 hk e2 g r df f
      have hj : j < m := by omega
      have hm := r.1.2
      have hj' : j < 120 := by omega
      have gj := vp80 e2 hj'
      have ic : x2.toNatClampNeg = j := by
        rw [n_idx, e2]
        rfl
      have e21 := n_inc e2 (by omega)
      have XO := brF_ok (G := G) hd hX j j hj
      dsimp only at XO
      have hs : brF G day X (j + 1) = brL G day (brF G day X j) j := rfl
      generalize brF G day X j = Y at *
      have v0 : (ea_i h1 381 j).toInt = Y 0 j := (r.2.1 j).1
      refine uqX12_begins_2 ?_
      unfold BX12_begins_2
      rw [ic]
      refine sat_neg (by rw [n_le, hI_eq, r.1.1, e2]; omega) (sat_gd gj (sat_eti (fun c => ?_) fun c => ?_))
      · rw [n_eq, v0, l_3] at c
        have e : brF G day X (j + 1) = Y := by
          rw [hs]
          unfold brL
          rw [if_neg fun z => c z.1]
        refine ih (j + 1) h1 (x2 + 1) (by omega) e21 g ?_ ?_ f
        · rw [e]
          exact r
        · rw [e]
          intro l hl hz
          have := df l hl hz
          dsimp only at this ⊢
          by_cases q : l = j
          · rw [q] at hz
            exact absurd hz c
          · by_cases w : l < j
            · rw [if_pos w] at this
              rw [if_pos (by omega)]
              exact this
            · rw [if_neg w] at this
              rw [if_neg (by omega)]
              exact this
      rw [n_eq, v0, l_3] at c
      obtain ⟨x0, -, -, x5, ⟨x7, x8⟩, x1', x2'⟩ := XO
      rw [c, if_pos (by decide)] at x8
      have dj := df j hj c
      dsimp only at dj
      rw [if_neg (Nat.lt_irrefl _)] at dj
      have dv : (ea_i h1 377 j).toInt = (day : Int) - 1 - Y 5 j / 1440 := dj
      have dv1 : (ea_i h1 377 j + 1).toInt = (day : Int) - Y 5 j / 1440 := by
        rw [n_add, dv, l_1, n_bm (by omega) (by omega)]
        omega
      refine sat_gd gj (sat_gd gj (sat_let fun H4 q4 => sat_gd gj (sat_gd gj ?_)))
      have f4 : fq [(377, 377)] [] h1 H4 := q4 ▸ fq_wi rfl
      have g4 : gFy T L n G H4 := gFy_fq f4 rfl rfl rfl rfl g
      have r4 : RM0 m Y H4 := by
        obtain ⟨⟨p0, p1⟩, p2, p3, p4, p5⟩ := r
        refine ⟨⟨(f4.I 326 rfl 63 rfl).trans p0, p1⟩, fun k => ?_, fun l' hl2 hz => (f4.C 387 rfl rfl l').trans (p3 l' hl2 hz), fun t d ht hd => (f4.C 386 rfl rfl _).trans (p4 t d ht hd), fun k => or01 (f4.C 387 rfl rfl k) (p5 k)⟩
        rw [f4.C 381 rfl rfl, f4.C 382 rfl rfl, f4.C 383 rfl rfl, f4.C 384 rfl rfl, f4.C 385 rfl rfl, f4.C 376 rfl rfl, f4.C 388 rfl rfl, f4.C 389 rfl rfl, f4.C 390 rfl rfl]
        exact p2 k
      have v4 : ea_i H4 377 j = ea_i h1 377 j + 1 := by rw [q4, i_eq]
      rw [v4]
      have D4 : ∀ l, l < m → Y 0 l = 3 → hI H4 377 l = (if l < j + 1 then (day : Int) else (day : Int) - 1) - Y 5 l / 1440 := by
        intro l hl hz
        rw [q4, hI_row]
        by_cases q : l = j
        · rw [if_pos q, q, if_pos (by omega), dv1]
        · rw [if_neg q, df l hl hz]
          dsimp only
          by_cases w : l < j
          · rw [if_pos w, if_pos (by omega)]
          · rw [if_neg w, if_neg (by omega)]
      obtain ⟨m2, s, ⟨a1, a2, a3, a4, a5, a6⟩, gb, -⟩ := g4.1.2.2
      have hm2 : m2 = m := by omega
      rw [hm2] at gb
      obtain ⟨-, -, hdead⟩ := gb j hj
      have v385 : (ea_i H4 382 j).toInt = Y 1 j := (r4.2.1 j).2.1
      have go : ∀ sx0 : Int32, sx0.toInt = G 2 j → sat (qX12_begins_64 x1 x2 sx0 (ea_i h1 377 j + 1) H4) fun y => fq [(376, 377), (381, 390), (395, 395)] [] h y.2 ∧ gFy T L n G y.2 ∧ RM0 m (brF G day X m) y.2 ∧ DFm m (fun _ => (day : Int)) (brF G day X m) y.2 := by
        intro sx0 hs0
        refine uqX12_begins_64 ?_
        unfold BX12_begins_64
        rw [ic]
        refine sat_ite (fun c2 => ?_) fun c2 => ?_
        · rw [n_lt, dv1, hs0] at c2
          have e : brF G day X (j + 1) = Y := by
            rw [hs]
            unfold brL
            rw [if_neg fun z => by have := z.2; omega]
          refine ih (j + 1) H4 (x2 + 1) (by omega) e21 g4 ?_ ?_ (f.tr (f4.up rfl rfl))
          · rw [e]
            exact r4
          · rw [e]
            exact D4
        · rw [n_lt, dv1, hs0] at c2
          have hc : brC G Y day j := ⟨c, by omega⟩
          have e : brF G day X (j + 1) = mvX Y j (1440 * day) 6 (Y 1 j) := by
            rw [hs]
            unfold brL
            rw [if_pos hc]
          refine sat_gd gj (sat_bind (m_turns (mn := 1440 * (day : Int)) (st := 6) (pl := Y 1 j) e2 (by rw [e1]; omega) rfl v385 hj r4 x7 (by omega) (fun z => absurd z (by decide))) fun w hw => ?_)
          obtain ⟨fw, rw0⟩ := hw
          refine ih (j + 1) w.2 (x2 + 1) (by omega) e21 (gFy_fq fw rfl rfl rfl rfl g4) ?_ ?_ (f.tr ((f4.up rfl rfl).tr (fw.up rfl rfl)))
          · rw [e]
            exact rw0
          · rw [e]
            intro l hl hz
            rw [mvX_0] at hz
            rw [mvX_5, fw.C 377 rfl rfl]
            by_cases q : l = j
            · rw [if_pos q] at hz
              exact absurd hz (by decide)
            · rw [if_neg q] at hz
              rw [if_neg q]
              exact D4 l hl hz
      rcases hdead with ⟨z1, z2⟩ | ⟨a, z1, z2, z3, z4, z5⟩
      · exact sat_pos (n_eq.mpr (by rw [hI_eq, z1]; rfl)) (go 3 (by rw [z2]; rfl))
      · have za : (ea_i H4 373 j).toInt = a := z1
        have zc : (ea_i H4 373 j).toNatClampNeg = a := by
          rw [n_idx, za]
          rfl
        rw [zc]
        refine sat_neg (fun w => ?_) (sat_gd gj (sat_gd (vp80 za z2) (go _ z3)))
        rw [n_eq, za, l_m1] at w
        omega
  unfold qX12_begins
  refine uqX12_begins_0 ?_
  unfold BX12_begins_0
  refine H m 0 h 0 (by omega) rfl g r (fun l hl hz => ?_) (fq_rfl _ _ _)
  dsimp only
  rw [if_neg (Nat.not_lt_zero _)]
  exact df l hl hz
theorem m_l110 (hG : G 7 0 = m) {b : Int} (hb : b ≤ 1000) {up : Nat} (hup : up ≤ 10079) {x2 : Int32} (e2 : x2.toInt = up) {h0 : ea_H} :
    ∀ (k day : Nat) (X : Nat → Nat → Int) (h : ea_H) (x3 : Int32), 1 ≤ day → day + k = up / 1440 + 1 → x3.toInt = day → gFy T L n G h → XOk T m (fun _ => b) X → RM0 m X h → DFm m (fun _ => (day : Int) - 1) X h → fq [(376, 377), (381, 390), (395, 395)] [] h0 h → sat (qX12_leadsOn_110 x2 x3 h) fun y => fq [(376, 377), (381, 390), (395, 395)] [] h0 y.2 ∧ gFy T L n G y.2 ∧ RM0 m (brN G k day X) y.2 ∧ DFm m (fun _ => (up : Int) / 1440) (brN G k day X) y.2 := by
  intro k
  induction k with
  | zero =>
    intro day X h x3 hd hk e3 g hX r df f
    have p0 : ((1440 : Int32) * x3).toInt = 1440 * (day : Int) := by
      rw [n_mul, e3, l_1440, n_bm (by omega) (by omega)]
    refine uqX12_leadsOn_110 ?_
    unfold BX12_leadsOn_110
    refine sat_pos (by rw [n_lt, e2, p0]; omega) (sat_ret ⟨f, g, r, fun l hl hz => ?_⟩)
    have := df l hl hz
    dsimp only at this ⊢
    rw [this]
    show _ = _ - X 5 l / 1440
    omega
  | succ k ih =>
    intro day X h x3 hd hk e3 g hX r df f
    have hm2 : (G 7 0).toNat = m := by omega
    have p0 : ((1440 : Int32) * x3).toInt = 1440 * (day : Int) := by
      rw [n_mul, e3, l_1440, n_bm (by omega) (by omega)]
    have e : brN G (k + 1) day X = brN G k (day + 1) (brF G day X m) := by
      show brN G k (day + 1) (brF G day X (G 7 0).toNat) = _
      rw [hm2]
    refine uqX12_leadsOn_110 ?_
    unfold BX12_leadsOn_110
    refine sat_neg (by rw [n_lt, e2, p0]; omega) (sat_bind (m_begins hG hd (by omega) hX hb (by rw [p0]; omega) g r df) fun y hy => ?_)
    obtain ⟨y1, y2, y3, y4⟩ := hy
    rw [e]
    refine ih (day + 1) _ y.2 (x3 + 1) (by omega) (by omega) (n_inc e3 (by omega)) y2 (brF_ok (by omega) hX m) y3 (fun l hl hz => ?_) (f.tr y1)
    have := y4 l hl hz
    dsimp only at this ⊢
    rw [this]
    omega
theorem m_l49 (hG : G 7 0 = m) {e mi : Nat} (he : e < 1000) {b : Int} (hb : b ≤ 1000) (hmi : mi ≤ 10079) {x1 x2 x4 : Int32} (e4 : x4.toInt = e) {h0 : ea_H} {P : Unit × ea_H → Prop} {Z : Nat → Nat → Int} (hev : ∀ h, gFy T L n G h → hI h 336 e = mi)
    (K : ∀ (h : ea_H) (x3 : Int32), x3.toInt = ((mi / 1440 + 1 : Nat) : Int) → fq [(376, 377), (381, 390), (395, 395)] [] h0 h → gFy T L n G h → RM0 m Z h → DFm m (fun _ => (mi : Int) / 1440) Z h → sat (gd (vp_in x4 1000) (if ea_i h 337 x4.toNatClampNeg = (0 : Int32) then Option.bind (qX12_coming x4 h) fun w11 => qX12_leadsOn_15 x1 x2 x3 (x4 + (1 : Int32)) w11.2 else Option.bind (qX12_leaves x4 h) fun w10 => qX12_leadsOn_15 x1 x2 x3 (x4 + (1 : Int32)) w10.2)) P) :
    ∀ (k day : Nat) (X : Nat → Nat → Int) (h : ea_H) (x3 : Int32), 1 ≤ day → day + k = mi / 1440 + 1 → x3.toInt = day → gFy T L n G h → XOk T m (fun _ => b) X → RM0 m X h → DFm m (fun _ => (day : Int) - 1) X h → brN G k day X = Z → fq [(376, 377), (381, 390), (395, 395)] [] h0 h → sat (qX12_leadsOn_49 x1 x2 x3 x4 h) P := by
  have ic : x4.toNatClampNeg = e := by
    rw [n_idx, e4]
    rfl
  intro k
  induction k with
  | zero =>
    intro day X h x3 hd hk e3 g hX r df hZ f
    have p0 : ((1440 : Int32) * x3).toInt = 1440 * (day : Int) := by
      rw [n_mul, e3, l_1440, n_bm (by omega) (by omega)]
    refine uqX12_leadsOn_49 ?_
    unfold BX12_leadsOn_49
    have hZ : X = Z := hZ
    refine sat_gd (vp80 e4 he) (sat_pos (by rw [ic, n_lt, hI_eq, hev h g, p0]; omega) ?_)
    refine K h x3 (by rw [e3]; omega) f g (hZ ▸ r) fun l hl hz => ?_
    have := df l hl (by rw [hZ]; exact hz)
    dsimp only at this ⊢
    rw [this, hZ]
    show _ = _ - Z 5 l / 1440
    omega
  | succ k ih =>
    intro day X h x3 hd hk e3 g hX r df hZ f
    have hm2 : (G 7 0).toNat = m := by omega
    have p0 : ((1440 : Int32) * x3).toInt = 1440 * (day : Int) := by
      rw [n_mul, e3, l_1440, n_bm (by omega) (by omega)]
    have e : brN G (k + 1) day X = brN G k (day + 1) (brF G day X m) := by
      show brN G k (day + 1) (brF G day X (G 7 0).toNat) = _
      rw [hm2]
    refine uqX12_leadsOn_49 ?_
    unfold BX12_leadsOn_49
    refine sat_gd (vp80 e4 he) (sat_neg (by rw [ic, n_lt, hI_eq, hev h g, p0]; omega) (sat_bind (m_begins hG hd (by omega) hX hb (by rw [p0]; omega) g r df) fun y hy => ?_))
    obtain ⟨y1, y2, y3, y4⟩ := hy
    refine ih (day + 1) _ y.2 (x3 + 1) (by omega) (by omega) (n_inc e3 (by omega)) y2 (brF_ok (by omega) hX m) y3 (fun l hl hz => ?_) (e.symm.trans hZ) (f.tr y1)
    have := y4 l hl hz
    dsimp only at this ⊢
    rw [this]
    omega
theorem m_l15 (ok : tOk T) (hL : tList T L) (hG : G 7 0 = m) {bg up : Nat} (hup : up ≤ 10079) {x1 x2 : Int32} (e1 : x1.toInt = bg) (e2 : x2.toInt = up) {h0 : ea_H} :
    ∀ (k e cur : Nat) (b : Int) (X : Nat → Nat → Int) (h : ea_H) (x3 x4 : Int32), e + k = L.length → x4.toInt = e → (∀ j, e ≤ j → j < L.length → bg < kMin (L.getD j 0)) → (∀ j, e ≤ j → j < L.length → cur ≤ kMin (L.getD j 0)) → cur ≤ up → x3.toInt = ((cur / 1440 + 1 : Nat) : Int) → b + k ≤ 1000 → gFy T L n G h → XOk T m (fun _ => b) X → RM0 m X h → DFm m (fun _ => (cur : Int) / 1440) X h → fq [(376, 377), (381, 390), (395, 395)] [] h0 h →
      sat (qX12_leadsOn_15 x1 x2 x3 x4 h) fun y => fq [(376, 377), (381, 390), (395, 395)] [] h0 y.2 ∧ gFy T L n G y.2 ∧ RM0 m (caX T L G up (L.drop e) cur X) y.2 ∧ DFm m (fun _ => (up : Int) / 1440) (caX T L G up (L.drop e) cur X) y.2 := by
  have h9 := t_len2 ok hL
  intro k
  induction k with
  | zero =>
    intro e cur b X h x3 x4 hk e4 hbg hcur hcu e3 hb g hX r df f
    have he : e = L.length := by omega
    have ec : caX T L G up (L.drop e) cur X = brN G (up / 1440 - cur / 1440) (cur / 1440 + 1) X := by
      rw [List.drop_of_length_le (by omega)]
      rfl
    rw [ec]
    refine uqX12_leadsOn_15 ?_
    unfold BX12_leadsOn_15
    refine sat_pos (by rw [n_le, hI_eq, g.1.2.1.1, e4]; omega) ?_
    refine m_l110 hG (by omega : b ≤ 1000) hup e2 (up / 1440 - cur / 1440) (cur / 1440 + 1) X h x3 (by omega) (by omega) e3 g hX r (fun l hl hz => ?_) f
    have := df l hl hz
    dsimp only at this ⊢
    rw [this]
    omega
  | succ k ih =>
    intro e cur b X h x3 x4 hk e4 hbg hcur hcu e3 hb g hX r df f
    have he : e < L.length := by omega
    have ic : x4.toNatClampNeg = e := by
      rw [n_idx, e4]
      rfl
    have hxL := getD_mem he
    have hxk := (hL.2 _).mp hxL
    obtain ⟨t1, t2, t3, t4, t5, t6, t7, t8⟩ := t_bounds ok hxk
    have c1 := hbg e (Nat.le_refl _) he
    have c2 := hcur e (Nat.le_refl _) he
    have mv := (g.1.2.1.2 e he).1
    have df1 : DFm m (fun _ => ((cur / 1440 + 1 : Nat) : Int) - 1) X h := fun l hl hz => by
      have := df l hl hz
      dsimp only at this ⊢
      rw [this]
      omega
    refine uqX12_leadsOn_15 ?_
    unfold BX12_leadsOn_15
    rw [ic]
    refine sat_neg (by rw [n_le, hI_eq, g.1.2.1.1, e4]; omega) (sat_gd (vp80 e4 (by omega)) ?_)
    have ed : L.drop e = L.getD e 0 :: L.drop (e + 1) := drop_cons he
    by_cases cu : kMin (L.getD e 0) ≤ up
    case neg =>
      have ec : caX T L G up (L.drop e) cur X = brN G (up / 1440 - cur / 1440) (cur / 1440 + 1) X := by
        rw [ed]
        show (if kMin (L.getD e 0) ≤ up then _ else _) = _
        rw [if_neg cu]
      rw [ec]
      refine sat_pos (by rw [n_lt, hI_eq, mv, e2]; omega) ?_
      exact m_l110 hG (by omega : b ≤ 1000) hup e2 (up / 1440 - cur / 1440) (cur / 1440 + 1) X h x3 (by omega) (by omega) e3 g hX r df1 f
    have ec : caX T L G up (L.drop e) cur X = caX T L G up (L.drop (e + 1)) (kMin (L.getD e 0)) (evX T L G (L.getD e 0) (brN G (kMin (L.getD e 0) / 1440 - cur / 1440) (cur / 1440 + 1) X)) := by
      rw [ed]
      show (if kMin (L.getD e 0) ≤ up then _ else _) = _
      rw [if_pos cu]
    rw [ec]
    have hdiv : cur / 1440 ≤ kMin (L.getD e 0) / 1440 := Nat.div_le_div_right c2
    have XB := brN_ok (G := G) (T := T) (m := m) (B := fun _ => b) (kMin (L.getD e 0) / 1440 - cur / 1440) (cur / 1440 + 1) X (by omega) hX
    refine sat_neg (by rw [n_lt, hI_eq, mv, e2]; omega) (sat_gd (vp80 e4 (by omega)) (sat_pos (by rw [n_lt, hI_eq, mv, e1]; omega) ?_))
    refine m_l49 (b := b) (mi := kMin (L.getD e 0)) hG (by omega) (by omega) t6 e4 (fun h2 g2 => (g2.1.2.1.2 e he).1) (fun h2 x3' e3' f2 g2 r2 df2 => ?_) (kMin (L.getD e 0) / 1440 - cur / 1440) (cur / 1440 + 1) X h x3 (by omega) (by omega) e3 g hX r df1 rfl f
    have kv := (g2.1.2.1.2 e he).2.1
    have nxt : ∀ (h3 : ea_H), fq [(376, 377), (381, 390), (395, 395)] [] h2 h3 → gFy T L n G h3 → RM0 m (evX T L G (L.getD e 0) (brN G (kMin (L.getD e 0) / 1440 - cur / 1440) (cur / 1440 + 1) X)) h3 → DFm m (fun _ => ((kMin (L.getD e 0) : Nat) : Int) / 1440) (evX T L G (L.getD e 0) (brN G (kMin (L.getD e 0) / 1440 - cur / 1440) (cur / 1440 + 1) X)) h3 → sat (qX12_leadsOn_15 x1 x2 x3' (x4 + 1) h3) fun y => fq [(376, 377), (381, 390), (395, 395)] [] h0 y.2 ∧ gFy T L n G y.2 ∧ RM0 m (caX T L G up (L.drop (e + 1)) (kMin (L.getD e 0)) (evX T L G (L.getD e 0) (brN G (kMin (L.getD e 0) / 1440 - cur / 1440) (cur / 1440 + 1) X))) y.2 ∧ DFm m (fun _ => (up : Int) / 1440) (caX T L G up (L.drop (e + 1)) (kMin (L.getD e 0)) (evX T L G (L.getD e 0) (brN G (kMin (L.getD e 0) / 1440 - cur / 1440) (cur / 1440 + 1) X))) y.2 := by
      intro h3 f3 g3 r3 df3
      refine ih (e + 1) (kMin (L.getD e 0)) (b + 1) _ h3 x3' (x4 + 1) (by omega) (n_inc e4 (by omega)) (fun j hj hj2 => hbg j (by omega) hj2) (fun j hj hj2 => ?_) cu e3' (by omega) g3 (evX_ok ok hL hxL hG XB) r3 df3 (f2.tr f3)
      exact k_min_le (Nat.le_of_lt (getD_lt hL.1 (by omega) hj2))
    refine sat_gd (vp80 e4 (by omega)) ?_
    rw [ic]
    refine sat_ite (fun c => ?_) fun c => ?_
    · rw [n_eq, hI_eq, kv, l_0] at c
      refine sat_bind (m_coming (n := n) ok hL he (by omega) hG XB (by omega) (fun _ => rfl) e4 g2.1 r2 df2) fun w hw => ?_
      obtain ⟨w1, w2, w3, w4⟩ := hw
      exact nxt w.2 (w1.up rfl rfl) (gFy_fq w1 rfl rfl rfl rfl g2) w3 w4
    · rw [n_eq, hI_eq, kv, l_0] at c
      have hg1 : kGo (L.getD e 0) = 1 := by
        have := kGo_lt (L.getD e 0)
        omega
      refine sat_bind (m_leaves ok hL he hg1 hG XB (by omega) e4 g2 r2 df2) fun w hw => ?_
      obtain ⟨w1, w2, w3, w4⟩ := hw
      exact nxt w.2 w1 w2 w3 w4
/-- the first place behind a minute -/
def fstB (L : List Nat) (mi p : Nat) : Prop := p ≤ L.length ∧ ∀ j, j < L.length → (j < p ↔ kMin (L.getD j 0) ≤ mi)
theorem m_leadsOn (ok : tOk T) (hL : tList T L) (hG : G 7 0 = m) {bg up p : Nat} (hbu : bg ≤ up) (hup : up ≤ 10079) (hp : fstB L bg p) {x1 x2 : Int32} (e1 : x1.toInt = bg) (e2 : x2.toInt = up) {b : Int} {X : Nat → Nat → Int} (hb : b + ((L.length - p : Nat) : Int) ≤ 1000) {h : ea_H} (hX : XOk T m (fun _ => b) X) (g : GM n G h) (hM : MTab h T) (hn : n ≤ 12) (hn1 : hI h 326 1 = n) (hk : SWyM h T n) (r : RM0 m X h) (df : DFm m (fun _ => (bg : Int) / 1440) X h) :
    sat (qX12_leadsOn x1 x2 h) fun y => fq [(336, 346), (376, 377), (381, 390), (395, 395)] [((326, 326), 12, 13)] h y.2 ∧ gFy T L n G y.2 ∧ RM0 m (caX T L G up (L.drop p) bg X) y.2 ∧ DFm m (fun _ => (up : Int) / 1440) (caX T L G up (L.drop p) bg X) y.2 := by
  have h9 := t_len2 ok hL
  have hk2 : hI h 326 12 = 0 ∨ hI h 326 12 = 1 ∧ WaysM T L n h := by
    rcases hk with q | ⟨q1, q2⟩
    · exact Or.inl q
    · exact Or.inr ⟨q1, q2 L hL⟩
  unfold qX12_leadsOn
  refine uqX12_leadsOn_0 ?_
  unfold BX12_leadsOn_0
  refine sat_bind (m_table ok hL hn hM hn1 hk2) fun y hy => ?_
  obtain ⟨f, k1, wm⟩ := hy
  have gy : gFy T L n G y.2 := ⟨⟨hM.fq f rfl rfl ⟨rfl, rfl⟩ ⟨rfl, rfl⟩ ⟨rfl, rfl⟩ ⟨rfl, rfl⟩ ⟨rfl, rfl⟩, wm.1, g.kq (f.kq rfl)⟩, k1, (f.I 326 rfl 1 rfl).trans hn1, hn, wm⟩
  have ry : RM0 m X y.2 := by
    obtain ⟨⟨p0, p1⟩, p2, p3, p4, p5⟩ := r
    refine ⟨⟨(f.I 326 rfl 63 rfl).trans p0, p1⟩, fun k => ?_, fun l' hl2 hz => (f.C 387 rfl rfl l').trans (p3 l' hl2 hz), fun t d ht hd => (f.C 386 rfl rfl _).trans (p4 t d ht hd), fun k => or01 (f.C 387 rfl rfl k) (p5 k)⟩
    rw [f.C 381 rfl rfl, f.C 382 rfl rfl, f.C 383 rfl rfl, f.C 384 rfl rfl, f.C 385 rfl rfl, f.C 376 rfl rfl, f.C 388 rfl rfl, f.C 389 rfl rfl, f.C 390 rfl rfl]
    exact p2 k
  have dy : DFm m (fun _ => (bg : Int) / 1440) X y.2 := fun l hl hz => (f.C 377 rfl rfl l).trans (df l hl hz)
  have v2 : (x1 / (1440 : Int32) + 1).toInt = ((bg / 1440 + 1 : Nat) : Int) := by
    have := n_div0 (x := x1) (y := (1440 : Int32)) (m := 1440) (by omega) l_1440 (by decide)
    rw [n_add, this, e1, l_1, n_bm (by omega) (by omega)]
    omega
  refine sat_sub ?_
  have skip : ∀ (k e : Nat) (x4 : Int32), e + k = p → x4.toInt = e → sat (qX12_leadsOn_15 x1 x2 (x1 / (1440 : Int32) + 1) x4 y.2) fun z => fq [(336, 346), (376, 377), (381, 390), (395, 395)] [((326, 326), 12, 13)] h z.2 ∧ gFy T L n G z.2 ∧ RM0 m (caX T L G up (L.drop p) bg X) z.2 ∧ DFm m (fun _ => (up : Int) / 1440) (caX T L G up (L.drop p) bg X) z.2 := by
    intro k
    induction k with
    | zero =>
      intro e x4 hk e4
      have hep : e = p := by omega
      subst hep
      refine sat_mono (m_l15 (h0 := y.2) ok hL hG hup e1 e2 (L.length - e) e bg b X y.2 _ x4 (by have := hp.1; omega) e4 (fun j hj hj2 => ?_) (fun j hj hj2 => ?_) hbu v2 hb gy hX ry dy (fq_rfl _ _ _)) fun z hz => ⟨(f.up rfl rfl).tr (hz.1.up rfl rfl), hz.2⟩
      · have := hp.2 j hj2
        omega
      · have := hp.2 j hj2
        omega
    | succ k ih =>
      intro e x4 hk e4
      have hep := hp.1
      have he : e < L.length := by omega
      have ic : x4.toNatClampNeg = e := by
        rw [n_idx, e4]
        rfl
      have mv := (gy.1.2.1.2 e he).1
      have := (hp.2 e he).mp (by omega)
      refine uqX12_leadsOn_15 ?_
      unfold BX12_leadsOn_15
      rw [ic]
      refine sat_neg (by rw [n_le, hI_eq, gy.1.2.1.1, e4]; omega) (sat_gd (vp80 e4 (by omega)) (sat_neg (by rw [n_lt, hI_eq, mv, e2]; omega) (sat_gd (vp80 e4 (by omega)) (sat_neg (by rw [n_lt, hI_eq, mv, e1]; omega) (ih (e + 1) (x4 + 1) (by omega) (n_inc e4 (by omega)))))))
  exact skip p 0 0 (by omega) rfl
end LD
