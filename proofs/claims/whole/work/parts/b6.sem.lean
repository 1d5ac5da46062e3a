/-! one comparison, and all of them -/
noncomputable def CmpT (x1 x2 x3 v : Int32) (h : ea_H) : Option (Int32 × ea_H) := Option.bind (qX6_readSum v h) fun w2 => if w2.1 = (0 : Int32) then some ((0 : Int32), w2.2) else Option.bind (qX6_comparison w2.2) fun w3 => if w3.1 = ((-1) : Int32) then Option.bind (qX6_refuse (1 : Int32) w3.2) fun w10 => gd (w10.1 = 0 ∨ w10.1 = 1) (some (w10.1, w10.2)) else Option.bind (qX6_step w3.2) fun w4 => Option.bind (qX6_readSum v w4.2) fun w5 => if w5.1 = (0 : Int32) then some ((0 : Int32), w5.2) else Option.bind (qX6_put w3.1 w5.2) fun w6 => if (v - v / (2 : Int32) * (2 : Int32)) = (1 : Int32) then Option.bind (qX6_put ((-17) : Int32) w6.2) fun w7 => qX6_readWhen_90 x1 x2 x3 w7.2 else qX6_readWhen_90 x1 x2 x3 w6.2
section CM
variable {b : Nat → Int} {n c e e0 u u0 s s0 dep j k3 : Nat} {hA hB kA kB gA gB : ea_H} {bo an : Bool} {x1 x2 x3 v : Int32}
theorem p_cmp (ac : WAcc b n c e0 u0 s0 gA gB bo an hA hB e u s) (j8 : j ≤ 8) (ev : v.toInt = j) (f1 : fq [] [((24, 24), 6, 7)] hA kA) (f2 : fq [] [((326, 326), 53, 56), ((326, 326), 60, 60)] hB kB) (p1 : PrC kA b n c (e + j) u) (p2 : PrM kB b n (e + j) s j) (kn : paK b n (paS b n (e + j)) ≠ 15) (hx1 : x1.toInt = bo.toNat) (hx2 : x2.toInt = 16 ↔ an = true) (hx3 : x3.toInt = k3) (hk3 : k3 ≤ e)
    (IH : ∀ (bo an : Bool) (x1 x2 x3 : Int32) (hA hB : ea_H) (e' u s k3 : Nat), e < e' → x1.toInt = bo.toNat → (x2.toInt = 16 ↔ an = true) → x3.toInt = k3 → k3 ≤ e' → WAcc b n c e0 u0 s0 gA gB bo an hA hB e' u s → sat (qX6_readWhen_7 x1 x2 x3 hA) fun y => sat (qX12_one hB) fun z => WAll b n c e0 u0 s0 gA gB bo an y z) :
    sat (qX12_one_0 dep kB) fun z => (z.1 = 0 ∧ sat (CmpT x1 x2 x3 v kA) fun y => WAll b n c e0 u0 s0 gA gB bo an y ((0 : Int32), z.2)) ∨ (z.1 = 1 ∧ ∃ e' s', s' + j ≤ 610 ∧ PrM z.2 b n e' s' j ∧ ∀ z2, fq [(361, 361)] [((326, 326), 45, 45), ((326, 326), 60, 60)] z.2 z2 → PrM z2 b n e' (s' + j) 0 → (∀ i, i < j → Sf z2 (s' + i) = (15, 0)) → (∀ i, i < s' → Sf z2 i = Sf z.2 i) → sat (CmpT x1 x2 x3 v kA) fun y => WAll b n c e0 u0 s0 gA gB bo an y ((1 : Int32), z2)) := by
  obtain ⟨a1, a2, a3, a4, ⟨a5, a5b, a5c, a5d, a5e⟩, a6, a7, _, _, _, _, a8, a9, -⟩ := id ac
  have n6 := p1.1
  have cn := p1.2.1.2.1
  have e1c := p1.2.2.1
  have fA1 : pFA gA kA := a1.tr (f1.up rfl rfl)
  have fB1 : pFB gB kB := a2.tr (f2.up rfl rfl)
  have C1 : ∀ p, p < u0 → cd kA p = cd gA p := fun p hp => (cd_fq f1 rfl p).trans (a6 p hp)
  have hu0 : u0 ≤ u := by omega
  obtain ⟨y2, ey2, z2, ez2, r2⟩ := p_sums b n c (8 - j) j 40 40 (by omega) (by omega) (by omega) v kA kB (e + j) u s ev ⟨p1, p2, by omega, by omega, j8⟩
  refine uqX12_one_0 ?_
  unfold BX12_one_0
  refine sat_neg (p2.no (j := 15) rfl (by decide) (by decide) kn) (sat_call ez2 ?_)
  rcases r2 with r | ⟨ry, rz, e1', u1', s1', F, g⟩
  · refine sat_pos r.2.1 (sat_ret (Or.inl ⟨rfl, ?_⟩))
    unfold CmpT
    exact sat_call ey2 (sat_pos r.1 (sat_ret (Or.inl ⟨rfl, rfl, fA1.tr r.2.2.1, fB1.tr r.2.2.2.1, r.2.2.2.2.1, r.2.2.2.2.2.tr (by omega) C1⟩)))
  obtain ⟨g1, g2, g3, g4, g5, g6, g7, ⟨g8, g8b, g8c, g8d, -⟩, g9, g10, g11, g12, g13⟩ := g
  have le1 := g8.2.2.1
  have fA2 : pFA gA y2.2 := fA1.tr g1
  have fB2 : pFB gB z2.2 := fB1.tr g2
  have C2 : ∀ p, p < u0 → cd y2.2 p = cd gA p := fun p hp => (g9 p (by omega)).trans (C1 p hp)
  have v7 : (ea_i y2.2 24 7).toInt = paK b n (paS b n e1') := g8.2.2.2.2.1
  have go : ∀ x x' : Int32, paK b n (paS b n e1') ≠ 19 → qX6_comparison y2.2 = some (x, y2.2) → (x = -14 ∨ x = -15 ∨ x = -16) → 8 ≤ x'.toInt → x'.toInt ≠ 11 → x'.toInt ≠ 15 → (∀ a b : Int32, jn x a b = bt2 x' a b) → sat (qX12_one_96 dep x' z2.2) fun z => (z.1 = 0 ∧ sat (CmpT x1 x2 x3 v kA) fun y => WAll b n c e0 u0 s0 gA gB bo an y ((0 : Int32), z.2)) ∨ (z.1 = 1 ∧ ∃ e' s', s' + j ≤ 610 ∧ PrM z.2 b n e' s' j ∧ ∀ z2, fq [(361, 361)] [((326, 326), 45, 45), ((326, 326), 60, 60)] z.2 z2 → PrM z2 b n e' (s' + j) 0 → (∀ i, i < j → Sf z2 (s' + i) = (15, 0)) → (∀ i, i < s' → Sf z2 i = Sf z.2 i) → sat (CmpT x1 x2 x3 v kA) fun y => WAll b n c e0 u0 s0 gA gB bo an y ((1 : Int32), z2)) := by
    intro x x' k19 hq hx y1 y2' y3 hj
    have xm : ¬ x = -1 := by rcases hx with rfl | rfl | rfl <;> decide
    have xa : -19 ≤ x.toInt ∧ x.toInt ≤ -10 ∧ x.toInt ≠ -17 := by rcases hx with rfl | rfl | rfl <;> decide
    obtain ⟨y4, ey4, f4, p4⟩ := c_step g8 k19
    obtain ⟨z4, ez4, h4, q4⟩ := m_next g8b
    obtain ⟨y5, ey5, z5, ez5, r5⟩ := p_sums b n c (8 - j) j 40 40 (by omega) (by omega) (by omega) v y4.2 z4.2 (e1' + 1) u1' s1' ev ⟨p4, q4, by omega, by omega, j8⟩
    refine uqX12_one_96 ?_
    unfold BX12_one_96
    refine sat_neg (fun q => by rw [q] at y1; exact absurd y1 (by decide)) (sat_call ez4 (sat_call ez5 ?_))
    rcases r5 with r | ⟨ry5, rz5, e2, u2, s2, G, g'⟩
    · refine sat_pos r.2.1 (sat_ret (Or.inl ⟨rfl, ?_⟩))
      unfold CmpT
      exact sat_call ey2 (sat_neg (by rw [ry]; exact i1_ne_0) (sat_call hq (sat_neg xm (sat_call ey4 (sat_call ey5 (sat_pos r.1 (sat_ret (Or.inl ⟨rfl, rfl, (fA2.tr (f4.up rfl rfl)).tr r.2.2.1, (fB2.tr (h4.up rfl rfl)).tr r.2.2.2.1, r.2.2.2.2.1, r.2.2.2.2.2.tr (by omega) fun p hp => (cd_fq f4 rfl p).trans (C2 p hp)⟩))))))))
    obtain ⟨t1, t2, t3, t4, t5, t6, t7, ⟨t8, t8b, t8c, t8d, -⟩, t9, t10, t11, t12, t13⟩ := g'
    have le2 := t8.2.2.1
    have C5 : ∀ p, p < u1' → cd y5.2 p = cd y2.2 p := fun p hp => (t9 p hp).trans (cd_fq f4 rfl p)
    have S5 : ∀ i, i < s1' → Sf z5.2 i = Sf z2.2 i := fun i hi => (t10 i hi).trans (Sf_same h4 rfl rfl i)
    have J := j_bin (x := x) (x' := x') (d := 20) t8 t8b (by omega) (by omega) (g12.cg fun i _ w => C5 i w) t12 (g13.cg fun i _ w => S5 i w) t13 xa.1 xa.2.1 xa.2.2 y1 y2' y3 hj (by omega) (by omega)
    obtain ⟨y6, ey6, z6, ez6, j1, j2, j3, j4, j5, j6, j7, j8'⟩ := J
    refine sat_neg (by rw [rz5]; exact i1_ne_0) (sat_call ez6 (sat_ret (Or.inr ⟨rfl, e2, s2 + 1, by omega, j4, fun w fW qW hS hs => ?_⟩)))
    have bl : BL fun f => jn x (F f) (G f) := BL_cmp hx
    have frJ : FR fun f => jn x (F f) (G f) := FR_jn g11 t11
    have par : (v - v / (2 : Int32) * (2 : Int32)).toInt = ((j % 2 : Nat) : Int) := by
      rw [n_rem0 (m := 2) (by omega) l_2 (by decide), ev]
      rfl
    have fB6 : pFB hB w := ((((f2.up rfl rfl : pFB hB kB).tr g2).tr (h4.up rfl rfl)).tr t2).tr ((j2.up rfl rfl : pFB z5.2 z6.2).tr (fW.up rfl rfl))
    have fA6 : pFA hA y6.2 := ((((f1.up rfl rfl : pFA hA kA).tr g1).tr (f4.up rfl rfl)).tr t1).tr (j1.up rfl rfl)
    have C6 : ∀ p, p < u → cd y6.2 p = cd hA p := fun p hp => (((j5 p (by omega)).trans (C5 p (by omega))).trans (g9 p hp)).trans (cd_fq f1 rfl p)
    have S6 : ∀ i, i < s → Sf w i = Sf hB i := fun i hi => ((((hs i (by omega)).trans (j6 i (by omega))).trans (S5 i (by omega))).trans (g10 i hi)).trans (Sf_same f2 rfl rfl i)
    have mW : mB (Sf w) s (s2 + 1 + j) fun f => nt j (jn x (F f) (G f)) := mB_nots j (by omega) hS (j8'.cg fun i _ q => hs i q)
    have frN : FR fun f => nt j (jn x (F f) (G f)) := fun f g h => congrArg (nt j) (frJ f g h)
    have blN : BL fun f => nt j (jn x (F f) (G f)) := fun f => (nt_b (bl f) j).2
    have fin : ∀ (yA : ea_H) (u3 : Nat), pFA hA yA → u3 + e ≤ u + e2 → PrC yA b n c e2 u3 → (∀ p, p < u → cd yA p = cd hA p) → cB (cd yA) u u3 20 (fun f => nt j (jn x (F f) (G f))) → sat (qX6_readWhen_90 x1 x2 x3 yA) fun y => WAll b n c e0 u0 s0 gA gB bo an y ((1 : Int32), w) := by
      intro yA u3 w1 w2 w3 w4 w5
      have lu := w5.1
      refine sat_mono (p_after ac (C := fun f => nt j (jn x (F f) (G f))) ⟨w1, fB6, by omega, lu, w2, by omega, by omega, ⟨w3, qW, by omega, by omega, by omega⟩, w4, S6, frN, w5, mW⟩ blN hx1 hx2 hx3 hk3 fun bo an x1 x2 x3 hA hB e' u s k3 he => IH bo an x1 x2 x3 hA hB e' u s k3 (by omega)) fun y hy => Or.inr ⟨by show (1 : Int32) ≠ 0; decide, hy⟩
    unfold CmpT
    refine sat_call ey2 (sat_neg (by rw [ry]; exact i1_ne_0) (sat_call hq (sat_neg xm (sat_call ey4 (sat_call ey5 (sat_neg (by rw [ry5]; exact i1_ne_0) (sat_call ey6 ?_)))))))
    by_cases jo : j % 2 = 1
    · refine sat_pos (by rw [n_eq, par, jo]; rfl) (sat_bind (c_putP j3 (by omega) (x1 := -17) (by decide) (by decide)) fun y7 h7 => ?_)
      obtain ⟨w1, w2, w3, w4⟩ := h7
      refine fin y7.2 (u2 + 1 + 1) (fA6.tr (w1.up rfl rfl)) (by omega) w2 (fun p hp => (w4 p (by omega)).trans (C6 p hp)) ?_
      refine (cB_not (C := cd y7.2) (q := u2 + 1) (by omega) w3 (j7.cg fun i _ q => w4 i (by omega))).ext fun f => ?_
      rw [(nt_b (bl f) j).1, if_pos jo]
    · refine sat_neg (by rw [n_eq, par, l_1]; omega) (fin y6.2 (u2 + 1) fA6 (by omega) j3 C6 (j7.ext fun f => ?_))
      rw [(nt_b (bl f) j).1, if_neg jo]
  refine sat_neg (by rw [rz]; exact i1_ne_0) ?_
  by_cases k60 : paK b n (paS b n e1') = 60
  · refine sat_pos (g8b.yes (j := 60) rfl (by decide) (by decide) k60) (go (-14) 12 (by omega) ?_ (Or.inl rfl) (by decide) (by decide) (by decide) fun _ _ => rfl)
    unfold qX6_comparison BX6_comparison_0
    exact if_pos (by omega)
  refine sat_neg (g8b.no (j := 60) rfl (by decide) (by decide) k60) ?_
  by_cases k61 : paK b n (paS b n e1') = 61
  · refine sat_pos (g8b.yes (j := 61) rfl (by decide) (by decide) k61) (go (-15) 13 (by omega) ?_ (Or.inr (Or.inl rfl)) (by decide) (by decide) (by decide) fun _ _ => rfl)
    unfold qX6_comparison BX6_comparison_0
    exact (if_neg (by omega)).trans (if_pos (by omega))
  refine sat_neg (g8b.no (j := 61) rfl (by decide) (by decide) k61) ?_
  by_cases k62 : paK b n (paS b n e1') = 62
  · refine sat_pos (g8b.yes (j := 62) rfl (by decide) (by decide) k62) (go (-16) 14 (by omega) ?_ (Or.inr (Or.inr rfl)) (by decide) (by decide) (by decide) fun _ _ => rfl)
    unfold qX6_comparison BX6_comparison_0
    exact ((if_neg (by omega)).trans (if_neg (by omega))).trans (if_pos (by omega))
  refine sat_neg (g8b.no (j := 62) rfl (by decide) (by decide) k62) (uqX12_one_96 ?_)
  unfold BX12_one_96
  refine sat_pos rfl (sat_bind (m_bad g8b 1) fun z w => sat_gd (Or.inl w.1) (sat_ret (Or.inl ⟨w.1, ?_⟩)))
  have hq : qX6_comparison y2.2 = some (-1, y2.2) := by
    unfold qX6_comparison BX6_comparison_0
    exact ((if_neg (by omega)).trans (if_neg (by omega))).trans (if_neg (by omega))
  unfold CmpT
  refine sat_call ey2 (sat_neg (by rw [ry]; exact i1_ne_0) (sat_call hq (sat_pos rfl (sat_bind (c_refuse g8 1) fun y r => sat_gd (Or.inl r.1) (sat_ret (Or.inl ⟨rfl, r.1, ?_⟩))))))
  exact ref_bad fA2 fB2 (g8.ok9 C2 (by omega)) r ⟨rfl, w.2⟩ (by decide)
theorem p_when7 (b : Nat → Int) (n c e0 u0 s0 : Nat) (gA gB : ea_H) : ∀ (m : Nat) (bo an : Bool) (x1 x2 x3 : Int32) (hA hB : ea_H) (e u s k3 : Nat), c < e + m → x1.toInt = bo.toNat → (x2.toInt = 16 ↔ an = true) → x3.toInt = k3 → k3 ≤ e → WAcc b n c e0 u0 s0 gA gB bo an hA hB e u s → sat (qX6_readWhen_7 x1 x2 x3 hA) fun y => sat (qX12_one hB) fun z => WAll b n c e0 u0 s0 gA gB bo an y z := by
  intro m
  induction m with
  | zero =>
    intro bo an x1 x2 x3 hA hB e u s k3 hm hx1 hx2 hx3 hk ac
    have := ac.2.2.2.2.1.1.2.2.1
    omega
  | succ m ih =>
    intro bo an x1 x2 x3 hA hB e u s k3 hm hx1 hx2 hx3 hk ac
    obtain ⟨a1, a2, a3, a4, ⟨a5, a5b, a5c, a5d, a5e⟩, a6, a7, _, _, _, _, a8, a9, -⟩ := id ac
    have n6 := a5.1
    have cn := a5.2.1.2.1
    have ec := a5.2.2.1
    refine uqX6_readWhen_7 ?_
    unfold BX6_readWhen_7
    refine sat_neg (by rw [n_lt, hx3, l_600]; omega) (sat_bind (c_nots a5) fun y1 h1 => ?_)
    rcases h1 with ⟨j, j8, ej, hk15, hn, f1, p1⟩ | ⟨y0, hk15, f1, w1, w2⟩
    · refine sat_neg (by rw [n_eq, ej, l_m1]; omega) ?_
      show sat (CmpT x1 x2 x3 y1.1 y1.2) fun y => sat (qX12_one hB) fun z => WAll b n c e0 u0 s0 gA gB bo an y z
      refine sat_sw ?_
      unfold qX12_one
      refine m_one b n j e s 0 40 hB (fun z => sat (CmpT x1 x2 x3 y1.1 y1.2) fun y => WAll b n c e0 u0 s0 gA gB bo an y z) a5b (by omega) hk15 (by omega) fun h2 f2 p2 => ?_
      rw [Nat.zero_add] at p2 ⊢
      exact p_cmp ac j8 ej f1 f2 p1 p2 hn hx1 hx2 hx3 hk fun bo an x1 x2 x3 hA hB e' u s k3 he => ih bo an x1 x2 x3 hA hB e' u s k3 (by omega)
    · refine sat_pos y0 (sat_ret ?_)
      unfold qX12_one
      refine m_one b n 8 e s 0 40 hB (fun z => WAll b n c e0 u0 s0 gA gB bo an ((0 : Int32), y1.2) z) a5b (by omega) (fun i hi => hk15 i (by omega)) (by omega) fun h2 f2 p2 => ?_
      rw [Nat.zero_add] at p2
      refine uqX12_one_0 ?_
      unfold BX12_one_0
      refine sat_pos (p2.yes (j := 15) rfl (by decide) (by decide) (hk15 8 (by omega))) (sat_bind (m_opens8 p2) fun z hz => sat_pos hz.1 (sat_ret (Or.inl ⟨rfl, Or.inl ⟨rfl, rfl, a1.tr (f1.up rfl rfl), (a2.tr (f2.up rfl rfl)).tr (hz.2.1.up rfl rfl), ⟨?_, ?_, ?_⟩, fun p hp => (cd_fq f1 rfl p).trans (a6 p hp), u, (f1.I 24 rfl 9 rfl).trans a5.2.2.2.2.2.2, by omega⟩⟩)))
      · show hI y1.2 24 1 ≠ 0
        rw [w1]
        decide
      · show hI y1.2 24 1 = hI z.2 326 57
        rw [w1, hz.2.2.1]
      · show hI y1.2 24 2 = hI z.2 326 58
        rw [w2, hz.2.2.2]
theorem p_when (p : Pr b n c hA hB e u s 0) : sat (qX6_readWhen hA) fun y => sat (qX12_any hB) fun z => WOut b n c e u s hA hB y z := by
  obtain ⟨-, -, pu, ps, -⟩ := id p
  have ac : WAcc b n c e u s hA hB false false hA hB e u s := ⟨fq_rfl _ _ _, fq_rfl _ _ _, by rw [Bool.toNat_false]; omega, by rw [Bool.toNat_false]; omega, p, fun _ _ => rfl, fun _ _ => rfl, u, s, fun _ => 0, fun _ => 0, Nat.le_refl _, Nat.le_refl _, Nat.le_refl _, Nat.le_refl _, fun q => absurd q (by decide), fun _ => ⟨rfl, rfl⟩, fun q => absurd q (by decide), fun _ => ⟨rfl, rfl⟩⟩
  unfold qX6_readWhen
  refine uqX6_readWhen_0 ?_
  unfold BX6_readWhen_0
  refine sat_mono (p_when7 b n c e u s hA hB (c + 1) false false 0 13 0 hA hB e u s 0 (by omega) rfl ⟨fun q => absurd q (by decide), fun q => absurd q (by decide)⟩ rfl (by omega) ac) fun y hy => ?_
  unfold qX12_any
  refine uqX12_any_0 ?_
  unfold BX12_any_0
  have al : sat (qX12_all hB) fun z => WAny b n c e u s hA hB false y z := by
    unfold qX12_all
    refine uqX12_all_0 ?_
    unfold BX12_all_0
    refine sat_bind hy fun z hz => ?_
    rcases hz with ⟨z0, z2⟩ | ⟨z0, z2⟩
    · exact sat_pos z0 (sat_ret (Or.inl ⟨rfl, z2⟩))
    · refine sat_neg z0 ?_
      obtain ⟨w, ew, hw⟩ := z2
      cases ew
      exact hw
  refine sat_bind al fun z hz => ?_
  rcases hz with ⟨z0, z2⟩ | ⟨z0, z2⟩
  · exact sat_pos z0 (sat_ret (Or.inl ⟨rfl, z2⟩))
  · refine sat_neg z0 ?_
    obtain ⟨w, ew, hw⟩ := z2
    cases ew
    exact hw
end CM
