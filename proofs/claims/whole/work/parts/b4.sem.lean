/-! sums read by both -/
theorem w_fa {x : Int32} {k : Nat} (hx : x.toInt = ((k + 6 : Nat) : Int)) (hk : k ≤ 6) : ∃ t : Int32, (-1 : Int32) - (x - (6 : Int32)) = t ∧ t.toInt = -1 - (k : Int) := by
  have w1 : (x - (6 : Int32)).toInt = k := by
    rw [n_sub, hx, l_6, n_bm (by omega) (by omega)]
    omega
  refine ⟨_, rfl, ?_⟩
  rw [n_sub, w1, l_m1]
  clear w1 hx
  rw [n_bm (by omega) (by omega)]
theorem w_fb {y : Int32} {k : Nat} (hy : y.toInt = ((k + 201 : Nat) : Int)) (hk : k ≤ 6) : ∃ t : Int32, (1 : Int32) + y - (201 : Int32) = t ∧ t.toInt = ((k + 1 : Nat) : Int) := by
  have w1 : ((1 : Int32) + y).toInt = (k : Int) + 202 := by
    rw [n_add, hy, l_1, n_bm (by omega) (by omega)]
    omega
  refine ⟨_, rfl, ?_⟩
  rw [n_sub, w1, l_201]
  clear w1 hy
  rw [n_bm (by omega) (by omega)]
  omega
section SU
variable {b : Nat → Int} {n c e u s o d1 d2 : Nat} {h hA hB gA gB : ea_H}
def RefC (b : Nat → Int) (n e : Nat) (x : Int) (h : ea_H) (y : Int32 × ea_H) : Prop := y.1 = 0 ∧ fq [] [((24, 24), 1, 2)] h y.2 ∧ hI y.2 24 1 = x ∧ hI y.2 24 2 = paS b n e
def BadM (b : Nat → Int) (n e : Nat) (x : Int) (h : ea_H) (y : Int32 × ea_H) : Prop := y.1 = 0 ∧ fq [] [((326, 326), 57, 58)] h y.2 ∧ hI y.2 326 57 = x ∧ hI y.2 326 58 = paS b n e
theorem ref_bad {x : Int} {y z : Int32 × ea_H} {u0 : Nat} (fA : pFA gA hA) (fB : pFB gB hB) (k9 : Ok9 u0 gA hA) (r : RefC b n e x hA y) (w : BadM b n e x hB z) (hx : x ≠ 0) : pFA gA y.2 ∧ pFB gB z.2 ∧ PrX y.2 z.2 ∧ Ok9 u0 gA y.2 := by
  obtain ⟨y1, y2, y3, y4⟩ := r
  obtain ⟨z1, z2, z3, z4⟩ := w
  obtain ⟨k1, v, k2, k3⟩ := k9
  refine ⟨fA.tr (y2.up rfl rfl), fB.tr (z2.up rfl rfl), ⟨?_, ?_, ?_⟩, fun p hp => (cd_fq y2 rfl p).trans (k1 p hp), v, (y2.I 24 rfl 9 rfl).trans k2, k3⟩
  · rw [y3]
    exact hx
  · rw [y3, z3]
  · rw [y4, z4]
theorem px_of {x : Int} {y z : Int32 × ea_H} (r : RefC b n e x hA y) (w : BadM b n e x hB z) (hx : x ≠ 0) : PrX y.2 z.2 := by
  obtain ⟨y1, y2, y3, y4⟩ := r
  obtain ⟨z1, z2, z3, z4⟩ := w
  refine ⟨?_, ?_, ?_⟩
  · rw [y3]
    exact hx
  · rw [y3, z3]
  · rw [y4, z4]
theorem PrC.ok9 {u0 : Nat} (p : PrC hA b n c e u) (C : ∀ p, p < u0 → cd hA p = cd gA p) (hu : u0 ≤ u) : Ok9 u0 gA hA := ⟨C, u, p.2.2.2.2.2.2, hu⟩
theorem m_opens (p : PrM h b n e s o) (ho : o < 8) : sat (qX12_opens h) fun y => y.1 = 1 ∧ fq [] [((326, 326), 53, 56), ((326, 326), 60, 60)] h y.2 ∧ PrM y.2 b n (e + 1) s (o + 1) := by
  have v60 : (ea_i h 326 60).toInt = o := p.2.2.2.2.2.1
  unfold qX12_opens BX12_opens_0
  refine sat_neg (by rw [n_eq, v60, l_8]; omega) (sat_let fun H1 q1 => ?_)
  have F1 : fq [] [((326, 326), 53, 56), ((326, 326), 60, 60)] h H1 := q1 ▸ fq_wf rfl
  have p1 : PrM H1 b n e s (o + 1) := by
    obtain ⟨⟨t1, t2, t3⟩, a1, a2, a3, a4, a5, a6, a7⟩ := p
    have g : ∀ k, k ≠ 60 → hI H1 326 k = hI h 326 k := fun k hk => by rw [q1, hI_nk hk]
    refine ⟨⟨(g 52 (by decide)).trans t1, t2, fun k hk => ⟨(F1.C 362 rfl rfl k).trans (t3 k hk).1, (t3 k hk).2⟩⟩, (g 53 (by decide)).trans a1, (g 54 (by decide)).trans a2, (g 55 (by decide)).trans a3, fun z => (g 56 (by decide)).trans (a4 z), ?_, (g 45 (by decide)).trans a6, (g 57 (by decide)).trans a7⟩
    rw [q1, hI_at, n_inc v60 (by omega)]
  refine sat_bind (m_next p1) fun z hz => sat_ret ⟨rfl, F1.tr (hz.1.up rfl rfl), hz.2⟩
theorem m_opens8 (p : PrM h b n e s 8) : sat (qX12_opens h) fun y => BadM b n e 3 h y := by
  have v60 : (ea_i h 326 60).toInt = 8 := p.2.2.2.2.2.1
  unfold qX12_opens BX12_opens_0
  refine sat_pos (by rw [n_eq, v60, l_8]) (sat_bind (m_bad p 3) fun z hz => sat_gd (Or.inl hz.1) (sat_ret hz))
theorem m_need (p : PrM h b n e s o) {x1 : Int32} {j : Nat} (ht : x1.toInt = paX j) (hj : j < 64) (hv : j ≤ 20 ∨ j ∈ [40, 41, 42, 43, 45, 47, 59, 60, 61, 62]) (k : paK b n (paS b n e) = j) : sat (qX12_need x1 h) fun y => y.1 = 1 ∧ fq [] [((326, 326), 53, 56)] h y.2 ∧ PrM y.2 b n (e + 1) s o := by
  unfold qX12_need BX12_need_0
  exact sat_pos (p.yes ht hj hv k) (sat_bind (m_next p) fun z hz => sat_ret ⟨rfl, hz⟩)
theorem m_needn (p : PrM h b n e s o) {x1 : Int32} {j : Nat} (ht : x1.toInt = paX j) (hj : j < 64) (hv : j ≤ 20 ∨ j ∈ [40, 41, 42, 43, 45, 47, 59, 60, 61, 62]) (k : ¬ paK b n (paS b n e) = j) : sat (qX12_need x1 h) fun y => BadM b n e 1 h y := by
  unfold qX12_need BX12_need_0
  exact sat_neg (p.no ht hj hv k) (sat_bind (m_bad p 1) fun z hz => sat_gd (Or.inl hz.1) (sat_ret hz))
/-- the class reads a number -/
theorem c_num (p : PrC h b n c e u) (k : paK b n (paS b n e) = 18) (hu : u < 3600) (d : Nat) (x1 : Int32) : sat (qX6_readUnit_0 d x1 h) fun y => y.1 = 1 ∧ pFA h y.2 ∧ PrC y.2 b n c (e + 1) (u + 1) ∧ (cd y.2 u).toInt = paV b n (paS b n e) ∧ ∀ p, p ≠ u → cd y.2 p = cd h p := by
  obtain ⟨v, qv, ev⟩ := c_value p
  have vb := paV_b (b := b) (paP_le b n e).2.1
  refine uqX6_readUnit_0 ?_
  unfold BX6_readUnit_0
  refine sat_pos (p.yes rfl k) (sat_call qv (sat_bind (c_putP p hu (x1 := v) (by omega) (by omega)) fun y6 h6 => ?_))
  obtain ⟨f6, p6, c6, d6⟩ := h6
  refine sat_bind (c_step p6 (by omega)) fun y7 h7 => sat_ret ⟨rfl, (f6.up rfl rfl : pFA h y6.2).tr (h7.1.up rfl rfl), h7.2, ?_, fun p hp => (cd_fq h7.1 rfl p).trans (d6 p hp)⟩
  show (cd y7.2 u).toInt = _
  rw [cd_fq h7.1 rfl u, c6, ev]
def SumQ (b : Nat → Int) (n c o d1 d2 : Nat) : Prop := ∀ (x1 : Int32) (hA hB : ea_H) (e u s : Nat), x1.toInt = o → Pr b n c hA hB e u s o → sat (qX6_readSum_0 d1 x1 hA) fun y => sat (qX12_sumOf_0 d2 hB) fun z => Pout b n c o (19 - 2 * o) e u s hA hB y z
def UnQ (b : Nat → Int) (n c o d1 d2 : Nat) : Prop := ∀ (x1 : Int32) (hA hB : ea_H) (e u s : Nat), x1.toInt = o → Pr b n c hA hB e u s o → sat (qX6_readUnit_0 d1 x1 hA) fun y => sat (qX12_unit_0 d2 hB) fun z => Pout b n c o (17 - 2 * o) e u s hA hB y z
def PdQ (b : Nat → Int) (n c o d1 d2 : Nat) : Prop := ∀ (x1 : Int32) (hA hB : ea_H) (e u s : Nat), x1.toInt = o → Pr b n c hA hB e u s o → sat (qX6_readProduct_0 d1 x1 hA) fun y => sat (qX12_product_0 d2 hB) fun z => Pout b n c o (18 - 2 * o) e u s hA hB y z
theorem p_unit (S : o < 8 → 0 < d1 ∧ 0 < d2 ∧ SumQ b n c (o + 1) (d1 - 1) (d2 - 1)) : UnQ b n c o d1 d2 := by
  intro x1 hA hB e u s e1 p
  obtain ⟨pc, pm, hu, hs, ho⟩ := id p
  have n6 := pc.1
  have cn := pc.2.1.2.1
  have kv := (paK_b b n (paS b n e)).1
  have kl := paK_lt b n (paS b n e)
  have rg := pa_rng _ kl kv
  have v54 : (ea_i hB 326 54).toInt = paX (paK b n (paS b n e)) := pm.2.2.1
  have v7 : (ea_i hA 24 7).toInt = paK b n (paS b n e) := pc.2.2.2.2.1
  by_cases k18 : paK b n (paS b n e) = 18
  · have lt := pc.lt (by omega)
    have vb := paV_b (b := b) (paP_le b n e).2.1
    refine sat_mono (c_num pc k18 (by omega) d1 x1) fun y hy => ?_
    obtain ⟨y1, y2, y3, y4, y5⟩ := hy
    refine uqX12_unit_0 ?_
    unfold BX12_unit_0
    refine sat_neg (pm.no (j := 40) rfl (by decide) (by decide) (by omega)) (sat_pos (pm.yes (j := 18) rfl (by decide) (by decide) k18) (uqX12_unit_70 ?_))
    unfold BX12_unit_70
    refine sat_pos (pm.yes (j := 18) rfl (by decide) (by decide) k18) (sat_bind (m_lay pm (by omega) 0 (ea_i hB 326 56)) fun z6 h6 => ?_)
    obtain ⟨f6, p6, c6, d6⟩ := h6
    refine sat_bind (m_next p6) fun z7 h7 => sat_ret (Or.inr ⟨y1, rfl, e + 1, u + 1, s + 1, fun _ => cd y.2 u, ?_⟩)
    have S7 : ∀ i, Sf z7.2 i = Sf z6.2 i := Sf_same h7.1 rfl rfl
    refine ⟨y2, (f6.up rfl rfl : pFB hB z6.2).tr (h7.1.up rfl rfl), by omega, by omega, by omega, by omega, by omega, ⟨y3, h7.2, by omega, by omega, ho⟩, fun p hp => y5 p (by omega), fun i hi => (S7 i).trans (d6 i (by omega)), fun f g h => rfl, (cB_num (C := cd y.2) (by omega) (by rw [y4]; omega)).mono (by omega), ?_⟩
    have e6 : Sf z7.2 s = (0, ea_i hB 326 56) := (S7 s).trans c6
    refine (mB_num (S := Sf z7.2) (by omega) (by rw [e6]; rfl)).ext fun f => ?_
    rw [e6]
    show cd y.2 u = ea_i hB 326 56
    rw [n_eq, y4]
    exact (pm.2.2.2.2.1 k18).symm
  by_cases k6 : 6 ≤ paK b n (paS b n e) ∧ paK b n (paS b n e) ≤ 12
  · have lt := pc.lt (by omega)
    have x6 := rg.2.1 k6.1 k6.2
    obtain ⟨k, hk⟩ : ∃ k, paK b n (paS b n e) = k + 6 := ⟨paK b n (paS b n e) - 6, by omega⟩
    obtain ⟨ta, qa, wa⟩ := w_fa (x := ea_i hA 24 7) (k := k) (by rw [v7, hk]) (by omega)
    obtain ⟨tb, qb, wb⟩ := w_fb (y := ea_i hB 326 54) (k := k) (by rw [v54, x6, hk, show 195 + (k + 6) = k + 201 by omega]) (by omega)
    have ra : -32768 ≤ ta.toInt ∧ ta.toInt < 32768 := by omega
    refine uqX6_readUnit_0 ?_
    unfold BX6_readUnit_0
    rw [qa]
    have l6 : ¬ ea_i hA 24 7 < (6 : Int32) := by
      rw [n_lt, v7, l_6]
      omega
    have l12 : ¬ (12 : Int32) < ea_i hA 24 7 := by
      rw [n_lt, v7, l_12]
      omega
    have u36 : u < 3600 := by omega
    refine sat_neg (pc.no (j := 18) rfl k18) (sat_neg l6 (sat_neg l12 (sat_bind (c_putP pc u36 (x1 := ta) ra.1 ra.2) fun y1 h1 => ?_)))
    obtain ⟨f1, p1, c1, g1⟩ := h1
    refine sat_sw (uqX12_unit_0 ?_)
    unfold BX12_unit_0
    refine sat_neg (pm.no (j := 40) rfl (by decide) (by decide) (by omega)) (sat_neg (pm.no (j := 18) rfl (by decide) (by decide) k18) (sat_pos (by rw [n_le, v54, l_201]; omega) (uqX12_unit_70 ?_)))
    unfold BX12_unit_70
    rw [qb]
    refine sat_neg (pm.no (j := 18) rfl (by decide) (by decide) k18) (sat_bind (m_lay pm (by omega) tb (ea_i hB 326 56)) fun z6 h6 => ?_)
    obtain ⟨f6, p6, c6, d6⟩ := h6
    refine sat_sw (p_nx p1 p6 (by omega) fun y2 z2 fy fz py pz => sat_ret (sat_ret (Or.inr ⟨rfl, rfl, e + 1, u + 1, s + 1, fun f => f k, ?_⟩)))
    have S7 : ∀ i, Sf z2.2 i = Sf z6.2 i := Sf_same fz rfl rfl
    have C7 : ∀ p, cd y2.2 p = cd y1.2 p := cd_fq fy rfl
    refine ⟨(f1.up rfl rfl : pFA hA y1.2).tr (fy.up rfl rfl), (f6.up rfl rfl : pFB hB z6.2).tr (fz.up rfl rfl), by omega, by omega, by omega, by omega, by omega, ⟨py, pz, by omega, by omega, ho⟩, fun p hp => (C7 p).trans (g1 p (by omega)), fun i hi => (S7 i).trans (d6 i (by omega)), fun f g h => h k (by omega), (cB_fact (C := cd y2.2) (k := k) (by omega) (by omega) (by rw [C7, c1, wa])).mono (by omega), mB_fact (S := Sf z2.2) (u := k) (by omega) (by omega) (by rw [S7, c6]; exact wb)⟩
  by_cases k40 : paK b n (paS b n e) = 40
  · have lt := pc.lt (by omega)
    refine uqX6_readUnit_0 ?_
    unfold BX6_readUnit_0
    refine sat_neg (pc.no (j := 18) rfl k18) (sat_neg (by rw [n_lt, v7, l_6]; omega) (sat_pos (by rw [n_lt, v7, l_12]; omega) (uqX6_readUnit_60 ?_)))
    unfold BX6_readUnit_60
    refine sat_pos (pc.yes (j := 40) rfl k40) ?_
    refine sat_sw (uqX12_unit_0 ?_)
    unfold BX12_unit_0
    refine sat_pos (pm.yes (j := 40) rfl (by decide) (by decide) k40) ?_
    by_cases o8 : o < 8
    · obtain ⟨h1, h2, IH⟩ := S o8
      refine sat_bind (m_opens pm o8) fun z5 h5 => ?_
      obtain ⟨z51, z52, z53⟩ := h5
      refine sat_neg (by rw [z51]; exact i1_ne_0) (sat_gd h2 ?_)
      refine sat_sw (sat_pos (by rw [n_lt, e1, l_8]; omega) (sat_bind (c_step pc (by omega)) fun y9 h9 => sat_gd h1 ?_))
      obtain ⟨f9, p9⟩ := h9
      refine sat_2 (IH (x1 + 1) y9.2 z5.2 (e + 1) u s (n_inc e1 (by omega)) ⟨p9, z53, by omega, by omega, by omega⟩) fun y z r => ?_
      rcases r with r | ⟨ry, rz, e', u', s', F, a⟩
      · exact sat_pos r.1 (sat_ret (sat_pos r.2.1 (sat_ret (Pout.fail (f9.up rfl rfl) (z52.up rfl rfl) (fun p _ => cd_fq f9 rfl p) (Nat.le_refl _) r))))
      obtain ⟨a1, a2, a3, a4, a5, a6, a7, ⟨a8, b8, c8, d8, -⟩, a9, a10, a11, a12, a13⟩ := a
      refine sat_neg (by rw [ry]; exact i1_ne_0) ?_
      refine sat_sw (sat_neg (by rw [rz]; exact i1_ne_0) ?_)
      by_cases k41 : paK b n (paS b n e') = 41
      · refine sat_bind (m_need b8 (j := 41) rfl (by decide) (by decide) k41) fun z8 h8 => ?_
        obtain ⟨z81, z82, z83⟩ := h8
        refine sat_neg (by rw [z81]; exact i1_ne_0) (sat_let fun H9 q9 => sat_ret ?_)
        refine sat_pos (a8.yes (j := 41) rfl k41) (sat_bind (c_step a8 (by omega)) fun y12 h12 => sat_ret (Or.inr ⟨rfl, rfl, e' + 1, u', s', F, ?_⟩))
        obtain ⟨f12, p12⟩ := h12
        have v60 : (ea_i z8.2 326 60).toInt = ((o + 1 : Nat) : Int) := z83.2.2.2.2.2.1
        have fq9 : fq [] [((326, 326), 60, 60)] z8.2 H9 := q9 ▸ fq_wf rfl
        have pm9 : PrM H9 b n (e' + 1) s' o := by
          obtain ⟨⟨t1, t2, t3⟩, m1, m2, m3, m4, m5, m6, m7⟩ := z83
          refine ⟨⟨(fq9.I 326 rfl 52 rfl).trans t1, t2, fun k hk => ⟨(fq9.C 362 rfl rfl k).trans (t3 k hk).1, (t3 k hk).2⟩⟩, (fq9.I 326 rfl 53 rfl).trans m1, (fq9.I 326 rfl 54 rfl).trans m2, (fq9.I 326 rfl 55 rfl).trans m3, fun z => (fq9.I 326 rfl 56 rfl).trans (m4 z), ?_, (fq9.I 326 rfl 45 rfl).trans m6, (fq9.I 326 rfl 57 rfl).trans m7⟩
          rw [q9, hI_at, n_pred (by omega), v60]
          omega
        have S9 : ∀ i, Sf H9 i = Sf z.2 i := fun i => (Sf_same fq9 rfl rfl i).trans (Sf_same z82 rfl rfl i)
        have C9 : ∀ p, cd y12.2 p = cd y.2 p := cd_fq f12 rfl
        refine ⟨((f9.up rfl rfl : pFA hA y9.2).tr a1).tr (f12.up rfl rfl), ((z52.up rfl rfl : pFB hB z5.2).tr a2).tr ((z82.up rfl rfl : pFB z.2 z8.2).tr (fq9.up rfl rfl)), by omega, by omega, by omega, by omega, by omega, ⟨p12, pm9, by omega, by omega, by omega⟩, fun p hp => ((C9 p).trans (a9 p hp)).trans (cd_fq f9 rfl p), fun i hi => ((S9 i).trans (a10 i hi)).trans (Sf_same z52 rfl rfl i), a11, ?_, a13.cg fun j _ _ => S9 j⟩
        refine (a12.cg fun j _ _ => C9 j).mono (by omega)
      · refine sat_bind (m_needn b8 (j := 41) rfl (by decide) (by decide) k41) fun z8 h8 => ?_
        refine sat_pos h8.1 (sat_ret ?_)
        refine sat_neg (a8.no (j := 41) rfl k41) (sat_bind (c_refuse a8 1) fun y13 h13 => sat_gd (Or.inl h13.1) (sat_ret (Or.inl ⟨h13.1, rfl, ?_⟩)))
        exact ref_bad ((f9.up rfl rfl : pFA hA y9.2).tr a1) ((z52.up rfl rfl : pFB hB z5.2).tr a2) (a8.ok9 (fun p hp => (a9 p hp).trans (cd_fq f9 rfl p)) a4) h13 ⟨rfl, h8.2⟩ (by decide)
    · have o8 : o = 8 := by omega
      subst o8
      refine sat_bind (m_opens8 pm) fun z5 h5 => sat_pos h5.1 (sat_ret ?_)
      refine sat_neg (by rw [n_lt, e1, l_8]; omega) (sat_bind (c_refuse pc 3) fun y17 h17 => sat_gd (Or.inl h17.1) (sat_ret (Or.inl ⟨h17.1, rfl, ?_⟩)))
      exact ref_bad (fq_rfl _ _ _) (fq_rfl _ _ _) (pc.ok9 (fun _ _ => rfl) (Nat.le_refl _)) h17 ⟨rfl, h5.2⟩ (by decide)
  · refine uqX6_readUnit_0 ?_
    unfold BX6_readUnit_0
    have r60 : sat (qX6_readUnit_60 d1 x1 hA) fun y => RefC b n e 1 hA y := by
      refine uqX6_readUnit_60 ?_
      unfold BX6_readUnit_60
      exact sat_neg (pc.no (j := 40) rfl k40) (sat_bind (c_refuse pc 1) fun y h => sat_gd (Or.inl h.1) (sat_ret h))
    refine sat_neg (pc.no (j := 18) rfl k18) ?_
    refine sat_mono (Q := fun y => sat (qX12_unit_0 d2 hB) fun z => Pout b n c o (17 - 2 * o) e u s hA hB y z) (P := fun y => RefC b n e 1 hA y) (sat_ite (fun _ => r60) fun c6 => sat_ite (fun _ => r60) fun c12 => ?_) fun y hy => ?_
    · rw [n_lt, v7, l_6] at c6
      rw [n_lt, v7, l_12] at c12
      exact absurd ⟨by omega, by omega⟩ k6
    · refine uqX12_unit_0 ?_
      unfold BX12_unit_0
      refine sat_neg (pm.no (j := 40) rfl (by decide) (by decide) k40) (sat_neg (pm.no (j := 18) rfl (by decide) (by decide) k18) (sat_neg (by rw [n_le, v54, l_201]; omega) (sat_bind (m_bad pm 1) fun z hz => sat_gd (Or.inl hz.1) (sat_ret (Or.inl ⟨hy.1, hz.1, ?_⟩)))))
      exact ref_bad (fq_rfl _ _ _) (fq_rfl _ _ _) (pc.ok9 (fun _ _ => rfl) (Nat.le_refl _)) hy hz (by decide)
theorem p_product (h1 : 0 < d1) (h2 : 0 < d2) (U : UnQ b n c o (d1 - 1) (d2 - 1)) : PdQ b n c o d1 d2 := by
  intro x1 gA gB e0 u0 s0 e1 p0
  have L : ∀ (m e u s k2 : Nat) (x2 : Int32) (hA hB : ea_H) (F : (Nat → Int32) → Int32), c ≤ e + m → x2.toInt = k2 → k2 ≤ e → PrA b n c o (18 - 2 * o) e0 u0 s0 gA gB hA hB e u s F → sat (qX6_readProduct_12 d1 x1 x2 hA) fun y => sat (qX12_product_9 d2 hB) fun z => Pout b n c o (18 - 2 * o) e0 u0 s0 gA gB y z := by
    have ex : ∀ (e u s k2 : Nat) (x2 : Int32) (hA hB : ea_H) (F : (Nat → Int32) → Int32), x2.toInt = k2 → k2 ≤ e → PrA b n c o (18 - 2 * o) e0 u0 s0 gA gB hA hB e u s F → ¬ paK b n (paS b n e) = 42 → ¬ paK b n (paS b n e) = 47 → sat (qX6_readProduct_12 d1 x1 x2 hA) fun y => sat (qX12_product_9 d2 hB) fun z => Pout b n c o (18 - 2 * o) e0 u0 s0 gA gB y z := by
      intro e u s k2 x2 hA hB F ex2 hk a k42 k47
      obtain ⟨pc, pm, -⟩ := a.2.2.2.2.2.2.2.1
      have n6 := pc.1
      have cn := pc.2.1.2.1
      have ec := pc.2.2.1
      refine uqX6_readProduct_12 ?_
      unfold BX6_readProduct_12
      refine sat_neg (by rw [n_lt, ex2, l_600]; omega) (sat_neg (pc.no (j := 42) rfl k42) (sat_neg (pc.no (j := 47) rfl k47) (sat_ret ?_)))
      refine uqX12_product_9 ?_
      unfold BX12_product_9
      exact sat_neg (pm.no (j := 42) rfl (by decide) (by decide) k42) (sat_neg (pm.no (j := 47) rfl (by decide) (by decide) k47) (sat_ret (Or.inr ⟨rfl, rfl, e, u, s, F, a⟩)))
    intro m
    induction m with
    | zero =>
      intro e u s k2 x2 hA hB F hm ex2 hk a
      obtain ⟨pc, -⟩ := a.2.2.2.2.2.2.2.1
      have z : paK b n (paS b n e) = 19 := by
        have := pc.2.1.2.2.1
        rw [show c = e by have := pc.2.2.1; omega] at this
        exact this
      exact ex e u s k2 x2 hA hB F ex2 hk a (by omega) (by omega)
    | succ m ih =>
      intro e u s k2 x2 hA hB F hm ex2 hk a
      obtain ⟨pc, pm, hu, hs, ho⟩ := id a.2.2.2.2.2.2.2.1
      have p : Pr b n c hA hB e u s o := ⟨pc, pm, hu, hs, ho⟩
      have n6 := pc.1
      have cn := pc.2.1.2.1
      have ec := pc.2.2.1
      have fA := a.1
      have fB := a.2.1
      have hu0 := a.2.2.2.1
      have cA0 := a.2.2.2.2.2.2.2.2.1
      by_cases k42 : paK b n (paS b n e) = 42
      · refine uqX6_readProduct_12 ?_
        unfold BX6_readProduct_12
        refine sat_neg (by rw [n_lt, ex2, l_600]; omega) (sat_pos (pc.yes (j := 42) rfl k42) (uqX6_readProduct_37 ?_))
        unfold BX6_readProduct_37
        refine sat_neg (pc.no (j := 47) rfl (by omega)) (uqX6_readProduct_51 ?_)
        unfold BX6_readProduct_51
        refine sat_sw (uqX12_product_9 ?_)
        unfold BX12_product_9
        refine sat_pos (pm.yes (j := 42) rfl (by decide) (by decide) k42) (uqX12_product_27 ?_)
        unfold BX12_product_27
        refine sat_neg (pm.no (j := 47) rfl (by decide) (by decide) (by omega)) (uqX12_product_41 ?_)
        unfold BX12_product_41
        refine sat_sw (p_next p (by omega) fun y1 z1 f1 g1 p1 => ?_)
        refine sat_pos rfl (uqX6_readProduct_75 ?_)
        unfold BX6_readProduct_75
        refine sat_pos rfl (uqX6_readProduct_92 ?_)
        unfold BX6_readProduct_92
        refine sat_gd h1 (sat_sw (sat_pos rfl (sat_gd h2 (sat_sw (sat_2 (U x1 y1.2 z1.2 (e + 1) u s e1 p1) fun y z r => ?_)))))
        rcases r with r | ⟨ry, rz, e', u', s', G, g⟩
        · exact sat_pos r.1 (sat_ret (sat_pos r.2.1 (sat_ret (Pout.fail (fA.tr (f1.up rfl rfl)) (fB.tr (g1.up rfl rfl)) (fun p hp => (cd_fq f1 rfl p).trans (cA0 p hp)) hu0 r))))
        refine sat_neg (by rw [ry]; exact i1_ne_0) (sat_pos rfl (sat_sw (sat_neg (by rw [rz]; exact i1_ne_0) (sat_sw (sat_2 (PrA.bin a f1 g1 g (x := -12) (x' := 10) (by decide) (by decide) (by decide) (by decide) (by decide) (by decide) (fun _ _ => rfl) (by omega)) fun y2 z2 a2 => ?_)))))
        have e' := g.2.2.1
        exact ih _ _ _ (k2 + 1) (x2 + 1) _ _ _ (by omega) (n_inc ex2 (by omega)) (by omega) a2
      by_cases k47 : paK b n (paS b n e) = 47
      · refine uqX6_readProduct_12 ?_
        unfold BX6_readProduct_12
        refine sat_neg (by rw [n_lt, ex2, l_600]; omega) (sat_neg (pc.no (j := 42) rfl k42) (sat_pos (pc.yes (j := 47) rfl k47) (uqX6_readProduct_37 ?_)))
        unfold BX6_readProduct_37
        refine sat_pos (pc.yes (j := 47) rfl k47) (uqX6_readProduct_51 ?_)
        unfold BX6_readProduct_51
        refine sat_sw (uqX12_product_9 ?_)
        unfold BX12_product_9
        refine sat_neg (pm.no (j := 42) rfl (by decide) (by decide) k42) (sat_pos (pm.yes (j := 47) rfl (by decide) (by decide) k47) (uqX12_product_27 ?_))
        unfold BX12_product_27
        refine sat_pos (pm.yes (j := 47) rfl (by decide) (by decide) k47) (uqX12_product_41 ?_)
        unfold BX12_product_41
        refine sat_sw (p_next p (by omega) fun y1 z1 f1 g1 p1 => ?_)
        have fA1 : pFA gA y1.2 := fA.tr (f1.up rfl rfl)
        have fB1 : pFB gB z1.2 := fB.tr (g1.up rfl rfl)
        obtain ⟨q1, q2, q3, q4, q5⟩ := p1
        refine sat_neg (by decide) (sat_sw (sat_neg (by decide) ?_))
        by_cases k18 : paK b n (paS b n (e + 1)) = 18
        · have v56 : (ea_i z1.2 326 56).toInt = paV b n (paS b n (e + 1)) := q2.2.2.2.2.1 k18
          have lt := q1.lt (by omega)
          refine sat_pos (q2.yes (j := 18) rfl (by decide) (by decide) k18) (sat_sw (sat_pos (q1.yes (j := 18) rfl k18) (uqX6_readProduct_75 ?_)))
          unfold BX6_readProduct_75
          obtain ⟨v, qv, ev⟩ := c_value q1
          refine sat_neg (by decide) (sat_call qv ?_)
          by_cases v0 : paV b n (paS b n (e + 1)) = 0
          · refine sat_pos (show v = 0 by rw [n_eq, ev, v0]; rfl) (sat_bind (c_refuse q1 2) fun y2 r2 => sat_gd (Or.inl r2.1) (sat_ret ?_))
            refine sat_pos (by rw [n_eq, v56, v0]; rfl) (sat_bind (m_bad q2 2) fun z2 w2 => sat_gd (Or.inl w2.1) (sat_ret (Or.inl ⟨r2.1, w2.1, ?_⟩)))
            exact ref_bad fA1 fB1 (q1.ok9 (fun p hp => (cd_fq f1 rfl p).trans (cA0 p hp)) hu0) r2 w2 (by decide)
          · refine sat_neg (show ¬ v = 0 by rw [n_eq, ev, l_0]; exact v0) (uqX6_readProduct_92 ?_)
            unfold BX6_readProduct_92
            refine sat_gd h1 (sat_bind (c_num q1 k18 (by omega) (d1 - 1) x1) fun y2 h2' => ?_)
            obtain ⟨y21, y22, y23, y24, y25⟩ := h2'
            refine sat_neg (by rw [y21]; exact i1_ne_0) (sat_neg (by decide) (sat_bind (c_putP y23 (by omega) (x1 := -13) (by decide) (by decide)) fun y3 h3 => ?_))
            obtain ⟨y31, y32, y33, y34⟩ := h3
            refine sat_sw (sat_neg (by rw [n_eq, v56, l_0]; exact v0) (sat_bind (m_lay q2 (by omega) 11 (ea_i z1.2 326 56)) fun z2 w2 => ?_))
            obtain ⟨z21, z22, z23, z24⟩ := w2
            refine sat_bind (m_next z22) fun z3 w3 => sat_sw ?_
            obtain ⟨z31, z32⟩ := w3
            obtain ⟨a1, a2, a3, a4, a5, a6, a7, -, a9, a10, a11, a12, a13⟩ := a
            have C3 : ∀ p, p < u → cd y3.2 p = cd hA p := fun p hp => ((y34 p (by omega)).trans (y25 p (by omega))).trans (cd_fq f1 rfl p)
            have S3 : ∀ i, Sf z3.2 i = Sf z2.2 i := Sf_same z31 rfl rfl
            have S4 : ∀ i, i < s → Sf z3.2 i = Sf hB i := fun i hi => ((S3 i).trans (z24 i (by omega))).trans (Sf_same g1 rfl rfl i)
            have e3 : Sf z3.2 s = (11, ea_i z1.2 326 56) := (S3 s).trans z23
            have cu : cd y3.2 u = ea_i z1.2 326 56 := by rw [n_eq, y34 u (by omega), y24, v56]
            have ne0 : ¬ ea_i z1.2 326 56 = 0 := by
              rw [n_eq, v56]
              exact v0
            refine ih (e + 1 + 1) (u + 1 + 1) (s + 1) (k2 + 1) (x2 + 1) y3.2 z3.2 (fun f => F f / ea_i z1.2 326 56) (by omega) (n_inc ex2 (by omega)) (by omega) ?_
            refine ⟨(fA1.tr y22).tr (y31.up rfl rfl), (fB1.tr (z21.up rfl rfl)).tr (z31.up rfl rfl), by omega, by omega, by omega, by omega, by omega, ⟨y32, z32, by omega, by omega, ho⟩, fun p hp => (C3 p (by omega)).trans (a9 p hp), fun i hi => (S4 i (by omega)).trans (a10 i hi), fun f g h => congrArg (· / ea_i z1.2 326 56) (a11 f g h), ?_, ?_⟩
            · have b1 : cB (cd y3.2) u0 u (18 - 2 * o) F := a12.cg fun j w1 w2 => C3 j w2
              have vb := paV_b (b := b) (paP_le b n (e + 1)).2.1
              have b2 : cB (cd y3.2) u (u + 1) 1 fun _ => cd y3.2 u := cB_num (C := cd y3.2) (by omega) (by rw [cu, v56]; exact vb.1)
              have := cB_bin (C := cd y3.2) (r := u + 1) (d1 := 18 - 2 * o) (d2 := 1) (d := 18 - 2 * o) (by omega) (by rw [y33]; decide) (by rw [y33]; decide) (by rw [y33]; decide) (Nat.le_refl _) (by omega) b1 b2
              refine this.ext fun f => ?_
              rw [y33, cu]
              exact (if_neg ne0).symm
            · have b1 : mB (Sf z3.2) s0 s F := a13.cg fun j w1 w2 => S4 j w2
              have := mB_div (S := Sf z3.2) (j := s) (by omega) (by rw [e3]; rfl) (by rw [e3]; exact ne0) b1
              refine this.ext fun f => ?_
              rw [e3]
        · refine sat_neg (q2.no (j := 18) rfl (by decide) (by decide) k18) (sat_bind (m_bad q2 1) fun z2 w2 => sat_gd (Or.inl w2.1) (sat_ret ?_))
          refine sat_neg (q1.no (j := 18) rfl k18) (sat_bind (c_refuse q1 1) fun y2 r2 => sat_gd (Or.inl r2.1) (sat_ret (Or.inl ⟨r2.1, w2.1, ?_⟩)))
          exact ref_bad fA1 fB1 (q1.ok9 (fun p hp => (cd_fq f1 rfl p).trans (cA0 p hp)) hu0) r2 w2 (by decide)
      · exact ex e u s k2 x2 hA hB F ex2 hk a k42 k47
  refine uqX6_readProduct_0 ?_
  unfold BX6_readProduct_0
  refine sat_gd h1 (sat_sw (uqX12_product_0 ?_))
  unfold BX12_product_0
  refine sat_gd h2 (sat_sw (sat_2 (U x1 gA gB e0 u0 s0 e1 p0) fun y z r => ?_))
  rcases r with r | ⟨ry, rz, e', u', s', G, g⟩
  · exact sat_pos r.1 (sat_ret (sat_pos r.2.1 (sat_ret (Pout.fail (fq_rfl _ _ _) (fq_rfl _ _ _) (fun _ _ => rfl) (Nat.le_refl _) r))))
  refine sat_neg (by rw [ry]; exact i1_ne_0) (sat_sw (sat_neg (by rw [rz]; exact i1_ne_0) (sat_sw ?_)))
  obtain ⟨g1, g2, g3, g4, g5, g6, g7, g8, g9, g10, g11, g12, g13⟩ := g
  exact L c e' u' s' 0 0 y.2 z.2 G (by omega) rfl (by omega) ⟨g1, g2, g3, g4, g5, g6, g7, g8, g9, g10, g11, g12.mono (by omega), g13⟩
theorem p_sum (h1 : 0 < d1) (h2 : 0 < d2) (U : PdQ b n c o (d1 - 1) (d2 - 1)) : SumQ b n c o d1 d2 := by
  intro x1 gA gB e0 u0 s0 e1 p0
  have L : ∀ (m e u s k2 : Nat) (x2 : Int32) (hA hB : ea_H) (F : (Nat → Int32) → Int32), c ≤ e + m → x2.toInt = k2 → k2 ≤ e → PrA b n c o (19 - 2 * o) e0 u0 s0 gA gB hA hB e u s F → sat (qX6_readSum_12 d1 x1 x2 hA) fun y => sat (qX12_sumOf_9 d2 hB) fun z => Pout b n c o (19 - 2 * o) e0 u0 s0 gA gB y z := by
    have ex : ∀ (e u s k2 : Nat) (x2 : Int32) (hA hB : ea_H) (F : (Nat → Int32) → Int32), x2.toInt = k2 → k2 ≤ e → PrA b n c o (19 - 2 * o) e0 u0 s0 gA gB hA hB e u s F → ¬ paK b n (paS b n e) = 43 → ¬ paK b n (paS b n e) = 45 → sat (qX6_readSum_12 d1 x1 x2 hA) fun y => sat (qX12_sumOf_9 d2 hB) fun z => Pout b n c o (19 - 2 * o) e0 u0 s0 gA gB y z := by
      intro e u s k2 x2 hA hB F ex2 hk a k43 k45
      obtain ⟨pc, pm, -⟩ := a.2.2.2.2.2.2.2.1
      have n6 := pc.1
      have cn := pc.2.1.2.1
      have ec := pc.2.2.1
      refine uqX6_readSum_12 ?_
      unfold BX6_readSum_12
      refine sat_neg (by rw [n_lt, ex2, l_600]; omega) (sat_neg (pc.no (j := 43) rfl k43) (sat_neg (pc.no (j := 45) rfl k45) (sat_ret ?_)))
      refine uqX12_sumOf_9 ?_
      unfold BX12_sumOf_9
      exact sat_neg (pm.no (j := 43) rfl (by decide) (by decide) k43) (sat_neg (pm.no (j := 45) rfl (by decide) (by decide) k45) (sat_ret (Or.inr ⟨rfl, rfl, e, u, s, F, a⟩)))
    intro m
    induction m with
    | zero =>
      intro e u s k2 x2 hA hB F hm ex2 hk a
      obtain ⟨pc, -⟩ := a.2.2.2.2.2.2.2.1
      have z : paK b n (paS b n e) = 19 := by
        have := pc.2.1.2.2.1
        rw [show c = e by have := pc.2.2.1; omega] at this
        exact this
      exact ex e u s k2 x2 hA hB F ex2 hk a (by omega) (by omega)
    | succ m ih =>
      intro e u s k2 x2 hA hB F hm ex2 hk a
      obtain ⟨pc, pm, hu, hs, ho⟩ := id a.2.2.2.2.2.2.2.1
      have p : Pr b n c hA hB e u s o := ⟨pc, pm, hu, hs, ho⟩
      have n6 := pc.1
      have cn := pc.2.1.2.1
      have ec := pc.2.2.1
      have fA := a.1
      have fB := a.2.1
      have hu0 := a.2.2.2.1
      have cA0 := a.2.2.2.2.2.2.2.2.1
      have go : ∀ x x' : Int32, paK b n (paS b n e) ≠ 19 → -19 ≤ x.toInt → x.toInt ≤ -10 → x.toInt ≠ -17 → 8 ≤ x'.toInt → x'.toInt ≠ 11 → x'.toInt ≠ 15 → (∀ a b : Int32, jn x a b = bt2 x' a b) → sat (qX6_readSum_53 d1 x1 x2 x hA) fun y => sat (qX12_sumOf_43 d2 x' hB) fun z => Pout b n c o (19 - 2 * o) e0 u0 s0 gA gB y z := by
        intro x x' k19 a1 a2 a3 a4 a5 a6 a7
        refine uqX6_readSum_53 ?_
        unfold BX6_readSum_53
        refine sat_sw (uqX12_sumOf_43 ?_)
        unfold BX12_sumOf_43
        refine sat_sw (p_next p k19 fun y1 z1 f1 g1 p1 => ?_)
        refine sat_gd h1 (sat_sw (sat_gd h2 (sat_sw (sat_2 (U x1 y1.2 z1.2 (e + 1) u s e1 p1) fun y z r => ?_))))
        rcases r with r | ⟨ry, rz, e', u', s', G, g⟩
        · exact sat_pos r.1 (sat_ret (sat_pos r.2.1 (sat_ret (Pout.fail (fA.tr (f1.up rfl rfl)) (fB.tr (g1.up rfl rfl)) (fun p hp => (cd_fq f1 rfl p).trans (cA0 p hp)) hu0 r))))
        refine sat_neg (by rw [ry]; exact i1_ne_0) (sat_sw (sat_neg (by rw [rz]; exact i1_ne_0) (sat_sw (sat_2 (PrA.bin a f1 g1 g (x := x) (x' := x') a1 a2 a3 a4 a5 a6 a7 (by omega)) fun y2 z2 a2 => ?_))))
        have e' := g.2.2.1
        exact ih _ _ _ (k2 + 1) (x2 + 1) _ _ _ (by omega) (n_inc ex2 (by omega)) (by omega) a2
      by_cases k43 : paK b n (paS b n e) = 43
      · refine uqX6_readSum_12 ?_
        unfold BX6_readSum_12
        refine sat_neg (by rw [n_lt, ex2, l_600]; omega) (sat_pos (pc.yes (j := 43) rfl k43) (uqX6_readSum_37 ?_))
        unfold BX6_readSum_37
        refine sat_pos (pc.yes (j := 43) rfl k43) (sat_sw (uqX12_sumOf_9 ?_))
        unfold BX12_sumOf_9
        refine sat_pos (pm.yes (j := 43) rfl (by decide) (by decide) k43) (uqX12_sumOf_27 ?_)
        unfold BX12_sumOf_27
        refine sat_pos (pm.yes (j := 43) rfl (by decide) (by decide) k43) (sat_sw ?_)
        exact go (-10) 8 (by omega) (by decide) (by decide) (by decide) (by decide) (by decide) (by decide) fun _ _ => rfl
      by_cases k45 : paK b n (paS b n e) = 45
      · refine uqX6_readSum_12 ?_
        unfold BX6_readSum_12
        refine sat_neg (by rw [n_lt, ex2, l_600]; omega) (sat_neg (pc.no (j := 43) rfl k43) (sat_pos (pc.yes (j := 45) rfl k45) (uqX6_readSum_37 ?_)))
        unfold BX6_readSum_37
        refine sat_neg (pc.no (j := 43) rfl k43) (sat_sw (uqX12_sumOf_9 ?_))
        unfold BX12_sumOf_9
        refine sat_neg (pm.no (j := 43) rfl (by decide) (by decide) k43) (sat_pos (pm.yes (j := 45) rfl (by decide) (by decide) k45) (uqX12_sumOf_27 ?_))
        unfold BX12_sumOf_27
        refine sat_neg (pm.no (j := 43) rfl (by decide) (by decide) k43) (sat_sw ?_)
        exact go (-11) 9 (by omega) (by decide) (by decide) (by decide) (by decide) (by decide) (by decide) fun _ _ => rfl
      · exact ex e u s k2 x2 hA hB F ex2 hk a k43 k45
  refine uqX6_readSum_0 ?_
  unfold BX6_readSum_0
  refine sat_gd h1 (sat_sw (uqX12_sumOf_0 ?_))
  unfold BX12_sumOf_0
  refine sat_gd h2 (sat_sw (sat_2 (U x1 gA gB e0 u0 s0 e1 p0) fun y z r => ?_))
  rcases r with r | ⟨ry, rz, e', u', s', G, g⟩
  · exact sat_pos r.1 (sat_ret (sat_pos r.2.1 (sat_ret (Pout.fail (fq_rfl _ _ _) (fq_rfl _ _ _) (fun _ _ => rfl) (Nat.le_refl _) r))))
  refine sat_neg (by rw [ry]; exact i1_ne_0) (sat_sw (sat_neg (by rw [rz]; exact i1_ne_0) (sat_sw ?_)))
  obtain ⟨g1, g2, g3, g4, g5, g6, g7, g8, g9, g10, g11, g12, g13⟩ := g
  exact L c e' u' s' 0 0 y.2 z.2 G (by omega) rfl (by omega) ⟨g1, g2, g3, g4, g5, g6, g7, g8, g9, g10, g11, g12.mono (by omega), g13⟩
theorem p_sums (b : Nat → Int) (n c : Nat) : ∀ (k o d1 d2 : Nat), k + o = 8 → 3 * k + 3 ≤ d1 → 3 * k + 3 ≤ d2 → SumQ b n c o d1 d2 := by
  intro k
  induction k with
  | zero =>
    intro o d1 d2 ho h1 h2
    exact p_sum (by omega) (by omega) (p_product (by omega) (by omega) (p_unit fun z => absurd z (by omega)))
  | succ k ih =>
    intro o d1 d2 ho h1 h2
    exact p_sum (by omega) (by omega) (p_product (by omega) (by omega) (p_unit fun z => ⟨by omega, by omega, ih (o + 1) _ _ (by omega) (by omega) (by omega)⟩))
end SU
