/-! the reference: a coming -/
theorem m_code {x2 : Int32} {t d : Nat} (e2 : x2.toInt = ((7 * t + d : Nat) : Int)) (ht : t < 10) (hd : d < 7) (h : ea_H) : ∃ v, qX12_code x2 h = some (v, h) ∧ v.toInt = ((10 * d + t : Nat) : Int) := by
  have j0 : (x2 / (7 : Int32)).toInt = t := by
    rw [n_div7 (by omega), e2]
    omega
  have j1 : (x2 - x2 / (7 : Int32) * (7 : Int32)).toInt = d := by
    rw [n_sub, n_mul, j0, e2, l_7]
    simp (disch := omega) only [n_bm]
    omega
  have j2 : ((10 : Int32) * (x2 - x2 / (7 : Int32) * (7 : Int32))).toInt = 10 * (d : Int) := by
    rw [n_mul, j1, l_10, n_bm (by omega) (by omega)]
  refine ⟨_, rfl, ?_⟩
  rw [n_add, j2, j0, n_bm (by omega) (by omega)]
  omega
theorem m_isAboard {m l t d : Nat} {X : Nat → Nat → Int} {x1 x2 : Int32} (e1 : x1.toInt = l) (e2 : x2.toInt = ((7 * t + d : Nat) : Int)) (ht : t < 10) (hd : d < 7) {h : ea_H} (hl : l < m) (r : RM0 m X h) : ∃ v, qX12_isAboard x1 x2 h = some (v, h) ∧ ((v = 1 ∧ X 0 l = 1 ∧ X 1 l = ((10 * d + t : Nat) : Int)) ∨ (v = 0 ∧ ¬ (X 0 l = 1 ∧ X 1 l = ((10 * d + t : Nat) : Int)))) := by
  have hl' : l < 120 := by have := r.1.2; omega
  have g1 := vp80 e1 hl'
  have ic : x1.toNatClampNeg = l := by
    rw [n_idx, e1]
    rfl
  have v0 : (ea_i h 381 l).toInt = X 0 l := (r.2.1 l).1
  have v1 : (ea_i h 382 l).toInt = X 1 l := (r.2.1 l).2.1
  obtain ⟨c, p, q⟩ := m_code e2 ht hd h
  have H : sat (qX12_isAboard x1 x2 h) fun y => y.2 = h ∧ ((y.1 = 1 ∧ X 0 l = 1 ∧ X 1 l = ((10 * d + t : Nat) : Int)) ∨ (y.1 = 0 ∧ ¬ (X 0 l = 1 ∧ X 1 l = ((10 * d + t : Nat) : Int)))) := by
    unfold qX12_isAboard BX12_isAboard_0
    rw [ic]
    refine sat_gd g1 (sat_ite (fun z => ?_) fun z => ?_)
    · rw [n_eq, v0, l_1] at z
      refine sat_gd g1 (sat_call p (sat_ite (fun w => ?_) fun w => ?_))
      · rw [n_eq, v1, q] at w
        exact sat_ret ⟨rfl, Or.inl ⟨rfl, z, w⟩⟩
      · rw [n_eq, v1, q] at w
        exact sat_ret ⟨rfl, Or.inr ⟨rfl, fun k => w k.2⟩⟩
    · rw [n_eq, v0, l_1] at z
      exact sat_ret ⟨rfl, Or.inr ⟨rfl, fun k => z k.1⟩⟩
  obtain ⟨⟨v, h2⟩, q1, q2, q3⟩ := H
  have q2 : h2 = h := q2
  subst q2
  exact ⟨v, q1, q3⟩
section CM
variable {T : Nat → Nat → Nat → Nat} {L : List Nat} {G : Nat → Nat → Int} {n m e : Nat} {D : Nat → Int}
/-- what the reference's walk over the happenings leaves as it is -/
def gFx (T : Nat → Nat → Nat → Nat) (L : List Nat) (n : Nat) (G : Nat → Nat → Int) (h : ea_H) : Prop := MTab h T ∧ mEv h L ∧ GM n G h
theorem gFx_fq {A : List (Nat × Nat)} {h h' : ea_H} (f : fq A [] h h') (w : inB A 326 = false) (w1 : fre A [] [(328, 332), (336, 339)] [] = true) (w2 : fre A [] W_GM V_GM = true) (g : gFx T L n G h) : gFx T L n G h' := by
  obtain ⟨g1, g2, g3⟩ := g
  have k := f.kq w1
  obtain ⟨c1, c2, c3, c4⟩ := g1
  refine ⟨⟨(f.I 326 w 2 rfl).trans c1, fun t ht => (k.W 328 rfl _).trans (c2 t ht), fun t i ht hi => ?_, fun t d ht hd => (k.W 332 rfl _).trans (c4 t d ht hd)⟩, ⟨(f.I 326 w 13 rfl).trans g2.1, fun q hq => ?_⟩, g3.kq (f.kq w2)⟩
  · rw [k.W 329 rfl, k.W 330 rfl, k.W 331 rfl]
    exact c3 t i ht hi
  · rw [k.W 336 rfl, k.W 337 rfl, k.W 338 rfl, k.W 339 rfl]
    exact g2.2 q hq
theorem m_com54 (ok : tOk T) (hL : tList T L) (he : e < L.length) (hG : G 7 0 = m) {X : Nat → Nat → Int} {b : Int} (hX : XOk T m (fun _ => b) X) (hb : b ≤ 1000) (hD : ∀ l, D l = (kMin (L.getD e 0) : Int) / 1440) {x1 x2 x3 x4 : Int32} (e1 : x1.toInt = e) (e2 : x2.toInt = ((7 * kT (L.getD e 0) + kD (L.getD e 0) : Nat) : Int)) (e3 : x3.toInt = kI (L.getD e 0))
    (e4 : (x4 = 1 ∧ kI (L.getD e 0) + 1 = tS T (kT (L.getD e 0))) ∨ (x4 = 0 ∧ ¬ kI (L.getD e 0) + 1 = tS T (kT (L.getD e 0)))) {h0 : ea_H} :
    ∀ (k j : Nat) (h : ea_H) (x5 : Int32), j + k = m → x5.toInt = j → gFx T L n G h → RM0 m (cmF T G (L.getD e 0) X j) h → DFm m D (cmF T G (L.getD e 0) X j) h → fq [(376, 377), (381, 390)] [] h0 h → sat (qX12_coming_54 x1 x2 x3 x4 x5 h) fun y => fq [(376, 377), (381, 390)] [] h0 y.2 ∧ gFx T L n G y.2 ∧ RM0 m (cmF T G (L.getD e 0) X m) y.2 ∧ DFm m D (cmF T G (L.getD e 0) X m) y.2 := by
  have h9 := t_len2 ok hL
  have hxk := (hL.2 _).mp (getD_mem he)
  obtain ⟨t1, t2, t3, t4, t5, t6, t7, t8⟩ := t_bounds ok hxk
  generalize hx : L.getD e 0 = x at *
  intro k
  induction k with
  | zero =>
    intro j h x5 hk e5 g r df f
    have hjm : j = m := by omega
    subst hjm
    refine uqX12_coming_54 ?_
    unfold BX12_coming_54
    exact sat_pos (by rw [n_le, hI_eq, r.1.1, e5]; omega) (sat_ret ⟨f, g, r, df⟩)
  | succ k ih =>
    intro j h x5 hk e5 g r df f
    have hj : j < m := by omega
    have hm := r.1.2
    have hj' : j < 120 := by omega
    have gj := vp80 e5 hj'
    have ic : x5.toNatClampNeg = j := by
      rw [n_idx, e5]
      rfl
    have ic1 : x1.toNatClampNeg = e := by
      rw [n_idx, e1]
      rfl
    have e51 := n_inc e5 (by omega)
    have XO := cmF_ok (G := G) ok hxk hX j (by omega) j hj
    dsimp only at XO
    rw [if_neg (Nat.lt_irrefl _)] at XO
    generalize hY : cmF T G x X j = Y at *
    have hs : cmF T G x X (j + 1) = cmL T G x Y j := by
      show cmL T G x (cmF T G x X j) j = _
      rw [hY]
    obtain ⟨v, p, q⟩ := m_isAboard e5 e2 t1 t2 hj r
    have skip : ¬ cmC T Y x j → sat (qX12_coming_54 x1 x2 x3 x4 (x5 + 1) h) fun y => fq [(376, 377), (381, 390)] [] h0 y.2 ∧ gFx T L n G y.2 ∧ RM0 m (cmF T G x X m) y.2 ∧ DFm m D (cmF T G x X m) y.2 := by
      intro hc
      refine ih (j + 1) h (x5 + 1) (by omega) e51 g ?_ ?_ f
      · rw [hs]
        unfold cmL
        rw [if_neg hc]
        exact r
      · rw [hs]
        unfold cmL
        rw [if_neg hc]
        exact df
    have down : ∀ (h1 : ea_H) (Z : Nat → Nat → Int), cmC T Y x j → Z = (@ite _ (Y 4 j = 0) (Classical.propDecidable _) (upX (upX Y 3 j (bmw (Y 3 j + 1))) 6 (kR x) (bmw (Y 6 (kR x) + 1))) Y) → Z 7 j = Y 7 j → fq [(384, 384), (386, 386)] [] h h1 → RM0 m Z h1 → DFm m D Z h1 →
        (∀ y : Int32, y.toInt = kA (tW T) x → sat (qX12_putsDown x5 (ea_i h1 336 e) y h1) fun w => sat (qX12_coming_54 x1 x2 x3 x4 (x5 + 1) w.2) fun y => fq [(376, 377), (381, 390)] [] h0 y.2 ∧ gFx T L n G y.2 ∧ RM0 m (cmF T G x X m) y.2 ∧ DFm m D (cmF T G x X m) y.2) := by
      intro h1 Z hc hZ hZ7 f1 r1 df1 y hy
      have g1 : gFx T L n G h1 := gFx_fq f1 rfl rfl rfl g
      have v336 : (ea_i h1 336 e).toInt = kMin x := by
        have := (g1.2.1.2 e he).1
        rw [hx] at this
        exact this
      have c0 : Y 0 j = 1 := hc.1
      have XO7 := XO.2.2.2.2.1
      rw [c0, if_pos (by decide)] at XO7
      refine sat_mono (m_putsDown e5 v336 hy hj hG g1.2.2 r1 df1 (hD j) (by rw [hZ7]; omega) (by rw [hZ7]; omega)) fun w hw => ?_
      obtain ⟨fw, rw0, dw⟩ := hw
      have F : fq [(376, 377), (381, 390)] [] h0 w.2 := f.tr ((f1.up rfl rfl).tr (fw.up rfl rfl))
      refine ih (j + 1) w.2 (x5 + 1) (by omega) e51 (gFx_fq fw rfl rfl rfl g1) ?_ ?_ F
      · rw [hs]
        unfold cmL
        rw [if_pos hc, ← hZ]
        exact rw0
      · rw [hs]
        unfold cmL
        rw [if_pos hc, ← hZ]
        exact dw
    obtain ⟨vt, pt, qt⟩ := m_townOf e2 e3 g.1 t1 t2 t3
    have pt2 : ∀ h1, fq [(384, 384), (386, 386)] [] h h1 → ∃ vt, qX12_townOf x2 x3 h1 = some (vt, h1) ∧ vt.toInt = kA (tW T) x := fun h1 f1 => m_townOf e2 e3 (gFx_fq f1 rfl rfl rfl g).1 t1 t2 t3
    have gx1 := vp80 e1 (show e < 1000 by omega)
    refine uqX12_coming_54 ?_
    unfold BX12_coming_54
    rw [ic, ic1]
    refine sat_neg (by rw [n_le, hI_eq, r.1.1, e5]; omega) (sat_call p ?_)
    rcases q with ⟨q1, q2, q3⟩ | ⟨q1, q2⟩
    case inr => exact sat_pos q1 (skip fun z => q2 ⟨z.1, z.2.1⟩)
    refine sat_neg (by rw [q1]; exact i1_ne_0) (sat_gd gj ?_)
    have v387 : (ea_i h 387 j).toInt = Y 4 j := r.2.2.1 j hj q2
    have v383 : (ea_i h 383 j).toInt = Y 2 j := (r.2.1 j).2.2.1
    -- it is put down, if this is the last stop
    have lastly : ¬ (Y 4 j ≠ 0 ∧ Y 2 j ≤ kI x) → sat (qX12_coming_118 x1 x2 x3 x4 x5 h) fun y => fq [(376, 377), (381, 390)] [] h0 y.2 ∧ gFx T L n G y.2 ∧ RM0 m (cmF T G x X m) y.2 ∧ DFm m D (cmF T G x X m) y.2 := by
      intro hn
      refine uqX12_coming_118 ?_
      unfold BX12_coming_118
      rw [ic]
      rcases e4 with ⟨e4, e6⟩ | ⟨e4, e6⟩
      case inr => exact sat_pos e4 (skip fun z => by
        rcases z.2.2 with w | w
        · exact e6 w
        · exact hn w)
      have hc : cmC T Y x j := ⟨q2, q3, Or.inl e6⟩
      have fin : ∀ (h1 : ea_H) (Z : Nat → Nat → Int), Z = (@ite _ (Y 4 j = 0) (Classical.propDecidable _) (upX (upX Y 3 j (bmw (Y 3 j + 1))) 6 (kR x) (bmw (Y 6 (kR x) + 1))) Y) → Z 7 j = Y 7 j → fq [(384, 384), (386, 386)] [] h h1 → RM0 m Z h1 → DFm m D Z h1 → sat (qX12_coming_154 x1 x2 x3 x4 x5 h1) fun y => fq [(376, 377), (381, 390)] [] h0 y.2 ∧ gFx T L n G y.2 ∧ RM0 m (cmF T G x X m) y.2 ∧ DFm m D (cmF T G x X m) y.2 := by
        intro h1 Z hZ hZ7 f1 r1 df1
        obtain ⟨vt, pt, qt⟩ := pt2 h1 f1
        refine uqX12_coming_154 ?_
        unfold BX12_coming_154
        rw [ic1]
        exact sat_gd gx1 (sat_call pt (sat_bind (down h1 Z hc hZ hZ7 f1 r1 df1 vt qt) fun w hw => hw))
      refine sat_neg (by rw [e4]; exact i1_ne_0) (sat_gd gj (sat_ite (fun c => ?_) fun c => ?_))
      · rw [n_eq, v387, l_0] at c
        refine sat_gd gj (sat_gd gj (sat_let fun H22 q22 => ?_))
        have r7 : 7 * kT x + kD x < 70 := by omega
        have ic2 : x2.toNatClampNeg = 7 * kT x + kD x := by
          rw [n_idx, e2]
          rfl
        rw [ic2]
        refine sat_gd (vp80 e2 r7) (sat_gd (vp80 e2 r7) (sat_let fun H25 q25 => ?_))
        have r22 : ea_i H22 386 (7 * kT x + kD x) = ea_i h 386 (7 * kT x + kD x) := by
          rw [q22]
          exact i_ne (by decide)
        rw [r22] at q25
        have f1 : fq [(384, 384), (386, 386)] [] h H25 := (q22 ▸ fq_wi rfl : fq [(384, 384), (386, 386)] [] h H22).tr (q25 ▸ fq_wi rfl)
        refine fin H25 (upX (upX Y 3 j (bmw (Y 3 j + 1))) 6 (kR x) (bmw (Y 6 (kR x) + 1))) (by rw [if_pos c]) (by rw [upX_ne (by decide), upX_ne (by decide)]) f1 ?_ ?_
        · obtain ⟨⟨a0, a1⟩, a2, a3, a4, a5⟩ := r
          have e386 := a4 (kT x) (kD x) t1 t2
          refine ⟨⟨(f1.I 326 rfl 63 rfl).trans a0, a1⟩, fun k => ?_, fun l' hl2 hz => ?_, fun t d ht hd => ?_, fun k => or01 (f1.C 387 rfl rfl k) (a5 k)⟩
          · obtain ⟨w0, w1, w2, w3, w5, w7, w8, w9, w10⟩ := a2 k
            rw [f1.C 381 rfl rfl, f1.C 382 rfl rfl, f1.C 383 rfl rfl, f1.C 385 rfl rfl, f1.C 376 rfl rfl, f1.C 388 rfl rfl, f1.C 389 rfl rfl, f1.C 390 rfl rfl]
            refine ⟨w0, w1, w2, ?_, w5, w7, w8, w9, w10⟩
            rw [q25, hI_ne (by decide), q22, hI_row, upX_ne (by decide), upX_row, n_add, hI_eq, (a2 j).2.2.2.1, l_1, w3]
            rfl
          · rw [upX_ne (by decide), upX_ne (by decide)] at hz
            rw [upX_ne (by decide), upX_ne (by decide), f1.C 387 rfl rfl]
            exact a3 l' hl2 hz
          · rw [q25, hI_row, upX_row, n_add, hI_eq, e386, l_1, q22, hI_ne (by decide)]
            by_cases w : t = kT x ∧ d = kD x
            · rw [if_pos (by omega), w.1, w.2, if_pos (by unfold kR; omega)]
              rfl
            · rw [if_neg (by omega), if_neg (by unfold kR; omega), upX_ne (by decide)]
              exact a4 t d ht hd
        · intro l' hl2 hz
          rw [upX_ne (by decide), upX_ne (by decide)] at hz
          rw [upX_ne (show (5 : Nat) ≠ 6 by decide), upX_ne (show (5 : Nat) ≠ 3 by decide), f1.C 377 rfl rfl]
          exact df l' hl2 hz
      · rw [n_eq, v387, l_0] at c
        exact fin h Y (by rw [if_neg c]) rfl (fq_rfl _ _ _) r df
    refine sat_ite (fun c => ?_) fun c => ?_
    · rw [n_eq, v387, l_0] at c
      exact lastly fun z => z.1 c
    rw [n_eq, v387, l_0] at c
    refine sat_gd gj (sat_ite (fun c2 => ?_) fun c2 => ?_)
    · rw [n_lt, v383, e3] at c2
      exact lastly fun z => by omega
    rw [n_lt, v383, e3] at c2
    have hc : cmC T Y x j := ⟨q2, q3, Or.inr ⟨c, by omega⟩⟩
    refine sat_gd gx1 (sat_call pt (sat_bind (down h Y hc (by rw [if_neg c]) rfl (fq_rfl _ _ _) r df vt qt) fun w hw => hw))
theorem m_coming (ok : tOk T) (hL : tList T L) (he : e < L.length) (hgo : kGo (L.getD e 0) ≠ 1) (hG : G 7 0 = m) {X : Nat → Nat → Int} {b : Int} (hX : XOk T m (fun _ => b) X) (hb : b ≤ 1000) (hD : ∀ l, D l = (kMin (L.getD e 0) : Int) / 1440) {x1 : Int32} (e1 : x1.toInt = e) {h : ea_H} (g : gFx T L n G h) (r : RM0 m X h) (df : DFm m D X h) :
    sat (qX12_coming x1 h) fun y => fq [(376, 377), (381, 390)] [] h y.2 ∧ gFx T L n G y.2 ∧ RM0 m (evX T L G (L.getD e 0) X) y.2 ∧ DFm m D (evX T L G (L.getD e 0) X) y.2 := by
  have h9 := t_len2 ok hL
  have hxk := (hL.2 _).mp (getD_mem he)
  obtain ⟨t1, t2, t3, t4, t5, t6, t7, t8⟩ := t_bounds ok hxk
  have hm2 : (G 7 0).toNat = m := by omega
  have hev : evX T L G (L.getD e 0) X = if G 3 (8 * kR (L.getD e 0) + kI (L.getD e 0)) = 0 then cmF T G (L.getD e 0) X m else X := by
    unfold evX coX
    rw [if_neg hgo, hm2]
  rw [hev]
  obtain ⟨-, c1, c2, c3⟩ := g.2.1.2 e he
  have hdn := ok.1
  have hmis : hI h 334 (8 * (7 * kT (L.getD e 0) + kD (L.getD e 0)) + kI (L.getD e 0)) = G 3 (8 * kR (L.getD e 0) + kI (L.getD e 0)) := by
    obtain ⟨m2, s, -, -, g3, -⟩ := g.2.2
    exact g3 _ _ _ t1 t2 t3
  generalize hx : L.getD e 0 = x at *
  have ic1 : x1.toNatClampNeg = e := by
    rw [n_idx, e1]
    rfl
  have v2 : (ea_i h 338 e).toInt = ((7 * kT x + kD x : Nat) : Int) := c2
  have v3 : (ea_i h 339 e).toInt = kI x := c3
  have gx1 := vp80 e1 (show e < 1000 by omega)
  unfold qX12_coming
  refine uqX12_coming_0 ?_
  unfold BX12_coming_0
  rw [ic1]
  refine sat_gd gx1 (sat_sub (sat_gd gx1 (sat_sub ?_)))
  generalize ea_i h 338 e = z2 at *
  generalize ea_i h 339 e = z3 at *
  have j0 : (z2 / (7 : Int32)).toInt = kT x := by
    rw [n_div7 (by omega), v2]
    omega
  have jc : (z2 / (7 : Int32)).toNatClampNeg = kT x := by
    rw [n_idx, j0]
    rfl
  have i0 : ((8 : Int32) * z2 + z3).toInt = 8 * (7 * (kT x : Int) + kD x) + kI x := by
    rw [n_add, n_mul, v2, v3, l_8]
    simp (disch := omega) only [n_bm]
    omega
  have i1 : ((8 : Int32) * z2 + z3).toInt = ((8 * (7 * kT x + kD x) + kI x : Nat) : Int) := by
    rw [i0]
    omega
  have jc2 : ((8 : Int32) * z2 + z3).toNatClampNeg = 8 * (7 * kT x + kD x) + kI x := by
    rw [n_idx, i1]
    rfl
  have vS : (ea_i h 328 (kT x)).toInt = tS T (kT x) := g.1.2.1 _ t1
  have run : ∀ x4 : Int32, ((x4 = 1 ∧ kI x + 1 = tS T (kT x)) ∨ (x4 = 0 ∧ ¬ kI x + 1 = tS T (kT x))) → sat (qX12_coming_34 x1 z2 z3 x4 h) fun y => fq [(376, 377), (381, 390)] [] h y.2 ∧ gFx T L n G y.2 ∧ RM0 m (if G 3 (8 * kR x + kI x) = 0 then cmF T G x X m else X) y.2 ∧ DFm m D (if G 3 (8 * kR x + kI x) = 0 then cmF T G x X m else X) y.2 := by
    intro x4 h4
    refine uqX12_coming_34 ?_
    unfold BX12_coming_34
    rw [jc2]
    refine sat_gd (vp80 i1 (by omega)) (sat_ite (fun c => ?_) fun c => ?_)
    · rw [n_eq, hI_eq, hmis, l_0] at c
      rw [if_pos c]
      have H := m_com54 (n := n) (D := D) ok hL he hG hX hb (by rw [hx]; exact hD) e1 (by rw [hx]; exact v2) (by rw [hx]; exact v3) (by rw [hx]; exact h4) (h0 := h) m 0 h 0 (by omega) rfl g r df (fq_rfl _ _ _)
      rw [hx] at H
      exact H
    · rw [n_eq, hI_eq, hmis, l_0] at c
      rw [if_neg c]
      exact sat_ret ⟨fq_rfl _ _ _, g, r, df⟩
  have v1 := n_pred (x := ea_i h 328 (kT x)) (by omega)
  rw [vS] at v1
  rw [jc]
  refine sat_gd (vp80 j0 t1) (sat_ite (fun c => ?_) fun c => ?_)
  · rw [n_eq, v1, v3] at c
    exact run 1 (Or.inl ⟨rfl, by omega⟩)
  · rw [n_eq, v1, v3] at c
    exact run 0 (Or.inr ⟨rfl, by omega⟩)
end CM
