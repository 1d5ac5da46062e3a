/-! the reference: a going, who boards -/
theorem mv_comm {X : Nat → Nat → Int} {l : Nat} {mn st pl v : Int} (f : Nat) (hf : f ≤ 10) (k : Nat) : mvX (upX (upX X 4 l 0) 2 l v) l mn st pl f k = upX (mvX X l mn st pl) 2 l v f k := by
  have hc : f = 0 ∨ f = 1 ∨ f = 2 ∨ f = 3 ∨ f = 4 ∨ f = 5 ∨ f = 6 ∨ f = 7 ∨ f = 8 ∨ f = 9 ∨ f = 10 := by omega
  have e7 : ∀ q, (upX (upX X 4 l 0) 2 l v) 7 q = X 7 q := fun q => by rw [upX_ne (by decide), upX_ne (by decide)]
  rcases hc with rfl | rfl | rfl | rfl | rfl | rfl | rfl | rfl | rfl | rfl | rfl
  · rw [upX_ne (by decide), mvX_0, mvX_0, upX_ne (by decide), upX_ne (by decide)]
  · rw [upX_ne (by decide), mvX_1, mvX_1, upX_ne (by decide), upX_ne (by decide)]
  · rw [mvX_2, upX_row, upX_row, mvX_2, upX_ne (by decide)]
  · rw [upX_ne (by decide), mvX_3, mvX_3, upX_ne (by decide), upX_ne (by decide)]
  · rw [upX_ne (show (4 : Nat) ≠ 2 by decide), mvX_4, mvX_4, upX_ne (by decide), upX_row]
    split <;> rfl
  · rw [upX_ne (by decide), mvX_5, mvX_5, upX_ne (by decide), upX_ne (by decide)]
  · rw [upX_ne (by decide), mvX_6, mvX_6, upX_ne (by decide), upX_ne (by decide)]
  · rw [upX_ne (by decide), mvX_7, mvX_7, e7, e7]
  · rw [upX_ne (by decide), mvX_8, mvX_8, e7, upX_ne (by decide), upX_ne (by decide)]
  · rw [upX_ne (by decide), mvX_9, mvX_9, e7, upX_ne (by decide), upX_ne (by decide)]
  · rw [upX_ne (by decide), mvX_10, mvX_10, e7, upX_ne (by decide), upX_ne (by decide)]
theorem RM0_set {m l : Nat} {X : Nat → Nat → Int} {h h' : ea_H} {v : Int} (r : RM0 m X h) (f : fq [(383, 383), (387, 387)] [] h h') (e1 : ∀ k, hI h' 383 k = if k = l then v else hI h 383 k) (e2 : ∀ k, hI h' 387 k = if k = l then 0 else hI h 387 k) : RM0 m (upX (upX X 4 l 0) 2 l v) h' := by
  obtain ⟨⟨r0, r1⟩, r2, r3, r4, r5⟩ := r
  refine ⟨⟨(f.I 326 rfl 63 rfl).trans r0, r1⟩, fun k => ?_, fun l' hl2 hz => ?_, fun t d ht hd => ?_, fun k => ?_⟩
  · rw [f.C 381 rfl rfl, f.C 382 rfl rfl, f.C 384 rfl rfl, f.C 385 rfl rfl, f.C 376 rfl rfl, f.C 388 rfl rfl, f.C 389 rfl rfl, f.C 390 rfl rfl]
    obtain ⟨w0, w1, w2, w3, w5, w7, w8, w9, w10⟩ := r2 k
    refine ⟨w0, w1, ?_, w3, w5, w7, w8, w9, w10⟩
    rw [e1, upX_row, upX_ne (by decide), w2]
  · rw [upX_ne (by decide), upX_ne (by decide)] at hz
    rw [e2, upX_ne (by decide), upX_row, r3 l' hl2 hz]
  · rw [f.C 386 rfl rfl, upX_ne (by decide), upX_ne (by decide)]
    exact r4 t d ht hd
  · rw [e2]
    split
    · exact Or.inl rfl
    · exact r5 k
section GL
variable {T : Nat → Nat → Nat → Nat} {L : List Nat} {G : Nat → Nat → Int} {n m e : Nat} {D : Nat → Int}
theorem best_iff (ok : tOk T) (hL : tList T L) (he : e < L.length) (hgo : kGo (L.getD e 0) = 1) {to : Nat} {r : Int} (hr : mBest (tW T) L (kA (tW T) (L.getD e 0)) to 0 ((wRS (tW T) (wFrom L (kMin (L.getD e 0)))).2 (kA (tW T) (L.getD e 0)) to) r) :
    (r = e ↔ wLv (tGm T) (tW T) L (kS (L.getD e 0)) to ≠ 0) ∧ (wLv (tGm T) (tW T) L (kS (L.getD e 0)) to ≠ 0 → wV (tW T) L e to ≠ NOW ∧ wV (tW T) L e to % 8 = wLv (tGm T) (tW T) L (kS (L.getD e 0)) to) := by
  have hw := t_wL ok hL
  have hl := t_len2 ok hL
  have hG : isG (tW T) L (kA (tW T) (L.getD e 0)) e := ⟨he, hgo, rfl⟩
  have hz := wV_in hG
  have hxL := getD_mem he
  obtain ⟨Q1, Q2⟩ := wQ (gm := tGm T) hw (by omega) (t_gm hL) hz (to := to)
  generalize hx : L.getD e 0 = x at *
  obtain ⟨P, hP, hP2⟩ := wFrom_app hw (kMin x)
  have inW : ∀ z f, (z, f) ∈ wG (tW T) L → kMin x ≤ kMin z → (z, f) ∈ wG (tW T) (wFrom L (kMin x)) := by
    intro z f hzf hm
    have hz2 := wG_in hzf
    obtain ⟨f3, hf3⟩ := wG_of (tw := tW T) (wFrom_in.mpr ⟨hz2.1, hm⟩) hz2.2
    have h4 := wG_app (tw := tW T) P (wFrom L (kMin x)) hf3
    rw [← hP] at h4
    rw [wG_uniq hw hzf h4]
    exact hf3
  have outW : ∀ z f, (z, f) ∈ wG (tW T) (wFrom L (kMin x)) → (z, f) ∈ wG (tW T) L ∧ kMin x ≤ kMin z := by
    intro z f hzf
    have h4 := wG_app (tw := tW T) P (wFrom L (kMin x)) hzf
    rw [← hP] at h4
    exact ⟨h4, (wFrom_in.mp (wG_in hzf).1).2⟩
  have bestIff : r = e ↔ wBest (tW T) L x to (wV (tW T) L e) := by
    constructor
    · intro hre
      rcases hr with ⟨r1, r2⟩ | ⟨g, r1, r2, r3, r4, r5⟩
      · omega
      · have hge : g = e := by omega
        subst hge
        rw [← r4] at r5
        refine ⟨r5, fun z2 f2 q1 q2 q3 q4 => ?_⟩
        have h1 := wS_le (inW z2 f2 q1 q3) to
        rw [q2, ← r4] at h1
        have h2 := wDist hw hz q1 (fun w => q4 w.symm) r5
        omega
    · intro hb
      obtain ⟨b1, b2⟩ := hb
      have v1 := wS_le (inW x _ hz (Nat.le_refl _)) to
      have hNOW := wG_le_NOW hw (by omega) hz (to := to)
      rcases wS_at (tw := tW T) (S := wFrom L (kMin x)) (kA (tW T) x) to with w | ⟨z, f, w1, w2, w3⟩
      · omega
      · obtain ⟨o1, o2⟩ := outW z f w1
        by_cases hzx : z = x
        · subst hzx
          have hf := wG_uniq hw o1 hz
          subst hf
          rcases hr with ⟨r1, r2⟩ | ⟨g, r1, r2, r3, r4, r5⟩
          · rw [r2] at w3
            exact absurd w3.symm b1
          · rw [w3] at r4
            have hgx : L.getD g 0 = z := Classical.byContradiction fun q => wDist hw hz (wV_in r3) (fun w => q w.symm) b1 r4.symm
            have hge : g = e := by
              rcases Nat.lt_trichotomy g e with q | q | q
              · have := getD_lt hL.1 q he
                omega
              · exact q
              · have := getD_lt hL.1 q r3.1
                omega
            omega
        · have h1 := b2 z f o1 w2 o2 hzx
          omega
  refine ⟨bestIff.trans ⟨fun c => ?_, fun c => ?_⟩, fun c => ?_⟩
  · rw [Q1 c]
    have := (wF hw hz c.1).2.2.2.1
    omega
  · exact Classical.byContradiction fun q => c (Q2 q)
  · have hb : wBest (tW T) L x to (wV (tW T) L e) := Classical.byContradiction fun q => c (Q2 q)
    exact ⟨hb.1, (Q1 hb).symm⟩
def gFy (T : Nat → Nat → Nat → Nat) (L : List Nat) (n : Nat) (G : Nat → Nat → Int) (h : ea_H) : Prop := gFx T L n G h ∧ hI h 326 12 = 1 ∧ hI h 326 1 = n ∧ n ≤ 12 ∧ WaysM T L n h
theorem gFy_fq {A : List (Nat × Nat)} {h h' : ea_H} (f : fq A [] h h') (w : inB A 326 = false) (w1 : fre A [] [(328, 332), (336, 339)] [] = true) (w2 : fre A [] W_GM V_GM = true) (w3 : fre A [] [(336, 339), (341, 346)] [] = true) (g : gFy T L n G h) : gFy T L n G h' := by
  obtain ⟨g1, g2, g3, g4, g5, g6, g7⟩ := g
  have k := f.kq w3
  refine ⟨gFx_fq f w w1 w2 g1, (f.I 326 w 12 rfl).trans g2, (f.I 326 w 1 rfl).trans g3, g4, (gFx_fq f w w1 w2 g1).2.1, mRows_cg g4 (fun j _ => ⟨k.W 341 rfl j, k.W 342 rfl j, k.W 343 rfl j, k.W 344 rfl j⟩) (fun j _ => k.W 345 rfl j) g6, fun a ha => ?_⟩
  rw [k.W 346 rfl]
  exact g7 a ha
theorem m_best1 (ok : tOk T) (hL : tList T L) {a mi b : Nat} (ha : a < 12) (hb : b < n) {x1 x2 x3 : Int32} (e1 : x1.toInt = a) (e2 : x2.toInt = mi) (e3 : x3.toInt = b) {h : ea_H} (g : gFy T L n G h) :
    ∃ v, qX12_bestFrom x1 x2 x3 h = some (v, h) ∧ mBest (tW T) L a b 0 ((wRS (tW T) (wFrom L mi)).2 a b) v.toInt := by
  have h9 := t_len2 ok hL
  have hw := t_wL ok hL
  obtain ⟨g1, g2, g3, hn, ev, rw0, fs⟩ := g
  have H : sat (qX12_bestFrom x1 x2 x3 h) fun y => y.2 = h ∧ mBest (tW T) L a b 0 ((wRS (tW T) (wFrom L mi)).2 a b) y.1.toInt := by
    unfold qX12_bestFrom BX12_bestFrom_0
    have t0 : sat (qX12_table h) fun y => y.2 = h := by
      unfold qX12_table
      refine uqX12_table_0 ?_
      unfold BX12_table_0
      refine sat_neg (fun z => ?_) (sat_ret rfl)
      have := n_eq.mp z
      rw [hI_eq, g2] at this
      exact absurd this (by decide)
    refine sat_bind t0 fun y hy => ?_
    rw [hy]
    obtain ⟨v, p, r, -⟩ := m_going (by omega) ev rw0 fs ha e1 e2 (fun j hj => absurd hj (Nat.not_lt_zero _))
    refine sat_call p ?_
    rcases r with ⟨q1, q2⟩ | ⟨g, q1, q2, q3, q4⟩
    · exact sat_pos (n_eq.mpr (by rw [q1]; rfl)) (sat_ret ⟨rfl, Or.inl ⟨rfl, gFr_none hw b q2⟩⟩)
    · have hgl := q2.1
      have vn : ¬ v = -1 := fun q => by
        rw [q] at q1
        have : (-1 : Int) = (g : Int) := q1
        omega
      have kk : ((12 : Int32) * v + x3).toInt = 12 * (g : Int) + b := by simp (disch := omega) only [n_add, n_sub, n_mul, n_neg, n_bm, n_idx, n_if, hI_eq, l_m1000, l_m100, l_m60, l_m19, l_m18, l_m17, l_m16, l_m15, l_m14, l_m13, l_m12, l_m11, l_m10, l_m8, l_m1, l_0, l_1, l_2, l_3, l_4, l_5, l_6, l_7, l_8, l_9, l_10, l_11, l_12, l_13, l_14, l_15, l_16, l_17, l_18, l_19, l_20, l_21, l_24, l_25, l_32, l_40, l_41, l_42, l_43, l_45, l_47, l_48, l_57, l_59, l_60, l_61, l_62, l_63, l_64, l_65, l_70, l_80, l_90, l_97, l_99, l_100, l_120, l_122, l_127, l_144, l_150, l_201, l_202, l_203, l_204, l_205, l_206, l_207, l_255, l_300, l_364, l_480, l_560, l_600, l_601, l_620, l_840, l_900, l_980, l_999, l_1000, l_1023, l_1024, l_1220, l_1439, l_1440, l_2240, l_2400, l_3000, l_3600, l_4095, l_4096, l_7320, l_9999, l_10079, l_10080, l_12000, l_99999, l_120000, l_1000000, l_2147483647, q1, e3]
      have k1 : ((12 : Int32) * v + x3).toInt = ((12 * g + b : Nat) : Int) := by
        rw [kk]
        omega
      have ic2 : ((12 : Int32) * v + x3).toNatClampNeg = 12 * g + b := by
        rw [n_idx, k1]
        rfl
      refine sat_neg vn (sat_gd (vp80 k1 (by omega)) (sat_ret ⟨rfl, ?_⟩))
      show mBest _ _ _ _ _ _ (ea_i h 344 ((12 : Int32) * v + x3).toNatClampNeg).toInt
      rw [ic2, hI_eq, gFr_some hw b q2 q3 q4]
      rcases ((rw0 g (Nat.zero_le _) a q2).2 b hb).2 with w | ⟨g2, w1, w2, w3, w4, w5⟩
      · exact Or.inl w
      · exact Or.inr ⟨g2, w1, Nat.zero_le _, w3, w4, w5⟩
  obtain ⟨⟨v, h2⟩, q1, q2, q3⟩ := H
  have q2 : h2 = h := q2
  subst q2
  exact ⟨v, q1, q3⟩
theorem m_lea25 (ok : tOk T) (hL : tList T L) (he : e < L.length) (hgo : kGo (L.getD e 0) = 1) (hG : G 7 0 = m) {X : Nat → Nat → Int} {b : Int} (hX : XOk T m (fun _ => b) X) (hb : b ≤ 1000) {x1 x2 x3 x4 : Int32} (e1 : x1.toInt = e) (e2 : x2.toInt = ((7 * kT (L.getD e 0) + kD (L.getD e 0) : Nat) : Int)) (e3 : x3.toInt = kI (L.getD e 0)) (e4 : x4.toInt = kA (tW T) (L.getD e 0)) {h0 : ea_H} {P : Unit × ea_H → Prop}
    (K : ∀ h, fq [(376, 377), (381, 390)] [] h0 h → gFy T L n G h → RM0 m (if G 3 (8 * kR (L.getD e 0) + kI (L.getD e 0)) = 0 then bdF T L G (L.getD e 0) X m else X) h → DFm m D (if G 3 (8 * kR (L.getD e 0) + kI (L.getD e 0)) = 0 then bdF T L G (L.getD e 0) X m else X) h → sat (qX12_leaves_151 x2 x3 h) P) :
    ∀ (k j : Nat) (h : ea_H) (x5 : Int32), j + k = m → x5.toInt = j → gFy T L n G h → (j = 0 ∨ G 3 (8 * kR (L.getD e 0) + kI (L.getD e 0)) = 0) → RM0 m (bdF T L G (L.getD e 0) X j) h → DFm m D (bdF T L G (L.getD e 0) X j) h → fq [(376, 377), (381, 390)] [] h0 h → sat (qX12_leaves_25 x1 x2 x3 x4 x5 h) P := by
  have h9 := t_len2 ok hL
  have hxL := getD_mem he
  have hxk := (hL.2 _).mp hxL
  have hGe : isG (tW T) L (kA (tW T) (L.getD e 0)) e := ⟨he, hgo, rfl⟩
  obtain ⟨t1, t2, t3, t4, t5, t6, t7, t8⟩ := t_bounds ok hxk
  have bfi := fun (to : Nat) (r : Int) => best_iff (to := to) (r := r) ok hL he hgo
  generalize hx : L.getD e 0 = x at *
  have i0 : ((8 : Int32) * x2 + x3).toInt = 8 * (7 * (kT x : Int) + kD x) + kI x := by
    rw [n_add, n_mul, e2, e3, l_8]
    simp (disch := omega) only [n_bm]
    omega
  have i1 : ((8 : Int32) * x2 + x3).toInt = ((8 * (7 * kT x + kD x) + kI x : Nat) : Int) := by
    rw [i0]
    omega
  have jc2 : ((8 : Int32) * x2 + x3).toNatClampNeg = 8 * (7 * kT x + kD x) + kI x := by
    rw [n_idx, i1]
    rfl
  intro k
  induction k with
  | zero =>
    intro j h x5 hk e5 g hmiss r df f
    have hjm : j = m := by omega
    subst hjm
    refine uqX12_leaves_25 ?_
    unfold BX12_leaves_25
    refine sat_pos (by rw [n_le, hI_eq, r.1.1, e5]; omega) (K h f g ?_ ?_)
    · by_cases c : G 3 (8 * kR x + kI x) = 0
      · rw [if_pos c]
        exact r
      · rw [if_neg c]
        rcases hmiss with rfl | z
        · exact r
        · exact absurd z c
    · by_cases c : G 3 (8 * kR x + kI x) = 0
      · rw [if_pos c]
        exact df
      · rw [if_neg c]
        rcases hmiss with rfl | z
        · exact df
        · exact absurd z c
  | succ k ih =>
    intro j h x5 hk e5 g hmiss r df f
    have hj : j < m := by omega
    have hm := r.1.2
    have hj' : j < 120 := by omega
    have gj := vp80 e5 hj'
    have ic : x5.toNatClampNeg = j := by
      rw [n_idx, e5]
      rfl
    have ic1 : x1.toNatClampNeg = e := by
      rw [n_idx, e1]
      rfl
    have e51 := n_inc e5 (by omega)
    have gx1 := vp80 e1 (show e < 1000 by omega)
    obtain ⟨m2, s, ⟨a1, a2, a3, a4, a5, a6⟩, gb, gc, -⟩ := g.1.2.2
    have hm2 : m2 = m := by omega
    rw [hm2] at gb
    obtain ⟨⟨b1, b2, b3⟩, -⟩ := gb j hj
    have hmis : hI h 334 (8 * (7 * kT x + kD x) + kI x) = G 3 (8 * kR x + kI x) := gc _ _ _ t1 t2 t3
    refine uqX12_leaves_25 ?_
    unfold BX12_leaves_25
    rw [ic, ic1, jc2]
    refine sat_neg (by rw [n_le, hI_eq, r.1.1, e5]; omega) (sat_gd (vp80 i1 (by omega)) (sat_eti (fun c => ?_) fun c => ?_))
    · rw [n_eq, hI_eq, hmis, l_0] at c
      have hj0 : j = 0 := by
        rcases hmiss with z | z
        · exact z
        · exact absurd z c
      subst hj0
      refine K h f g ?_ ?_
      · rw [if_neg c]
        exact r
      · rw [if_neg c]
        exact df
    rw [n_eq, hI_eq, hmis, l_0] at c
    have XO := bdF_ok (G := G) ok hL hxL hgo hX j (by omega) j hj
    dsimp only at XO
    rw [if_neg (Nat.lt_irrefl _)] at XO
    generalize hY : bdF T L G x X j = Y at *
    have hs : bdF T L G x X (j + 1) = bdL T L G x Y j := by
      show bdL T L G x (bdF T L G x X j) j = _
      rw [hY]
    have v0 : (ea_i h 381 j).toInt = Y 0 j := (r.2.1 j).1
    have v1 : (ea_i h 382 j).toInt = Y 1 j := (r.2.1 j).2.1
    have skip : ¬ bdC T L G Y x j → sat (qX12_leaves_25 x1 x2 x3 x4 (x5 + 1) h) P := by
      intro hc
      refine ih (j + 1) h (x5 + 1) (by omega) e51 g (Or.inr c) ?_ ?_ f
      · rw [hs]
        unfold bdL
        rw [if_neg hc]
        exact r
      · rw [hs]
        unfold bdL
        rw [if_neg hc]
        exact df
    refine sat_gd gj (sat_eti (fun c2 => ?_) fun c2 => ?_)
    · rw [n_eq, v0, l_0] at c2
      exact skip fun z => c2 z.1
    rw [n_eq, v0, l_0] at c2
    refine sat_gd gj (sat_eti (fun c3 => ?_) fun c3 => ?_)
    · rw [n_eq, v1, e4] at c3
      exact skip fun z => c3 z.2.1
    rw [n_eq, v1, e4] at c3
    have mv : (ea_i h 336 e).toInt = kMin x := by
      have := (g.1.2.1.2 e he).1
      rw [hx] at this
      exact this
    have tv : (ea_i h 366 j).toInt = ((G 0 j).toNat : Int) := by
      rw [hI_eq, b1]
      omega
    have hto : (G 0 j).toNat < n := by omega
    obtain ⟨v, p, q⟩ := m_best1 ok hL t5 hto e4 mv tv g
    obtain ⟨B1, B2⟩ := bfi _ _ q
    refine sat_gd gx1 (sat_gd gj (sat_call p (sat_eti (fun c4 => ?_) fun c4 => ?_)))
    · refine skip fun z => c4 (n_eq.mpr ?_)
      rw [e1]
      exact B1.mpr z.2.2
    have c4 : v = x1 := c4
    have hn12 := g.2.2.2.1
    have hlv := B1.mp (by rw [c4, e1])
    obtain ⟨B3, B4⟩ := B2 hlv
    have hc : bdC T L G Y x j := ⟨c2, c3, hlv⟩
    have k0 : ((12 : Int32) * x1 + ea_i h 366 j).toInt = 12 * (e : Int) + (G 0 j).toNat := by simp (disch := omega) only [n_add, n_sub, n_mul, n_neg, n_bm, n_idx, n_if, hI_eq, l_m1000, l_m100, l_m60, l_m19, l_m18, l_m17, l_m16, l_m15, l_m14, l_m13, l_m12, l_m11, l_m10, l_m8, l_m1, l_0, l_1, l_2, l_3, l_4, l_5, l_6, l_7, l_8, l_9, l_10, l_11, l_12, l_13, l_14, l_15, l_16, l_17, l_18, l_19, l_20, l_21, l_24, l_25, l_32, l_40, l_41, l_42, l_43, l_45, l_47, l_48, l_57, l_59, l_60, l_61, l_62, l_63, l_64, l_65, l_70, l_80, l_90, l_97, l_99, l_100, l_120, l_122, l_127, l_144, l_150, l_201, l_202, l_203, l_204, l_205, l_206, l_207, l_255, l_300, l_364, l_480, l_560, l_600, l_601, l_620, l_840, l_900, l_980, l_999, l_1000, l_1023, l_1024, l_1220, l_1439, l_1440, l_2240, l_2400, l_3000, l_3600, l_4095, l_4096, l_7320, l_9999, l_10079, l_10080, l_12000, l_99999, l_120000, l_1000000, l_2147483647, e1, tv]
    have k1 : ((12 : Int32) * x1 + ea_i h 366 j).toInt = ((12 * e + (G 0 j).toNat : Nat) : Int) := by
      rw [k0]
      omega
    have kc : ((12 : Int32) * x1 + ea_i h 366 j).toNatClampNeg = 12 * e + (G 0 j).toNat := by
      rw [n_idx, k1]
      rfl
    have row := ((g.2.2.2.2.2.1 e (Nat.zero_le _) _ hGe).2 _ hto).1
    rcases row with ⟨w1, -⟩ | ⟨-, -, -, w4⟩
    · exact absurd w1 B3
    rw [B4] at w4
    dsimp only
    rw [kc]
    refine sat_gd gj (sat_gd (vp80 k1 (by omega)) (sat_gd gj (sat_let fun H15 q15 => sat_gd gj (sat_let fun H17 q17 => sat_gd gx1 ?_))))
    have f17 : fq [(383, 383), (387, 387)] [] h H17 := (q15 ▸ fq_wi rfl : fq [(383, 383), (387, 387)] [] h H15).tr (q17 ▸ fq_wi rfl)
    have R17 : RM0 m (upX (upX Y 4 j 0) 2 j ((wLv (tGm T) (tW T) L (kS x) (G 0 j).toNat : Nat) : Int)) H17 := RM0_set r f17 (fun k => by rw [q17, hI_ne (by decide), q15, hI_row, hI_eq, w4]) (fun k => by rw [q17, hI_row, q15, hI_ne (by decide)]; rfl)
    obtain ⟨vc, pc, qc⟩ := m_code e2 t1 t2 H17
    refine sat_call pc ?_
    have mv17 : (ea_i H17 336 e).toInt = kMin x := (f17.C 336 rfl rfl e).trans mv
    have XO7 := XO.2.2.2.2.1
    rw [c2, if_pos (by decide)] at XO7
    have e7 : (upX (upX Y 4 j 0) 2 j ((wLv (tGm T) (tW T) L (kS x) (G 0 j).toNat : Nat) : Int)) 7 j = Y 7 j := by rw [upX_ne (by decide), upX_ne (by decide)]
    refine sat_bind (m_turns (st := 1) e5 mv17 rfl qc hj R17 (by rw [e7]; omega) (by rw [e7]; omega) (fun _ => by rw [q17, hI_at]; rfl)) fun w hw => ?_
    obtain ⟨fw, rw0⟩ := hw
    have fa : fq [(376, 376), (381, 383), (385, 385), (387, 390)] [] h w.2 := (f17.up rfl rfl).tr (fw.up rfl rfl)
    refine ih (j + 1) w.2 (x5 + 1) (by omega) e51 (gFy_fq fa rfl rfl rfl rfl g) (Or.inr c) ?_ ?_ (f.tr (fa.up rfl rfl))
    · rw [hs]
      unfold bdL
      rw [if_pos hc]
      exact rw0.ext fun f hf k => mv_comm f hf k
    · rw [hs]
      unfold bdL
      rw [if_pos hc]
      intro l' hl2 hz
      rw [upX_ne (by decide), mvX_0] at hz
      rw [upX_ne (by decide), mvX_5, fa.C 377 rfl rfl]
      by_cases z : l' = j
      · rw [if_pos z] at hz
        omega
      · rw [if_neg z] at hz
        rw [if_neg z]
        exact df l' hl2 hz
end GL
