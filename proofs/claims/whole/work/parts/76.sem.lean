/-! calls: town, train, miles, road -/
theorem n_inc {x : Int32} {k : Nat} (e : x.toInt = k) (h : k < 2147483647) : (x + (1 : Int32)).toInt = ((k + 1 : Nat) : Int) := by
  rw [n_add, e, l_1, n_bm (by omega) (by omega)]
  omega
theorem i_of {h h' : ea_H} {a b k j : Nat} (e : hI h a k = hI h' b j) : ea_i h a k = ea_i h' b j := n_eq.mpr e
theorem call_town {h : ea_H} {n : Nat} (b : SBas h n) : tw (qX11_town h) qX12_town fun h' => fq [] [((1, 1), 0, 0), ((326, 326), 1, 1), ((326, 326), 12, 12)] h h' ∧ ∃ n', n ≤ n' ∧ SBas h' n' ∧ ((h' = h ∧ n' = n) ∨ hI h' 326 12 = 0) := by
  obtain ⟨b1, b2, b3, b4, b5, b6⟩ := b
  have b4' : (ea_i h 1 0).toInt = n := b4
  unfold tw qX11_town BX11_town_0
  refine sat_ite (fun c => ?_) fun c => ?_
  · simp only [n_lt, n_le, n_eq, hI_eq, l_m1000, l_m100, l_m60, l_m19, l_m18, l_m17, l_m16, l_m15, l_m14, l_m13, l_m12, l_m11, l_m10, l_m8, l_m1, l_0, l_1, l_2, l_3, l_4, l_5, l_6, l_7, l_8, l_9, l_10, l_11, l_12, l_13, l_14, l_15, l_16, l_17, l_18, l_19, l_20, l_21, l_24, l_25, l_32, l_40, l_41, l_42, l_43, l_45, l_47, l_48, l_57, l_59, l_60, l_61, l_62, l_63, l_64, l_65, l_70, l_80, l_90, l_97, l_99, l_100, l_120, l_122, l_127, l_144, l_150, l_201, l_202, l_203, l_204, l_205, l_206, l_207, l_255, l_300, l_364, l_480, l_560, l_600, l_601, l_620, l_840, l_900, l_980, l_999, l_1000, l_1023, l_1024, l_1220, l_1439, l_1440, l_2240, l_2400, l_3000, l_3600, l_4095, l_4096, l_7320, l_9999, l_10079, l_10080, l_12000, l_99999, l_120000, l_1000000, l_2147483647] at c
    refine sat_let fun H1 e1 => sat_ret ?_
    have f1 : fq [] [((1, 1), 0, 0)] h H1 := e1 ▸ fq_wf rfl
    have m1 : (ea_i H1 326 1).toInt = n := (f1.I 326 rfl 1 rfl).trans b5
    have k1 : (ea_i H1 1 0).toInt = ((n + 1 : Nat) : Int) := by
      rw [e1, i_eq, n_inc b4' (by omega)]
    show sat (qX12_town H1) _
    unfold qX12_town BX12_town_0
    refine sat_neg (by rw [n_eq, m1, l_12]; omega) (sat_let fun H2 e2 => sat_let fun H3 e3 => sat_ret ?_)
    have f2 : fq [] [((326, 326), 1, 1), ((326, 326), 12, 12)] H1 H2 := e2 ▸ fq_wf rfl
    have f3 : fq [] [((326, 326), 1, 1), ((326, 326), 12, 12)] H2 H3 := e3 ▸ fq_wf rfl
    have g := f2.tr f3
    have k3 : (ea_i H3 326 1).toInt = ((n + 1 : Nat) : Int) := by
      rw [e3, i_nk (by decide), e2, i_eq, n_inc m1 (by omega)]
    refine ⟨?_, (f1.up rfl rfl).tr (g.up rfl rfl), n + 1, by omega, ⟨?_, ?_, ?_, ?_, k3, by omega⟩, Or.inr ?_⟩
    · show ea_i H1 1 0 - 1 = ea_i H3 326 1 - 1
      rw [n_eq.mpr (k1.trans k3.symm)]
    · show hI H3 0 14 = hI H3 326 0
      rw [g.I 0 rfl 14 rfl, g.I 326 rfl 0 rfl, f1.I 0 rfl 14 rfl, f1.I 326 rfl 0 rfl]
      exact b1
    · show 0 ≤ hI H3 326 0
      rw [g.I 326 rfl 0 rfl, f1.I 326 rfl 0 rfl]
      exact b2
    · show hI H3 326 0 ≤ 10079
      rw [g.I 326 rfl 0 rfl, f1.I 326 rfl 0 rfl]
      exact b3
    · exact (g.I 1 rfl 0 rfl).trans k1
    · show hI H3 326 12 = 0
      rw [e3, hI_at]
      rfl
  · simp only [n_lt, n_le, n_eq, hI_eq, l_m1000, l_m100, l_m60, l_m19, l_m18, l_m17, l_m16, l_m15, l_m14, l_m13, l_m12, l_m11, l_m10, l_m8, l_m1, l_0, l_1, l_2, l_3, l_4, l_5, l_6, l_7, l_8, l_9, l_10, l_11, l_12, l_13, l_14, l_15, l_16, l_17, l_18, l_19, l_20, l_21, l_24, l_25, l_32, l_40, l_41, l_42, l_43, l_45, l_47, l_48, l_57, l_59, l_60, l_61, l_62, l_63, l_64, l_65, l_70, l_80, l_90, l_97, l_99, l_100, l_120, l_122, l_127, l_144, l_150, l_201, l_202, l_203, l_204, l_205, l_206, l_207, l_255, l_300, l_364, l_480, l_560, l_600, l_601, l_620, l_840, l_900, l_980, l_999, l_1000, l_1023, l_1024, l_1220, l_1439, l_1440, l_2240, l_2400, l_3000, l_3600, l_4095, l_4096, l_7320, l_9999, l_10079, l_10080, l_12000, l_99999, l_120000, l_1000000, l_2147483647] at c
    refine sat_ret ?_
    show sat (qX12_town h) _
    unfold qX12_town BX12_town_0
    exact sat_pos (by rw [n_eq, hI_eq, b5, l_12]; omega) (sat_ret ⟨rfl, fq_rfl _ _ _, n, Nat.le_refl _, ⟨b1, b2, b3, b4, b5, b6⟩, Or.inl ⟨rfl, rfl⟩⟩)
def tNew (T : Nat → Nat → Nat → Nat) : Nat → Nat → Nat → Nat := fun k t i => if k = 0 then tN T + 1 else T k t i
theorem tNew_ok {T : Nat → Nat → Nat → Nat} (ok : tOk T) (h : tN T < 10) : tOk (tNew T) := by
  obtain ⟨h1, h2, h3, h4, h5, h6⟩ := ok
  refine ⟨h, h2, fun t ht => h3 t ?_, h4, h5, h6⟩
  have : tN (tNew T) = tN T + 1 := rfl
  omega
theorem tNew_key {T : Nat → Nat → Nat → Nat} (ok : tOk T) (x : Nat) : tKey (tNew T) x ↔ tKey T x := by
  have e : tN (tNew T) = tN T + 1 := rfl
  constructor
  · rintro ⟨a1, a2, a3, a4⟩
    refine ⟨?_, a2, a3, a4⟩
    apply Nat.not_le.mp
    intro q
    have := ok.2.2.1 (kT x) q
    have a5 : (kI x < tS T (kT x)) ∨ kI x + 1 < tS T (kT x) := by
      rcases a4 with ⟨z1, z2, z3, z4⟩ | ⟨z1, z2, z3⟩
      · exact Or.inl z3
      · exact Or.inr z2
    omega
  · rintro ⟨a1, a2, a3, a4⟩
    exact ⟨by omega, a2, a3, a4⟩
theorem WaysC.new {T : Nat → Nat → Nat → Nat} (ok : tOk T) {h : ea_H} (c : WaysC T h) : WaysC (tNew T) h := by
  obtain ⟨L, c1, c2⟩ := c
  exact ⟨L, ⟨c1.1, fun x => (c1.2 x).trans (tNew_key ok x).symm⟩, c2⟩
theorem call_train {h : ea_H} {T : Nat → Nat → Nat → Nat} (b : STb h T) (wc : SWyC h T) : tw (qX11_train h) qX12_train fun h' => fq [] [((0, 0), 15, 15), ((5, 5), 0, 0), ((326, 326), 2, 2), ((326, 326), 12, 12)] h h' ∧ (h' = h ∨ hI h' 0 15 = 0 ∧ hI h' 326 12 = 0 ∧ STb h' (tNew T) ∧ SWyC h' (tNew T)) := by
  have b' := b
  obtain ⟨ok, ⟨b1, b2, b3, b4⟩, d1, d2, d3, d4⟩ := b
  have b1' : (ea_i h 5 0).toInt = tN T := b1
  have ok1 := ok.1
  unfold tw qX11_train BX11_train_0
  refine sat_ite (fun c => ?_) fun c => ?_
  · simp only [n_lt, n_le, n_eq, hI_eq, l_m1000, l_m100, l_m60, l_m19, l_m18, l_m17, l_m16, l_m15, l_m14, l_m13, l_m12, l_m11, l_m10, l_m8, l_m1, l_0, l_1, l_2, l_3, l_4, l_5, l_6, l_7, l_8, l_9, l_10, l_11, l_12, l_13, l_14, l_15, l_16, l_17, l_18, l_19, l_20, l_21, l_24, l_25, l_32, l_40, l_41, l_42, l_43, l_45, l_47, l_48, l_57, l_59, l_60, l_61, l_62, l_63, l_64, l_65, l_70, l_80, l_90, l_97, l_99, l_100, l_120, l_122, l_127, l_144, l_150, l_201, l_202, l_203, l_204, l_205, l_206, l_207, l_255, l_300, l_364, l_480, l_560, l_600, l_601, l_620, l_840, l_900, l_980, l_999, l_1000, l_1023, l_1024, l_1220, l_1439, l_1440, l_2240, l_2400, l_3000, l_3600, l_4095, l_4096, l_7320, l_9999, l_10079, l_10080, l_12000, l_99999, l_120000, l_1000000, l_2147483647] at c
    refine sat_let fun H0 e0 => sat_let fun H1 e1 => sat_ret ?_
    have f0 : fq [] [((0, 0), 15, 15), ((5, 5), 0, 0)] h H0 := e0 ▸ fq_wf rfl
    have f1 : fq [] [((0, 0), 15, 15), ((5, 5), 0, 0)] H0 H1 := e1 ▸ fq_wf rfl
    have f := f0.tr f1
    have m1 : (ea_i H1 326 2).toInt = tN T := (f.I 326 rfl 2 rfl).trans d1
    have k0 : ea_i H0 5 0 = ea_i h 5 0 := by
      rw [e0]
      exact i_ne (by decide)
    have k1 : (ea_i H1 5 0).toInt = ((tN T + 1 : Nat) : Int) := by
      rw [e1, i_eq, k0, n_inc b1' (by omega)]
    show sat (qX12_train H1) _
    unfold qX12_train BX12_train_0
    refine sat_neg (by rw [n_eq, m1, l_10]; omega) (sat_let fun H2 e2 => sat_let fun H3 e3 => sat_ret ?_)
    have f2 : fq [] [((326, 326), 2, 2), ((326, 326), 12, 12)] H1 H2 := e2 ▸ fq_wf rfl
    have f3 : fq [] [((326, 326), 2, 2), ((326, 326), 12, 12)] H2 H3 := e3 ▸ fq_wf rfl
    have g := f2.tr f3
    have k3 : (ea_i H3 326 2).toInt = ((tN T + 1 : Nat) : Int) := by
      rw [e3, i_nk (by decide), e2, i_eq, n_inc m1 (by omega)]
    have F : fq [] [((0, 0), 15, 15), ((5, 5), 0, 0), ((326, 326), 2, 2), ((326, 326), 12, 12)] h H3 := (f.up rfl rfl).tr (g.up rfl rfl)
    refine ⟨?_, F, Or.inr ⟨?_, ?_, ⟨tNew_ok ok (by omega), ⟨?_, fun t ht => ?_, fun t i ht hi => ?_, fun t d ht hd => ?_⟩, ?_, fun t ht => ?_, fun t i ht hi => ?_, fun t d ht hd => ?_⟩, ?_⟩⟩
    · show ea_i H1 5 0 - 1 = ea_i H3 326 2 - 1
      rw [n_eq.mpr (k1.trans k3.symm)]
    · show hI H3 0 15 = 0
      rw [g.I 0 rfl 15 rfl, e1, hI_ne (by decide), e0, hI_at]
      rfl
    · show hI H3 326 12 = 0
      rw [e3, hI_at]
      rfl
    · exact (g.I 5 rfl 0 rfl).trans k1
    · exact (F.C 6 rfl rfl t).trans (b2 t ht)
    · show hI H3 7 _ = _ ∧ hI H3 8 _ = _ ∧ hI H3 9 _ = _
      rw [F.C 7 rfl rfl, F.C 8 rfl rfl, F.C 9 rfl rfl]
      exact b3 t i ht hi
    · exact (F.C 11 rfl rfl _).trans (b4 t d ht hd)
    · exact k3
    · exact (F.C 328 rfl rfl t).trans (d2 t ht)
    · show hI H3 329 _ = _ ∧ hI H3 330 _ = _ ∧ hI H3 331 _ = _
      rw [F.C 329 rfl rfl, F.C 330 rfl rfl, F.C 331 rfl rfl]
      exact d3 t i ht hi
    · exact (F.C 332 rfl rfl _).trans (d4 t d ht hd)
    · rcases SWyC.kq (F.kq rfl) wc with z | ⟨z1, z2⟩
      · exact Or.inl z
      · exact Or.inr ⟨z1, z2.new ok⟩
  · simp only [n_lt, n_le, n_eq, hI_eq, l_m1000, l_m100, l_m60, l_m19, l_m18, l_m17, l_m16, l_m15, l_m14, l_m13, l_m12, l_m11, l_m10, l_m8, l_m1, l_0, l_1, l_2, l_3, l_4, l_5, l_6, l_7, l_8, l_9, l_10, l_11, l_12, l_13, l_14, l_15, l_16, l_17, l_18, l_19, l_20, l_21, l_24, l_25, l_32, l_40, l_41, l_42, l_43, l_45, l_47, l_48, l_57, l_59, l_60, l_61, l_62, l_63, l_64, l_65, l_70, l_80, l_90, l_97, l_99, l_100, l_120, l_122, l_127, l_144, l_150, l_201, l_202, l_203, l_204, l_205, l_206, l_207, l_255, l_300, l_364, l_480, l_560, l_600, l_601, l_620, l_840, l_900, l_980, l_999, l_1000, l_1023, l_1024, l_1220, l_1439, l_1440, l_2240, l_2400, l_3000, l_3600, l_4095, l_4096, l_7320, l_9999, l_10079, l_10080, l_12000, l_99999, l_120000, l_1000000, l_2147483647] at c
    refine sat_ret ?_
    show sat (qX12_train h) _
    unfold qX12_train BX12_train_0
    exact sat_pos (by rw [n_eq, hI_eq, d1, l_10]; omega) (sat_ret ⟨rfl, fq_rfl _ _ _, Or.inl rfl⟩)
theorem m_milesOf2 {lo n a b : Nat} {w : Nat → Nat → Nat} (hn : n ≤ 12) (hln : lo ≤ n) (hw : ∀ b c, w b c ≤ 999) (hz : ∀ b c, n ≤ b ∨ n ≤ c → w b c = 0) (hb : b < 12) {x1 x2 x3 : Int32} (e1 : x1.toInt = a) (e2 : x2.toInt = b) (e3 : x3.toInt = lo) {h : ea_H} (hr : MRoad h w) (hnn : hI h 326 1 = n) :
    sat (qX12_milesOf x1 x2 x3 h) fun y => fr [(335, 335)] h y.2 ∧ ∃ f, rOk lo w a f ∧ f b ≤ 1000000 ∧ y.1.toInt = f b := by
  unfold qX12_milesOf BX12_milesOf_0 qX12_spreads
  have H : sat (qX12_spreads_2 x1 x3 0 h) (spP lo n a w h) := m_sp2 hn hln hw e1 e3 12 0 h 0 rfl rfl (fun x hx => absurd hx (Nat.not_lt_zero x)) hr hnn
  have H2 : sat (qX12_spreads_0 x1 x3 h) (spP lo n a w h) := by
    refine uqX12_spreads_0 ?_
    unfold BX12_spreads_0
    exact H
  refine sat_bind H2 fun y hy => ?_
  obtain ⟨y1, f, y2, y3, y4⟩ := hy
  refine sat_gd (vp80 e2 hb) (sat_ret ⟨y1, f, sp_end y3 hn hz y4, y3.2.1 b hb, ?_⟩)
  have ic : x2.toNatClampNeg = b := by
    rw [n_idx, e2]
    rfl
  show (ea_i y.2 335 x2.toNatClampNeg).toInt = _
  rw [ic, hI_eq]
  exact y2 b hb
/-- miles of two towns, as both have them -/
theorem r_least {n a b : Nat} {w D0 : Nat → Nat → Nat} (c5 : fwI 0 12 w D0) (ha : a < 12) (hb : b < 12) {f : Nat → Nat} (hf : rOk 0 w a f) (hf2 : f b ≤ 1000000) : f b = D0 a b := rOk_eq hf (fw_end c5 a (Nat.zero_le _) ha) (Nat.zero_le _) hb hf2 (c5.1 a b ha hb)
theorem call_miles {h : ea_H} {n : Nat} (b : SBas h n) (r : SRd h n) (x1 x2 : Int32) : tw (qX11_miles x1 x2 h) (qX12_miles x1 x2) fun h' => fq [(335, 335)] [] h h' := by
  obtain ⟨b1, b2, b3, b4, b5, b6⟩ := b
  obtain ⟨w, D0, D1, c1, c2, c3, c4, ⟨c5, c6⟩, c7, c8⟩ := r
  have no : ¬ ((0 ≤ x1.toInt ∧ x1.toInt < n) ∧ 0 ≤ x2.toInt ∧ x2.toInt < n) → sat (qX12_miles x1 x2 h) fun z => (-1 : Int32) = z.1 ∧ fq [(335, 335)] [] h z.2 := by
    intro hc
    unfold qX12_miles BX12_miles_0
    obtain ⟨v1, q1, s1⟩ := m_isTown x1 (h := h) (by omega)
    refine sat_call q1 ?_
    rcases s1 with ⟨r1, s1⟩ | ⟨r1, s1⟩
    · exact sat_pos r1 (sat_ret ⟨rfl, fq_rfl _ _ _⟩)
    refine sat_neg (by rw [r1]; exact i1_ne_0) ?_
    obtain ⟨v2, q2, s2⟩ := m_isTown x2 (h := h) (by omega)
    refine sat_call q2 ?_
    rcases s2 with ⟨r2, s2⟩ | ⟨r2, s2⟩
    · exact sat_pos r2 (sat_ret ⟨rfl, fq_rfl _ _ _⟩)
    refine sat_neg (by rw [r2]; exact i1_ne_0) ?_
    omega
  unfold tw qX11_miles BX11_miles_0
  obtain ⟨v1, q1, s1⟩ := c_has x1 h
  refine sat_call q1 ?_
  rcases s1 with ⟨r1, s1⟩ | ⟨r1, s1⟩
  · exact sat_pos r1 (sat_ret (no (by omega)))
  refine sat_neg (by rw [r1]; exact i1_ne_0) ?_
  obtain ⟨v2, q2, s2⟩ := c_has x2 h
  refine sat_call q2 ?_
  rcases s2 with ⟨r2, s2⟩ | ⟨r2, s2⟩
  · exact sat_pos r2 (sat_ret (no (by omega)))
  refine sat_neg (by rw [r2]; exact i1_ne_0) ?_
  have e1 : x1.toInt = (x1.toInt.toNat : Int) := by omega
  have e2 : x2.toInt = (x2.toInt.toNat : Int) := by omega
  have ha : x1.toInt.toNat < 12 := by omega
  have hb : x2.toInt.toNat < 12 := by omega
  have hna : x1.toInt.toNat < n := by omega
  generalize x1.toInt.toNat = a at *
  generalize x2.toInt.toNat = b at *
  have j0 : ((12 : Int32) * x1 + x2).toInt = 12 * (a : Int) + b := by simp (disch := omega) only [n_add, n_sub, n_mul, n_neg, n_bm, n_idx, n_if, hI_eq, l_m1000, l_m100, l_m60, l_m19, l_m18, l_m17, l_m16, l_m15, l_m14, l_m13, l_m12, l_m11, l_m10, l_m8, l_m1, l_0, l_1, l_2, l_3, l_4, l_5, l_6, l_7, l_8, l_9, l_10, l_11, l_12, l_13, l_14, l_15, l_16, l_17, l_18, l_19, l_20, l_21, l_24, l_25, l_32, l_40, l_41, l_42, l_43, l_45, l_47, l_48, l_57, l_59, l_60, l_61, l_62, l_63, l_64, l_65, l_70, l_80, l_90, l_97, l_99, l_100, l_120, l_122, l_127, l_144, l_150, l_201, l_202, l_203, l_204, l_205, l_206, l_207, l_255, l_300, l_364, l_480, l_560, l_600, l_601, l_620, l_840, l_900, l_980, l_999, l_1000, l_1023, l_1024, l_1220, l_1439, l_1440, l_2240, l_2400, l_3000, l_3600, l_4095, l_4096, l_7320, l_9999, l_10079, l_10080, l_12000, l_99999, l_120000, l_1000000, l_2147483647, e1, e2]
  have j1 : ((12 : Int32) * x1 + x2).toInt = ((12 * a + b : Nat) : Int) := by
    rw [j0]
    omega
  have ic : ((12 : Int32) * x1 + x2).toNatClampNeg = 12 * a + b := by
    rw [n_idx, j1]
    rfl
  have v : (ea_i h 3 (12 * a + b)).toInt = D0 a b := c6 a b ha hb
  have key : ∀ u : Int32, (D0 a b < 1000000 → u.toInt = D0 a b) → (¬ D0 a b < 1000000 → u = -1) → sat (qX12_miles x1 x2 h) fun z => u = z.1 ∧ fq [(335, 335)] [] h z.2 := by
    intro u u1 u2
    unfold qX12_miles BX12_miles_0
    obtain ⟨v3, q3, s3⟩ := m_isTown x1 (h := h) (by omega)
    refine sat_call q3 ?_
    rcases s3 with ⟨r3, s3⟩ | ⟨r3, s3⟩
    · exact sat_pos r3 (absurd s3 (by omega))
    refine sat_neg (by rw [r3]; exact i1_ne_0) ?_
    obtain ⟨v4, q4, s4⟩ := m_isTown x2 (h := h) (by omega)
    refine sat_call q4 ?_
    rcases s4 with ⟨r4, s4⟩ | ⟨r4, s4⟩
    · exact sat_pos r4 (absurd s4 (by omega))
    refine sat_neg (by rw [r4]; exact i1_ne_0) ?_
    refine sat_bind (m_milesOf2 b6 (Nat.zero_le _) c1 c2 hb e1 e2 (x3 := 0) rfl c3 b5) fun y hy => ?_
    obtain ⟨y1, f, y2, y3, y4⟩ := hy
    have y5 := r_least (n := n) c5 ha hb y2 y3
    rw [y5] at y3 y4
    refine sat_ite (fun c => ?_) fun c => ?_
    · rw [n_eq, y4, l_1000000] at c
      exact sat_ret ⟨u2 (by omega), y1.up rfl⟩
    · rw [n_eq, y4, l_1000000] at c
      exact sat_ret ⟨n_eq.mpr ((u1 (by omega)).trans y4.symm), y1.up rfl⟩
  unfold qX7_between BX7_between_0
  rw [ic]
  refine bd_gd (vp80 j1 (by omega)) (bd_sub (bd_ite (fun c => bd_ret (sat_ret (key _ (fun _ => v) fun z => ?_))) fun c => bd_ret (sat_ret (key _ (fun z => ?_) fun _ => rfl))))
  · rw [n_lt, v, l_1000000] at c
    omega
  · rw [n_lt, v, l_1000000] at c
    omega
