/-! calls: road, stopOf, late -/
def wNew (w : Nat → Nat → Nat) (a b m : Nat) : Nat → Nat → Nat := fun p q => if p = b ∧ q = a then m else if p = a ∧ q = b then m else w p q
theorem dir_new {w : Nat → Nat → Nat} {a b m : Nat} (hab : a ≠ b) (hm : 1 ≤ m) (p q : Nat) : (if p = b ∧ q = a then m else if p = a ∧ q = b then m else if p = q then 0 else if w p q = 0 then 1000000 else w p q) = if p = q then 0 else if wNew w a b m p q = 0 then 1000000 else wNew w a b m p q := by
  unfold wNew
  by_cases c1 : p = b ∧ q = a
  · rw [if_pos c1, if_pos c1, if_neg (by omega), if_neg (by omega)]
  · rw [if_neg c1, if_neg c1]
    by_cases c2 : p = a ∧ q = b
    · rw [if_pos c2, if_pos c2, if_neg (by omega), if_neg (by omega)]
    · rw [if_neg c2, if_neg c2]
theorem c_lay {w : Nat → Nat → Nat} (c1 : ∀ b c, w b c ≤ 999) {a b m : Nat} (ha : a < 12) (hb : b < 12) (hab : a ≠ b) (hm : 1 ≤ m) (hm2 : m ≤ 999) {x1 x2 x3 : Int32} (e1 : x1.toInt = a) (e2 : x2.toInt = b) (e3 : x3.toInt = m) {h : ea_H} (hs : ShC h)
    (c4 : ∀ a b, a < 12 → b < 12 → hI h 2 (12 * a + b) = ((if a = b then 0 else if w a b = 0 then 1000000 else w a b : Nat) : Int)) :
    sat (qX7_lay x1 x2 x3 h) fun y => fq [(2, 4)] [] h y.2 ∧ (∀ p q, p < 12 → q < 12 → hI y.2 2 (12 * p + q) = ((if p = q then 0 else if wNew w a b m p q = 0 then 1000000 else wNew w a b m p q : Nat) : Int)) ∧ (∃ D, fwI 0 12 (wNew w a b m) D ∧ ∀ p q, p < 12 → q < 12 → hI y.2 3 (12 * p + q) = D p q) ∧ ∃ D, fwI 1 12 (wNew w a b m) D ∧ ∀ p q, p < 12 → q < 12 → hI y.2 4 (12 * p + q) = D p q := by
  have j0 : ((12 : Int32) * x1 + x2).toInt = 12 * (a : Int) + b := by simp (disch := omega) only [n_add, n_sub, n_mul, n_neg, n_bm, n_idx, n_if, hI_eq, l_m1000, l_m100, l_m60, l_m19, l_m18, l_m17, l_m16, l_m15, l_m14, l_m13, l_m12, l_m11, l_m10, l_m8, l_m1, l_0, l_1, l_2, l_3, l_4, l_5, l_6, l_7, l_8, l_9, l_10, l_11, l_12, l_13, l_14, l_15, l_16, l_17, l_18, l_19, l_20, l_21, l_24, l_25, l_32, l_40, l_41, l_42, l_43, l_45, l_47, l_48, l_57, l_59, l_60, l_61, l_62, l_63, l_64, l_65, l_70, l_80, l_90, l_97, l_99, l_100, l_120, l_122, l_127, l_144, l_150, l_201, l_202, l_203, l_204, l_205, l_206, l_207, l_255, l_300, l_364, l_480, l_560, l_600, l_601, l_620, l_840, l_900, l_980, l_999, l_1000, l_1023, l_1024, l_1220, l_1439, l_1440, l_2240, l_2400, l_3000, l_3600, l_4095, l_4096, l_7320, l_9999, l_10079, l_10080, l_12000, l_99999, l_120000, l_1000000, l_2147483647, e1, e2]
  have j1 : ((12 : Int32) * x1 + x2).toInt = ((12 * a + b : Nat) : Int) := by
    rw [j0]
    omega
  have i0 : ((12 : Int32) * x2 + x1).toInt = 12 * (b : Int) + a := by simp (disch := omega) only [n_add, n_sub, n_mul, n_neg, n_bm, n_idx, n_if, hI_eq, l_m1000, l_m100, l_m60, l_m19, l_m18, l_m17, l_m16, l_m15, l_m14, l_m13, l_m12, l_m11, l_m10, l_m8, l_m1, l_0, l_1, l_2, l_3, l_4, l_5, l_6, l_7, l_8, l_9, l_10, l_11, l_12, l_13, l_14, l_15, l_16, l_17, l_18, l_19, l_20, l_21, l_24, l_25, l_32, l_40, l_41, l_42, l_43, l_45, l_47, l_48, l_57, l_59, l_60, l_61, l_62, l_63, l_64, l_65, l_70, l_80, l_90, l_97, l_99, l_100, l_120, l_122, l_127, l_144, l_150, l_201, l_202, l_203, l_204, l_205, l_206, l_207, l_255, l_300, l_364, l_480, l_560, l_600, l_601, l_620, l_840, l_900, l_980, l_999, l_1000, l_1023, l_1024, l_1220, l_1439, l_1440, l_2240, l_2400, l_3000, l_3600, l_4095, l_4096, l_7320, l_9999, l_10079, l_10080, l_12000, l_99999, l_120000, l_1000000, l_2147483647, e1, e2]
  have i1 : ((12 : Int32) * x2 + x1).toInt = ((12 * b + a : Nat) : Int) := by
    rw [i0]
    omega
  have jc : ((12 : Int32) * x1 + x2).toNatClampNeg = 12 * a + b := by
    rw [n_idx, j1]
    rfl
  have ic : ((12 : Int32) * x2 + x1).toNatClampNeg = 12 * b + a := by
    rw [n_idx, i1]
    rfl
  have c9 : ∀ p q, wNew w a b m p q ≤ 999 := by
    intro p q
    have := c1 p q
    unfold wNew
    split
    · exact hm2
    · split
      · exact hm2
      · exact this
  unfold qX7_lay BX7_lay_0
  rw [jc, ic]
  refine sat_gd (vp80 j1 (by omega)) (sat_let fun H2 q2 => sat_gd (vp80 i1 (by omega)) (sat_let fun H4 q4 => ?_))
  have f : fr [(2, 2)] h H4 := (q2 ▸ fr_wi rfl : fr [(2, 2)] h H2).tr (q4 ▸ fr_wi rfl)
  have d4 : ∀ p q, p < 12 → q < 12 → hI H4 2 (12 * p + q) = ((if p = q then 0 else if wNew w a b m p q = 0 then 1000000 else wNew w a b m p q : Nat) : Int) := by
    intro p q hp hq
    rw [← dir_new hab hm, q4, hI_row, q2, hI_row, c4 p q hp hq]
    by_cases z1 : p = b ∧ q = a
    · rw [if_pos z1, if_pos (by omega), e3]
    · rw [if_neg z1, if_neg (by omega)]
      by_cases z2 : p = a ∧ q = b
      · rw [if_pos z2, if_pos (by omega), e3]
      · rw [if_neg z2, if_neg (by omega)]
  have fb0 : fwI 0 0 (wNew w a b m) fun p q => if p = q then 0 else if wNew w a b m p q = 0 then 1000000 else wNew w a b m p q := fw_begin (fun p q _ _ => rfl) c9
  have fb1 : fwI 1 1 (wNew w a b m) fun p q => if p = q then 0 else if wNew w a b m p q = 0 then 1000000 else wNew w a b m p q := fw_begin (fun p q _ _ => rfl) c9
  refine sat_bind (c_reckon (Or.inl rfl) (x2 := 0) (Nat.zero_le _) rfl (ShC_core f.1 hs) fb0 d4) fun y hy => ?_
  obtain ⟨y1, D0, y2, y3⟩ := hy
  have d5 : ∀ p q, p < 12 → q < 12 → hI y.2 2 (12 * p + q) = ((if p = q then 0 else if wNew w a b m p q = 0 then 1000000 else wNew w a b m p q : Nat) : Int) := fun p q hp hq => (y1.I 2 rfl _).trans (d4 p q hp hq)
  refine sat_bind (c_reckon (Or.inr rfl) (x2 := 1) (by decide) rfl (ShC_core y1.1 (ShC_core f.1 hs)) fb1 d5) fun z hz => ?_
  obtain ⟨z1, D1, z2, z3⟩ := hz
  exact sat_ret ⟨(f.up rfl).tr ((y1.up rfl).tr (z1.up rfl)), fun p q hp hq => (z1.I 2 rfl _).trans (d5 p q hp hq), ⟨D0, y2, fun p q hp hq => (z1.I 3 rfl _).trans (y3 p q hp hq)⟩, D1, z2, z3⟩
theorem call_road {h : ea_H} {n : Nat} (hs : ShC h) (b : SBas h n) (r : SRd h n) (x1 x2 x3 : Int32) : tw (qX11_road x1 x2 x3 h) (qX12_road x1 x2 x3) fun h' => fq [(2, 4), (327, 327)] [] h h' ∧ SRd h' n := by
  have r' := r
  obtain ⟨b1, b2, b3, b4, b5, b6⟩ := b
  obtain ⟨w, D0, D1, c1, c2, c3, c4, ⟨c5, c6⟩, c7, c8⟩ := r
  have no : ¬ ((0 ≤ x1.toInt ∧ x1.toInt < n) ∧ (0 ≤ x2.toInt ∧ x2.toInt < n) ∧ x1.toInt ≠ x2.toInt ∧ 1 ≤ x3.toInt ∧ x3.toInt ≤ 999) → sat (some ((0 : Int32), h)) fun y => sat (qX12_road x1 x2 x3 y.2) fun z => y.1 = z.1 ∧ fq [(2, 4), (327, 327)] [] h z.2 ∧ SRd z.2 n := by
    intro hc
    refine sat_ret ?_
    show sat (qX12_road x1 x2 x3 h) _
    have ret : sat (some ((0 : Int32), h)) fun z => (0 : Int32) = z.1 ∧ fq [(2, 4), (327, 327)] [] h z.2 ∧ SRd z.2 n := sat_ret ⟨rfl, fq_rfl _ _ _, r'⟩
    unfold qX12_road BX12_road_0
    obtain ⟨v1, q1, s1⟩ := m_isTown x1 (h := h) (by omega)
    refine sat_call q1 ?_
    rcases s1 with ⟨r1, s1⟩ | ⟨r1, s1⟩
    · exact sat_pos r1 (ret)
    refine sat_neg (by rw [r1]; exact i1_ne_0) ?_
    obtain ⟨v2, q2, s2⟩ := m_isTown x2 (h := h) (by omega)
    refine sat_call q2 ?_
    rcases s2 with ⟨r2, s2⟩ | ⟨r2, s2⟩
    · exact sat_pos r2 (ret)
    refine sat_neg (by rw [r2]; exact i1_ne_0) ?_
    refine sat_ite (fun c9 => ?_) fun c9 => ?_
    · simp only [n_lt, n_le, n_eq, hI_eq, l_m1000, l_m100, l_m60, l_m19, l_m18, l_m17, l_m16, l_m15, l_m14, l_m13, l_m12, l_m11, l_m10, l_m8, l_m1, l_0, l_1, l_2, l_3, l_4, l_5, l_6, l_7, l_8, l_9, l_10, l_11, l_12, l_13, l_14, l_15, l_16, l_17, l_18, l_19, l_20, l_21, l_24, l_25, l_32, l_40, l_41, l_42, l_43, l_45, l_47, l_48, l_57, l_59, l_60, l_61, l_62, l_63, l_64, l_65, l_70, l_80, l_90, l_97, l_99, l_100, l_120, l_122, l_127, l_144, l_150, l_201, l_202, l_203, l_204, l_205, l_206, l_207, l_255, l_300, l_364, l_480, l_560, l_600, l_601, l_620, l_840, l_900, l_980, l_999, l_1000, l_1023, l_1024, l_1220, l_1439, l_1440, l_2240, l_2400, l_3000, l_3600, l_4095, l_4096, l_7320, l_9999, l_10079, l_10080, l_12000, l_99999, l_120000, l_1000000, l_2147483647] at c9
      exact ret
    simp only [n_lt, n_le, n_eq, hI_eq, l_m1000, l_m100, l_m60, l_m19, l_m18, l_m17, l_m16, l_m15, l_m14, l_m13, l_m12, l_m11, l_m10, l_m8, l_m1, l_0, l_1, l_2, l_3, l_4, l_5, l_6, l_7, l_8, l_9, l_10, l_11, l_12, l_13, l_14, l_15, l_16, l_17, l_18, l_19, l_20, l_21, l_24, l_25, l_32, l_40, l_41, l_42, l_43, l_45, l_47, l_48, l_57, l_59, l_60, l_61, l_62, l_63, l_64, l_65, l_70, l_80, l_90, l_97, l_99, l_100, l_120, l_122, l_127, l_144, l_150, l_201, l_202, l_203, l_204, l_205, l_206, l_207, l_255, l_300, l_364, l_480, l_560, l_600, l_601, l_620, l_840, l_900, l_980, l_999, l_1000, l_1023, l_1024, l_1220, l_1439, l_1440, l_2240, l_2400, l_3000, l_3600, l_4095, l_4096, l_7320, l_9999, l_10079, l_10080, l_12000, l_99999, l_120000, l_1000000, l_2147483647] at c9
    obtain ⟨v3, q3, s3⟩ := m_isIn x3 1 999 h
    refine sat_call q3 ?_
    rcases s3 with ⟨r3, s3⟩ | ⟨r3, s3⟩
    · exact sat_pos r3 (ret)
    refine sat_neg (by rw [r3]; exact i1_ne_0) ?_
    rw [l_1, l_999] at s3
    omega
  unfold tw qX11_road BX11_road_0
  obtain ⟨v1, q1, s1⟩ := c_has x1 h
  refine sat_call q1 ?_
  rcases s1 with ⟨r1, s1⟩ | ⟨r1, s1⟩
  · exact sat_pos r1 (no (by omega))
  refine sat_neg (by rw [r1]; exact i1_ne_0) ?_
  obtain ⟨v2, q2, s2⟩ := c_has x2 h
  refine sat_call q2 ?_
  rcases s2 with ⟨r2, s2⟩ | ⟨r2, s2⟩
  · exact sat_pos r2 (no (by omega))
  refine sat_neg (by rw [r2]; exact i1_ne_0) ?_
  refine sat_ite (fun d3 => ?_) fun d3 => ?_
  · simp only [n_lt, n_le, n_eq, hI_eq, l_m1000, l_m100, l_m60, l_m19, l_m18, l_m17, l_m16, l_m15, l_m14, l_m13, l_m12, l_m11, l_m10, l_m8, l_m1, l_0, l_1, l_2, l_3, l_4, l_5, l_6, l_7, l_8, l_9, l_10, l_11, l_12, l_13, l_14, l_15, l_16, l_17, l_18, l_19, l_20, l_21, l_24, l_25, l_32, l_40, l_41, l_42, l_43, l_45, l_47, l_48, l_57, l_59, l_60, l_61, l_62, l_63, l_64, l_65, l_70, l_80, l_90, l_97, l_99, l_100, l_120, l_122, l_127, l_144, l_150, l_201, l_202, l_203, l_204, l_205, l_206, l_207, l_255, l_300, l_364, l_480, l_560, l_600, l_601, l_620, l_840, l_900, l_980, l_999, l_1000, l_1023, l_1024, l_1220, l_1439, l_1440, l_2240, l_2400, l_3000, l_3600, l_4095, l_4096, l_7320, l_9999, l_10079, l_10080, l_12000, l_99999, l_120000, l_1000000, l_2147483647] at d3
    exact no (by omega)
  simp only [n_lt, n_le, n_eq, hI_eq, l_m1000, l_m100, l_m60, l_m19, l_m18, l_m17, l_m16, l_m15, l_m14, l_m13, l_m12, l_m11, l_m10, l_m8, l_m1, l_0, l_1, l_2, l_3, l_4, l_5, l_6, l_7, l_8, l_9, l_10, l_11, l_12, l_13, l_14, l_15, l_16, l_17, l_18, l_19, l_20, l_21, l_24, l_25, l_32, l_40, l_41, l_42, l_43, l_45, l_47, l_48, l_57, l_59, l_60, l_61, l_62, l_63, l_64, l_65, l_70, l_80, l_90, l_97, l_99, l_100, l_120, l_122, l_127, l_144, l_150, l_201, l_202, l_203, l_204, l_205, l_206, l_207, l_255, l_300, l_364, l_480, l_560, l_600, l_601, l_620, l_840, l_900, l_980, l_999, l_1000, l_1023, l_1024, l_1220, l_1439, l_1440, l_2240, l_2400, l_3000, l_3600, l_4095, l_4096, l_7320, l_9999, l_10079, l_10080, l_12000, l_99999, l_120000, l_1000000, l_2147483647] at d3
  refine sat_ite (fun d4 => ?_) fun d4 => ?_
  · simp only [n_lt, n_le, n_eq, hI_eq, l_m1000, l_m100, l_m60, l_m19, l_m18, l_m17, l_m16, l_m15, l_m14, l_m13, l_m12, l_m11, l_m10, l_m8, l_m1, l_0, l_1, l_2, l_3, l_4, l_5, l_6, l_7, l_8, l_9, l_10, l_11, l_12, l_13, l_14, l_15, l_16, l_17, l_18, l_19, l_20, l_21, l_24, l_25, l_32, l_40, l_41, l_42, l_43, l_45, l_47, l_48, l_57, l_59, l_60, l_61, l_62, l_63, l_64, l_65, l_70, l_80, l_90, l_97, l_99, l_100, l_120, l_122, l_127, l_144, l_150, l_201, l_202, l_203, l_204, l_205, l_206, l_207, l_255, l_300, l_364, l_480, l_560, l_600, l_601, l_620, l_840, l_900, l_980, l_999, l_1000, l_1023, l_1024, l_1220, l_1439, l_1440, l_2240, l_2400, l_3000, l_3600, l_4095, l_4096, l_7320, l_9999, l_10079, l_10080, l_12000, l_99999, l_120000, l_1000000, l_2147483647] at d4
    exact no (by omega)
  simp only [n_lt, n_le, n_eq, hI_eq, l_m1000, l_m100, l_m60, l_m19, l_m18, l_m17, l_m16, l_m15, l_m14, l_m13, l_m12, l_m11, l_m10, l_m8, l_m1, l_0, l_1, l_2, l_3, l_4, l_5, l_6, l_7, l_8, l_9, l_10, l_11, l_12, l_13, l_14, l_15, l_16, l_17, l_18, l_19, l_20, l_21, l_24, l_25, l_32, l_40, l_41, l_42, l_43, l_45, l_47, l_48, l_57, l_59, l_60, l_61, l_62, l_63, l_64, l_65, l_70, l_80, l_90, l_97, l_99, l_100, l_120, l_122, l_127, l_144, l_150, l_201, l_202, l_203, l_204, l_205, l_206, l_207, l_255, l_300, l_364, l_480, l_560, l_600, l_601, l_620, l_840, l_900, l_980, l_999, l_1000, l_1023, l_1024, l_1220, l_1439, l_1440, l_2240, l_2400, l_3000, l_3600, l_4095, l_4096, l_7320, l_9999, l_10079, l_10080, l_12000, l_99999, l_120000, l_1000000, l_2147483647] at d4
  refine sat_eti (fun d5 => ?_) fun d5 => ?_
  · simp only [n_lt, n_le, n_eq, hI_eq, l_m1000, l_m100, l_m60, l_m19, l_m18, l_m17, l_m16, l_m15, l_m14, l_m13, l_m12, l_m11, l_m10, l_m8, l_m1, l_0, l_1, l_2, l_3, l_4, l_5, l_6, l_7, l_8, l_9, l_10, l_11, l_12, l_13, l_14, l_15, l_16, l_17, l_18, l_19, l_20, l_21, l_24, l_25, l_32, l_40, l_41, l_42, l_43, l_45, l_47, l_48, l_57, l_59, l_60, l_61, l_62, l_63, l_64, l_65, l_70, l_80, l_90, l_97, l_99, l_100, l_120, l_122, l_127, l_144, l_150, l_201, l_202, l_203, l_204, l_205, l_206, l_207, l_255, l_300, l_364, l_480, l_560, l_600, l_601, l_620, l_840, l_900, l_980, l_999, l_1000, l_1023, l_1024, l_1220, l_1439, l_1440, l_2240, l_2400, l_3000, l_3600, l_4095, l_4096, l_7320, l_9999, l_10079, l_10080, l_12000, l_99999, l_120000, l_1000000, l_2147483647] at d5
    exact no (by omega)
  simp only [n_lt, n_le, n_eq, hI_eq, l_m1000, l_m100, l_m60, l_m19, l_m18, l_m17, l_m16, l_m15, l_m14, l_m13, l_m12, l_m11, l_m10, l_m8, l_m1, l_0, l_1, l_2, l_3, l_4, l_5, l_6, l_7, l_8, l_9, l_10, l_11, l_12, l_13, l_14, l_15, l_16, l_17, l_18, l_19, l_20, l_21, l_24, l_25, l_32, l_40, l_41, l_42, l_43, l_45, l_47, l_48, l_57, l_59, l_60, l_61, l_62, l_63, l_64, l_65, l_70, l_80, l_90, l_97, l_99, l_100, l_120, l_122, l_127, l_144, l_150, l_201, l_202, l_203, l_204, l_205, l_206, l_207, l_255, l_300, l_364, l_480, l_560, l_600, l_601, l_620, l_840, l_900, l_980, l_999, l_1000, l_1023, l_1024, l_1220, l_1439, l_1440, l_2240, l_2400, l_3000, l_3600, l_4095, l_4096, l_7320, l_9999, l_10079, l_10080, l_12000, l_99999, l_120000, l_1000000, l_2147483647] at d5
  have e1 : x1.toInt = (x1.toInt.toNat : Int) := by omega
  have e2 : x2.toInt = (x2.toInt.toNat : Int) := by omega
  have e3 : x3.toInt = (x3.toInt.toNat : Int) := by omega
  have ha : x1.toInt.toNat < n := by omega
  have hb : x2.toInt.toNat < n := by omega
  have hab : x1.toInt.toNat ≠ x2.toInt.toNat := by omega
  have hm : 1 ≤ x3.toInt.toNat := by omega
  have hm2 : x3.toInt.toNat ≤ 999 := by omega
  generalize x1.toInt.toNat = a at *
  generalize x2.toInt.toNat = b at *
  generalize x3.toInt.toNat = m at *
  refine sat_bind (c_lay c1 (show a < 12 by omega) (show b < 12 by omega) hab hm hm2 e1 e2 e3 hs c4) fun y hy => ?_
  obtain ⟨y1, y2, ⟨E0, y3, y4⟩, E1, y5, y6⟩ := hy
  refine sat_ret ?_
  show sat (qX12_road x1 x2 x3 y.2) _
  have b5y : hI y.2 326 1 = n := (y1.I 326 rfl 1 rfl).trans b5
  have j0 : ((12 : Int32) * x1 + x2).toInt = 12 * (a : Int) + b := by simp (disch := omega) only [n_add, n_sub, n_mul, n_neg, n_bm, n_idx, n_if, hI_eq, l_m1000, l_m100, l_m60, l_m19, l_m18, l_m17, l_m16, l_m15, l_m14, l_m13, l_m12, l_m11, l_m10, l_m8, l_m1, l_0, l_1, l_2, l_3, l_4, l_5, l_6, l_7, l_8, l_9, l_10, l_11, l_12, l_13, l_14, l_15, l_16, l_17, l_18, l_19, l_20, l_21, l_24, l_25, l_32, l_40, l_41, l_42, l_43, l_45, l_47, l_48, l_57, l_59, l_60, l_61, l_62, l_63, l_64, l_65, l_70, l_80, l_90, l_97, l_99, l_100, l_120, l_122, l_127, l_144, l_150, l_201, l_202, l_203, l_204, l_205, l_206, l_207, l_255, l_300, l_364, l_480, l_560, l_600, l_601, l_620, l_840, l_900, l_980, l_999, l_1000, l_1023, l_1024, l_1220, l_1439, l_1440, l_2240, l_2400, l_3000, l_3600, l_4095, l_4096, l_7320, l_9999, l_10079, l_10080, l_12000, l_99999, l_120000, l_1000000, l_2147483647, e1, e2]
  have j1 : ((12 : Int32) * x1 + x2).toInt = ((12 * a + b : Nat) : Int) := by
    rw [j0]
    omega
  have i0 : ((12 : Int32) * x2 + x1).toInt = 12 * (b : Int) + a := by simp (disch := omega) only [n_add, n_sub, n_mul, n_neg, n_bm, n_idx, n_if, hI_eq, l_m1000, l_m100, l_m60, l_m19, l_m18, l_m17, l_m16, l_m15, l_m14, l_m13, l_m12, l_m11, l_m10, l_m8, l_m1, l_0, l_1, l_2, l_3, l_4, l_5, l_6, l_7, l_8, l_9, l_10, l_11, l_12, l_13, l_14, l_15, l_16, l_17, l_18, l_19, l_20, l_21, l_24, l_25, l_32, l_40, l_41, l_42, l_43, l_45, l_47, l_48, l_57, l_59, l_60, l_61, l_62, l_63, l_64, l_65, l_70, l_80, l_90, l_97, l_99, l_100, l_120, l_122, l_127, l_144, l_150, l_201, l_202, l_203, l_204, l_205, l_206, l_207, l_255, l_300, l_364, l_480, l_560, l_600, l_601, l_620, l_840, l_900, l_980, l_999, l_1000, l_1023, l_1024, l_1220, l_1439, l_1440, l_2240, l_2400, l_3000, l_3600, l_4095, l_4096, l_7320, l_9999, l_10079, l_10080, l_12000, l_99999, l_120000, l_1000000, l_2147483647, e1, e2]
  have i1 : ((12 : Int32) * x2 + x1).toInt = ((12 * b + a : Nat) : Int) := by
    rw [i0]
    omega
  have jc : ((12 : Int32) * x1 + x2).toNatClampNeg = 12 * a + b := by
    rw [n_idx, j1]
    rfl
  have ic : ((12 : Int32) * x2 + x1).toNatClampNeg = 12 * b + a := by
    rw [n_idx, i1]
    rfl
  unfold qX12_road BX12_road_0
  rw [jc, ic]
  obtain ⟨v6, q6, s6⟩ := m_isTown x1 (h := y.2) (by omega)
  refine sat_call q6 ?_
  rcases s6 with ⟨r6, s6⟩ | ⟨r6, s6⟩
  · exact sat_pos r6 (absurd s6 (by omega))
  refine sat_neg (by rw [r6]; exact i1_ne_0) ?_
  obtain ⟨v7, q7, s7⟩ := m_isTown x2 (h := y.2) (by omega)
  refine sat_call q7 ?_
  rcases s7 with ⟨r7, s7⟩ | ⟨r7, s7⟩
  · exact sat_pos r7 (absurd s7 (by omega))
  refine sat_neg (by rw [r7]; exact i1_ne_0) ?_
  refine sat_neg (by rw [n_eq]; omega) ?_
  obtain ⟨v8, q8, s8⟩ := m_isIn x3 1 999 y.2
  refine sat_call q8 ?_
  rcases s8 with ⟨r8, s8⟩ | ⟨r8, s8⟩
  · exact sat_pos r8 (absurd s8 (by rw [l_1, l_999]; omega))
  refine sat_neg (by rw [r8]; exact i1_ne_0) ?_
  refine sat_gd (vp80 j1 (by omega)) (sat_let fun H5 q5 => sat_gd (vp80 i1 (by omega)) (sat_let fun H7 q7 => sat_ret ?_))
  have f : fq [(327, 327)] [] y.2 H7 := (q5 ▸ fq_wi rfl : fq [(327, 327)] [] y.2 H5).tr (q7 ▸ fq_wi rfl)
  refine ⟨rfl, (y1.up rfl rfl).tr (f.up rfl rfl), wNew w a b m, E0, E1, ?_, ?_, ?_, ?_, ⟨y3, ?_⟩, y5, ?_⟩
  · intro p q
    have := c1 p q
    unfold wNew
    split
    · exact hm2
    · split
      · exact hm2
      · exact this
  · intro p q hpq
    unfold wNew
    rw [if_neg (by omega), if_neg (by omega)]
    exact c2 p q hpq
  · intro p q hp hq
    show hI H7 327 (12 * p + q) = _
    have c33 : hI y.2 327 (12 * p + q) = w p q := (y1.I 327 rfl _ rfl).trans (c3 p q hp hq)
    unfold wNew
    rw [q7, hI_row, q5, hI_row, c33]
    by_cases z1 : p = b ∧ q = a
    · rw [if_pos z1, if_pos (by omega), e3]
    · rw [if_neg z1, if_neg (by omega)]
      by_cases z2 : p = a ∧ q = b
      · rw [if_pos z2, if_pos (by omega), e3]
      · rw [if_neg z2, if_neg (by omega)]
  · exact fun p q hp hq => (f.I 2 rfl _ rfl).trans (y2 p q hp hq)
  · exact fun p q hp hq => (f.I 3 rfl _ rfl).trans (y4 p q hp hq)
  · exact fun p q hp hq => (f.I 4 rfl _ rfl).trans (y6 p q hp hq)
theorem c_train (x1 : Int32) (h : ea_H) : ∃ v, qX9_has x1 h = some (v, h) ∧ ((v = 0 ∧ ¬ (0 ≤ x1.toInt ∧ x1.toInt < hI h 5 0)) ∨ (v = 1 ∧ 0 ≤ x1.toInt ∧ x1.toInt < hI h 5 0)) := by
  unfold qX9_has BX9_has_0
  by_cases c1 : x1 < 0
  · refine ⟨0, if_pos c1, Or.inl ⟨rfl, ?_⟩⟩
    rw [n_lt, l_0] at c1
    omega
  · by_cases c2 : ea_i h 5 0 ≤ x1
    · refine ⟨0, (if_neg c1).trans (if_pos c2), Or.inl ⟨rfl, ?_⟩⟩
      rw [n_le, hI_eq] at c2
      omega
    · refine ⟨1, (if_neg c1).trans (if_neg c2), Or.inr ⟨rfl, ?_⟩⟩
      rw [n_lt, l_0] at c1
      rw [n_le, hI_eq] at c2
      omega
theorem c_hasRun (x1 x2 : Int32) (h : ea_H) : ∃ v, qX9_hasRun x1 x2 h = some (v, h) ∧ ((v = 0 ∧ ¬ ((0 ≤ x1.toInt ∧ x1.toInt < hI h 5 0) ∧ 0 ≤ x2.toInt ∧ x2.toInt < 7)) ∨ (v = 1 ∧ (0 ≤ x1.toInt ∧ x1.toInt < hI h 5 0) ∧ 0 ≤ x2.toInt ∧ x2.toInt < 7)) := by
  have H : sat (qX9_hasRun x1 x2 h) fun y => y.2 = h ∧ ((y.1 = 0 ∧ ¬ ((0 ≤ x1.toInt ∧ x1.toInt < hI h 5 0) ∧ 0 ≤ x2.toInt ∧ x2.toInt < 7)) ∨ (y.1 = 1 ∧ (0 ≤ x1.toInt ∧ x1.toInt < hI h 5 0) ∧ 0 ≤ x2.toInt ∧ x2.toInt < 7)) := by
    unfold qX9_hasRun BX9_hasRun_0
    obtain ⟨v1, q1, s1⟩ := c_train x1 h
    refine sat_call q1 ?_
    rcases s1 with ⟨r1, s1⟩ | ⟨r1, s1⟩
    · exact sat_pos r1 (sat_ret ⟨rfl, Or.inl ⟨rfl, by omega⟩⟩)
    refine sat_neg (by rw [r1]; exact i1_ne_0) ?_
    refine sat_ite (fun c2 => ?_) fun c2 => ?_
    · simp only [n_lt, n_le, n_eq, hI_eq, l_m1000, l_m100, l_m60, l_m19, l_m18, l_m17, l_m16, l_m15, l_m14, l_m13, l_m12, l_m11, l_m10, l_m8, l_m1, l_0, l_1, l_2, l_3, l_4, l_5, l_6, l_7, l_8, l_9, l_10, l_11, l_12, l_13, l_14, l_15, l_16, l_17, l_18, l_19, l_20, l_21, l_24, l_25, l_32, l_40, l_41, l_42, l_43, l_45, l_47, l_48, l_57, l_59, l_60, l_61, l_62, l_63, l_64, l_65, l_70, l_80, l_90, l_97, l_99, l_100, l_120, l_122, l_127, l_144, l_150, l_201, l_202, l_203, l_204, l_205, l_206, l_207, l_255, l_300, l_364, l_480, l_560, l_600, l_601, l_620, l_840, l_900, l_980, l_999, l_1000, l_1023, l_1024, l_1220, l_1439, l_1440, l_2240, l_2400, l_3000, l_3600, l_4095, l_4096, l_7320, l_9999, l_10079, l_10080, l_12000, l_99999, l_120000, l_1000000, l_2147483647] at c2
      exact sat_ret ⟨rfl, Or.inl ⟨rfl, by omega⟩⟩
    simp only [n_lt, n_le, n_eq, hI_eq, l_m1000, l_m100, l_m60, l_m19, l_m18, l_m17, l_m16, l_m15, l_m14, l_m13, l_m12, l_m11, l_m10, l_m8, l_m1, l_0, l_1, l_2, l_3, l_4, l_5, l_6, l_7, l_8, l_9, l_10, l_11, l_12, l_13, l_14, l_15, l_16, l_17, l_18, l_19, l_20, l_21, l_24, l_25, l_32, l_40, l_41, l_42, l_43, l_45, l_47, l_48, l_57, l_59, l_60, l_61, l_62, l_63, l_64, l_65, l_70, l_80, l_90, l_97, l_99, l_100, l_120, l_122, l_127, l_144, l_150, l_201, l_202, l_203, l_204, l_205, l_206, l_207, l_255, l_300, l_364, l_480, l_560, l_600, l_601, l_620, l_840, l_900, l_980, l_999, l_1000, l_1023, l_1024, l_1220, l_1439, l_1440, l_2240, l_2400, l_3000, l_3600, l_4095, l_4096, l_7320, l_9999, l_10079, l_10080, l_12000, l_99999, l_120000, l_1000000, l_2147483647] at c2
    refine sat_ite (fun c3 => ?_) fun c3 => ?_
    · simp only [n_lt, n_le, n_eq, hI_eq, l_m1000, l_m100, l_m60, l_m19, l_m18, l_m17, l_m16, l_m15, l_m14, l_m13, l_m12, l_m11, l_m10, l_m8, l_m1, l_0, l_1, l_2, l_3, l_4, l_5, l_6, l_7, l_8, l_9, l_10, l_11, l_12, l_13, l_14, l_15, l_16, l_17, l_18, l_19, l_20, l_21, l_24, l_25, l_32, l_40, l_41, l_42, l_43, l_45, l_47, l_48, l_57, l_59, l_60, l_61, l_62, l_63, l_64, l_65, l_70, l_80, l_90, l_97, l_99, l_100, l_120, l_122, l_127, l_144, l_150, l_201, l_202, l_203, l_204, l_205, l_206, l_207, l_255, l_300, l_364, l_480, l_560, l_600, l_601, l_620, l_840, l_900, l_980, l_999, l_1000, l_1023, l_1024, l_1220, l_1439, l_1440, l_2240, l_2400, l_3000, l_3600, l_4095, l_4096, l_7320, l_9999, l_10079, l_10080, l_12000, l_99999, l_120000, l_1000000, l_2147483647] at c3
      exact sat_ret ⟨rfl, Or.inl ⟨rfl, by omega⟩⟩
    simp only [n_lt, n_le, n_eq, hI_eq, l_m1000, l_m100, l_m60, l_m19, l_m18, l_m17, l_m16, l_m15, l_m14, l_m13, l_m12, l_m11, l_m10, l_m8, l_m1, l_0, l_1, l_2, l_3, l_4, l_5, l_6, l_7, l_8, l_9, l_10, l_11, l_12, l_13, l_14, l_15, l_16, l_17, l_18, l_19, l_20, l_21, l_24, l_25, l_32, l_40, l_41, l_42, l_43, l_45, l_47, l_48, l_57, l_59, l_60, l_61, l_62, l_63, l_64, l_65, l_70, l_80, l_90, l_97, l_99, l_100, l_120, l_122, l_127, l_144, l_150, l_201, l_202, l_203, l_204, l_205, l_206, l_207, l_255, l_300, l_364, l_480, l_560, l_600, l_601, l_620, l_840, l_900, l_980, l_999, l_1000, l_1023, l_1024, l_1220, l_1439, l_1440, l_2240, l_2400, l_3000, l_3600, l_4095, l_4096, l_7320, l_9999, l_10079, l_10080, l_12000, l_99999, l_120000, l_1000000, l_2147483647] at c3
    exact sat_ret ⟨rfl, Or.inr ⟨rfl, by omega⟩⟩
  obtain ⟨⟨v, h2⟩, q1, q2, q3⟩ := H
  have q2 : h2 = h := q2
  subst q2
  exact ⟨v, q1, q3⟩
