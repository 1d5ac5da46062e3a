/-! least miles: the class reckons those of all towns -/
theorem rk34 {o : Nat} (ho : o = 3 ∨ o = 4) {P : Unit × ea_H → Prop} {D : Nat → Nat → Nat} {k a : Nat} (hk : k < 12) (ha : a < 12) (hD : ∀ a b, a < 12 → b < 12 → D a b ≤ 1000000) (hkk : D k k = 0) {x3 x4 : Int32} (e3 : x3.toInt = k) (e4 : x4.toInt = a) :
    ∀ (n b : Nat) (x5 : Int32) (h : ea_H), 12 - b = n → b ≤ 12 → x5.toInt = b → ShC h → (∀ p q, p < 12 → q < 12 → hI h o (12 * p + q) = if p < a ∨ p = a ∧ q < b then (fwS k D p q : Int) else D p q) →
      (∀ h', fr [(o, o)] h h' → (∀ p q, p < 12 → q < 12 → hI h' o (12 * p + q) = if p < a + 1 then (fwS k D p q : Int) else D p q) → sat (qX7_reckon_24 (some o) x3 (x4 + 1) h') P) → sat (qX7_reckon_34 (some o) x3 x4 x5 h) P := by
  intro n
  induction n with
  | zero =>
    intro b x5 h hn hb e5 hs hv k24
    refine uqX7_reckon_34 ?_
    unfold BX7_reckon_34
    refine sat_pos (by rw [n_le]; simp (disch := omega) only [n_add, n_sub, n_mul, n_neg, n_bm, n_idx, n_if, hI_eq, l_m1000, l_m100, l_m60, l_m19, l_m18, l_m17, l_m16, l_m15, l_m14, l_m13, l_m12, l_m11, l_m10, l_m8, l_m1, l_0, l_1, l_2, l_3, l_4, l_5, l_6, l_7, l_8, l_9, l_10, l_11, l_12, l_13, l_14, l_15, l_16, l_17, l_18, l_19, l_20, l_21, l_24, l_25, l_32, l_40, l_41, l_42, l_43, l_45, l_47, l_48, l_57, l_59, l_60, l_61, l_62, l_63, l_64, l_65, l_70, l_80, l_90, l_97, l_99, l_100, l_120, l_122, l_127, l_144, l_150, l_201, l_202, l_203, l_204, l_205, l_206, l_207, l_255, l_300, l_364, l_480, l_560, l_600, l_601, l_620, l_840, l_900, l_980, l_999, l_1000, l_1023, l_1024, l_1220, l_1439, l_1440, l_2240, l_2400, l_3000, l_3600, l_4095, l_4096, l_7320, l_9999, l_10079, l_10080, l_12000, l_99999, l_120000, l_1000000, l_2147483647, e5]; omega) ?_
    refine k24 h (fr_rfl _ _) fun p q hp hq => ?_
    rw [hv p q hp hq]
    by_cases h1 : p < a + 1
    · rw [if_pos h1, if_pos (by omega)]
    · rw [if_neg h1, if_neg (by omega)]
  | succ n ih =>
    intro b x5 h hn hb e5 hs hv k24
    have hc : o < ea_n h ∧ ea_c h o = 20 ∧ ea_l h o = 144 := by
      rcases ho with rfl | rfl
      · exact hs.1 3 (by decide)
      · exact hs.1 4 (by decide)
    have i1 : ((12 : Int32) * x4 + x3).toInt = 12 * a + k := by simp (disch := omega) only [n_add, n_sub, n_mul, n_neg, n_bm, n_idx, n_if, hI_eq, l_m1000, l_m100, l_m60, l_m19, l_m18, l_m17, l_m16, l_m15, l_m14, l_m13, l_m12, l_m11, l_m10, l_m8, l_m1, l_0, l_1, l_2, l_3, l_4, l_5, l_6, l_7, l_8, l_9, l_10, l_11, l_12, l_13, l_14, l_15, l_16, l_17, l_18, l_19, l_20, l_21, l_24, l_25, l_32, l_40, l_41, l_42, l_43, l_45, l_47, l_48, l_57, l_59, l_60, l_61, l_62, l_63, l_64, l_65, l_70, l_80, l_90, l_97, l_99, l_100, l_120, l_122, l_127, l_144, l_150, l_201, l_202, l_203, l_204, l_205, l_206, l_207, l_255, l_300, l_364, l_480, l_560, l_600, l_601, l_620, l_840, l_900, l_980, l_999, l_1000, l_1023, l_1024, l_1220, l_1439, l_1440, l_2240, l_2400, l_3000, l_3600, l_4095, l_4096, l_7320, l_9999, l_10079, l_10080, l_12000, l_99999, l_120000, l_1000000, l_2147483647, e3, e4]
    have i2 : ((12 : Int32) * x3 + x5).toInt = 12 * k + b := by simp (disch := omega) only [n_add, n_sub, n_mul, n_neg, n_bm, n_idx, n_if, hI_eq, l_m1000, l_m100, l_m60, l_m19, l_m18, l_m17, l_m16, l_m15, l_m14, l_m13, l_m12, l_m11, l_m10, l_m8, l_m1, l_0, l_1, l_2, l_3, l_4, l_5, l_6, l_7, l_8, l_9, l_10, l_11, l_12, l_13, l_14, l_15, l_16, l_17, l_18, l_19, l_20, l_21, l_24, l_25, l_32, l_40, l_41, l_42, l_43, l_45, l_47, l_48, l_57, l_59, l_60, l_61, l_62, l_63, l_64, l_65, l_70, l_80, l_90, l_97, l_99, l_100, l_120, l_122, l_127, l_144, l_150, l_201, l_202, l_203, l_204, l_205, l_206, l_207, l_255, l_300, l_364, l_480, l_560, l_600, l_601, l_620, l_840, l_900, l_980, l_999, l_1000, l_1023, l_1024, l_1220, l_1439, l_1440, l_2240, l_2400, l_3000, l_3600, l_4095, l_4096, l_7320, l_9999, l_10079, l_10080, l_12000, l_99999, l_120000, l_1000000, l_2147483647, e3, e5]
    have i3 : ((12 : Int32) * x4 + x5).toInt = 12 * a + b := by simp (disch := omega) only [n_add, n_sub, n_mul, n_neg, n_bm, n_idx, n_if, hI_eq, l_m1000, l_m100, l_m60, l_m19, l_m18, l_m17, l_m16, l_m15, l_m14, l_m13, l_m12, l_m11, l_m10, l_m8, l_m1, l_0, l_1, l_2, l_3, l_4, l_5, l_6, l_7, l_8, l_9, l_10, l_11, l_12, l_13, l_14, l_15, l_16, l_17, l_18, l_19, l_20, l_21, l_24, l_25, l_32, l_40, l_41, l_42, l_43, l_45, l_47, l_48, l_57, l_59, l_60, l_61, l_62, l_63, l_64, l_65, l_70, l_80, l_90, l_97, l_99, l_100, l_120, l_122, l_127, l_144, l_150, l_201, l_202, l_203, l_204, l_205, l_206, l_207, l_255, l_300, l_364, l_480, l_560, l_600, l_601, l_620, l_840, l_900, l_980, l_999, l_1000, l_1023, l_1024, l_1220, l_1439, l_1440, l_2240, l_2400, l_3000, l_3600, l_4095, l_4096, l_7320, l_9999, l_10079, l_10080, l_12000, l_99999, l_120000, l_1000000, l_2147483647, e4, e5]
    have v1 := hv a k ha hk
    have v2 := hv k b hk (by omega)
    have v3 := hv a b ha (by omega)
    have d1 := hD a k ha hk
    have d2 := hD k b hk (by omega)
    have d3 := hD a b ha (by omega)
    have w1 : hI h o (12 * a + k) = D a k := by
      rw [v1]
      split
      · unfold fwS
        omega
      · rfl
    have w2 : hI h o (12 * k + b) = D k b := by
      rw [v2]
      split
      · unfold fwS
        omega
      · rfl
    have w3 : hI h o (12 * a + b) = D a b := by
      rw [v3, if_neg (by omega)]
    refine uqX7_reckon_34 ?_
    unfold BX7_reckon_34
    simp only [Option.getD_some]
    refine sat_neg (by rw [n_le]; simp (disch := omega) only [n_add, n_sub, n_mul, n_neg, n_bm, n_idx, n_if, hI_eq, l_m1000, l_m100, l_m60, l_m19, l_m18, l_m17, l_m16, l_m15, l_m14, l_m13, l_m12, l_m11, l_m10, l_m8, l_m1, l_0, l_1, l_2, l_3, l_4, l_5, l_6, l_7, l_8, l_9, l_10, l_11, l_12, l_13, l_14, l_15, l_16, l_17, l_18, l_19, l_20, l_21, l_24, l_25, l_32, l_40, l_41, l_42, l_43, l_45, l_47, l_48, l_57, l_59, l_60, l_61, l_62, l_63, l_64, l_65, l_70, l_80, l_90, l_97, l_99, l_100, l_120, l_122, l_127, l_144, l_150, l_201, l_202, l_203, l_204, l_205, l_206, l_207, l_255, l_300, l_364, l_480, l_560, l_600, l_601, l_620, l_840, l_900, l_980, l_999, l_1000, l_1023, l_1024, l_1220, l_1439, l_1440, l_2240, l_2400, l_3000, l_3600, l_4095, l_4096, l_7320, l_9999, l_10079, l_10080, l_12000, l_99999, l_120000, l_1000000, l_2147483647, e5]; omega) ?_
    refine sat_gd trivial (sat_gd ⟨hc.1, hc.2.1⟩ (sat_gd (ea_vpl hc.2.2 (n_in (by rw [i1]; omega) (by rw [i1]; omega))) ?_))
    refine sat_gd trivial (sat_gd ⟨hc.1, hc.2.1⟩ (sat_gd (ea_vpl hc.2.2 (n_in (by rw [i2]; omega) (by rw [i2]; omega))) ?_))
    refine sat_let fun v hvv => ?_
    have ev : v.toInt = D a k + D k b := by
      rw [hvv]
      show ((ea_i h o _) + (ea_i h o _)).toInt = _
      rw [n_add, n_idx, n_idx, i1, i2, hI_eq, hI_eq]
      rw [show ((12 * (a : Int) + k).toNat) = 12 * a + k by omega, show ((12 * (k : Int) + b).toNat) = 12 * k + b by omega, w1, w2]
      exact n_bm (by omega) (by omega)
    refine sat_gd trivial (sat_gd ⟨hc.1, hc.2.1⟩ (sat_gd (ea_vpl hc.2.2 (n_in (by rw [i3]; omega) (by rw [i3]; omega))) ?_))
    refine sat_gd trivial (sat_gd ⟨hc.1, hc.2.1⟩ (sat_gd (ea_vpl hc.2.2 (n_in (by rw [i3]; omega) (by rw [i3]; omega))) ?_))
    refine sat_let fun H eH => ?_
    have hidx : ((12 : Int32) * x4 + x5).toNatClampNeg = 12 * a + b := by rw [n_idx, i3]; omega
    have fH : fr [(o, o)] h H := by
      rw [eH]
      exact fr_wi (by simp [inB])
    have hH : ∀ p q, p < 12 → q < 12 → hI H o (12 * p + q) = if p < a ∨ p = a ∧ q < b + 1 then (fwS k D p q : Int) else D p q := by
      intro p q hp hq
      rw [eH]
      show hI (ea_wi h o _ _) o _ = _
      rw [hI_wi, hidx]
      by_cases hpq : p = a ∧ q = b
      · obtain ⟨rfl, rfl⟩ := hpq
        rw [if_pos ⟨rfl, rfl⟩]
        refine Eq.trans ?_ (if_pos (Or.inr ⟨rfl, by omega⟩)).symm
        rw [n_if]
        unfold fwS
        split
        · rename_i hc
          rw [n_lt, ev, hI_eq, w3] at hc
          rw [ev]
          omega
        · rename_i hc
          rw [n_lt, ev, hI_eq, w3] at hc
          rw [hI_eq, w3]
          omega
      · rw [if_neg (by omega), hv p q hp hq]
        by_cases h1 : p < a ∨ p = a ∧ q < b
        · rw [if_pos h1, if_pos (by omega)]
        · rw [if_neg h1, if_neg (by omega)]
    refine ih (b + 1) (x5 + 1) H (by omega) (by omega) (by simp (disch := omega) only [n_add, n_sub, n_mul, n_neg, n_bm, n_idx, n_if, hI_eq, l_m1000, l_m100, l_m60, l_m19, l_m18, l_m17, l_m16, l_m15, l_m14, l_m13, l_m12, l_m11, l_m10, l_m8, l_m1, l_0, l_1, l_2, l_3, l_4, l_5, l_6, l_7, l_8, l_9, l_10, l_11, l_12, l_13, l_14, l_15, l_16, l_17, l_18, l_19, l_20, l_21, l_24, l_25, l_32, l_40, l_41, l_42, l_43, l_45, l_47, l_48, l_57, l_59, l_60, l_61, l_62, l_63, l_64, l_65, l_70, l_80, l_90, l_97, l_99, l_100, l_120, l_122, l_127, l_144, l_150, l_201, l_202, l_203, l_204, l_205, l_206, l_207, l_255, l_300, l_364, l_480, l_560, l_600, l_601, l_620, l_840, l_900, l_980, l_999, l_1000, l_1023, l_1024, l_1220, l_1439, l_1440, l_2240, l_2400, l_3000, l_3600, l_4095, l_4096, l_7320, l_9999, l_10079, l_10080, l_12000, l_99999, l_120000, l_1000000, l_2147483647, e5]; omega) (ShC_core fH.1 hs) hH fun h' f' hv' => ?_
    exact k24 h' (fH.tr f') hv'
theorem rk24 {o : Nat} (ho : o = 3 ∨ o = 4) {P : Unit × ea_H → Prop} {D : Nat → Nat → Nat} {k : Nat} (hk : k < 12) (hD : ∀ a b, a < 12 → b < 12 → D a b ≤ 1000000) (hkk : D k k = 0) {x3 : Int32} (e3 : x3.toInt = k) :
    ∀ (n a : Nat) (x4 : Int32) (h : ea_H), 12 - a = n → a ≤ 12 → x4.toInt = a → ShC h → (∀ p q, p < 12 → q < 12 → hI h o (12 * p + q) = if p < a then (fwS k D p q : Int) else D p q) →
      (∀ h', fr [(o, o)] h h' → (∀ p q, p < 12 → q < 12 → hI h' o (12 * p + q) = fwS k D p q) → sat (qX7_reckon_15 (some o) (x3 + 1) h') P) → sat (qX7_reckon_24 (some o) x3 x4 h) P := by
  intro n
  induction n with
  | zero =>
    intro a x4 h hn hb e4 hs hv k15
    refine uqX7_reckon_24 ?_
    unfold BX7_reckon_24
    refine sat_pos (by rw [n_le]; simp (disch := omega) only [n_add, n_sub, n_mul, n_neg, n_bm, n_idx, n_if, hI_eq, l_m1000, l_m100, l_m60, l_m19, l_m18, l_m17, l_m16, l_m15, l_m14, l_m13, l_m12, l_m11, l_m10, l_m8, l_m1, l_0, l_1, l_2, l_3, l_4, l_5, l_6, l_7, l_8, l_9, l_10, l_11, l_12, l_13, l_14, l_15, l_16, l_17, l_18, l_19, l_20, l_21, l_24, l_25, l_32, l_40, l_41, l_42, l_43, l_45, l_47, l_48, l_57, l_59, l_60, l_61, l_62, l_63, l_64, l_65, l_70, l_80, l_90, l_97, l_99, l_100, l_120, l_122, l_127, l_144, l_150, l_201, l_202, l_203, l_204, l_205, l_206, l_207, l_255, l_300, l_364, l_480, l_560, l_600, l_601, l_620, l_840, l_900, l_980, l_999, l_1000, l_1023, l_1024, l_1220, l_1439, l_1440, l_2240, l_2400, l_3000, l_3600, l_4095, l_4096, l_7320, l_9999, l_10079, l_10080, l_12000, l_99999, l_120000, l_1000000, l_2147483647, e4]; omega) ?_
    refine k15 h (fr_rfl _ _) fun p q hp hq => ?_
    rw [hv p q hp hq, if_pos (by omega)]
  | succ n ih =>
    intro a x4 h hn hb e4 hs hv k15
    refine uqX7_reckon_24 ?_
    unfold BX7_reckon_24
    refine sat_neg (by rw [n_le]; simp (disch := omega) only [n_add, n_sub, n_mul, n_neg, n_bm, n_idx, n_if, hI_eq, l_m1000, l_m100, l_m60, l_m19, l_m18, l_m17, l_m16, l_m15, l_m14, l_m13, l_m12, l_m11, l_m10, l_m8, l_m1, l_0, l_1, l_2, l_3, l_4, l_5, l_6, l_7, l_8, l_9, l_10, l_11, l_12, l_13, l_14, l_15, l_16, l_17, l_18, l_19, l_20, l_21, l_24, l_25, l_32, l_40, l_41, l_42, l_43, l_45, l_47, l_48, l_57, l_59, l_60, l_61, l_62, l_63, l_64, l_65, l_70, l_80, l_90, l_97, l_99, l_100, l_120, l_122, l_127, l_144, l_150, l_201, l_202, l_203, l_204, l_205, l_206, l_207, l_255, l_300, l_364, l_480, l_560, l_600, l_601, l_620, l_840, l_900, l_980, l_999, l_1000, l_1023, l_1024, l_1220, l_1439, l_1440, l_2240, l_2400, l_3000, l_3600, l_4095, l_4096, l_7320, l_9999, l_10079, l_10080, l_12000, l_99999, l_120000, l_1000000, l_2147483647, e4]; omega) ?_
    refine rk34 ho hk (by omega : a < 12) hD hkk e3 e4 12 0 0 h (by omega) (by omega) rfl hs (fun p q hp hq => ?_) fun h' f' hv' => ?_
    · rw [hv p q hp hq]
      by_cases h1 : p < a
      · rw [if_pos h1, if_pos (by omega)]
      · rw [if_neg h1, if_neg (by omega)]
    · exact ih (a + 1) (x4 + 1) h' (by omega) (by omega) (by simp (disch := omega) only [n_add, n_sub, n_mul, n_neg, n_bm, n_idx, n_if, hI_eq, l_m1000, l_m100, l_m60, l_m19, l_m18, l_m17, l_m16, l_m15, l_m14, l_m13, l_m12, l_m11, l_m10, l_m8, l_m1, l_0, l_1, l_2, l_3, l_4, l_5, l_6, l_7, l_8, l_9, l_10, l_11, l_12, l_13, l_14, l_15, l_16, l_17, l_18, l_19, l_20, l_21, l_24, l_25, l_32, l_40, l_41, l_42, l_43, l_45, l_47, l_48, l_57, l_59, l_60, l_61, l_62, l_63, l_64, l_65, l_70, l_80, l_90, l_97, l_99, l_100, l_120, l_122, l_127, l_144, l_150, l_201, l_202, l_203, l_204, l_205, l_206, l_207, l_255, l_300, l_364, l_480, l_560, l_600, l_601, l_620, l_840, l_900, l_980, l_999, l_1000, l_1023, l_1024, l_1220, l_1439, l_1440, l_2240, l_2400, l_3000, l_3600, l_4095, l_4096, l_7320, l_9999, l_10079, l_10080, l_12000, l_99999, l_120000, l_1000000, l_2147483647, e4]; omega) (ShC_core f'.1 hs) hv' fun h2 f2 hv2 => k15 h2 (f'.tr f2) hv2
theorem rk15 {o : Nat} (ho : o = 3 ∨ o = 4) {P : Unit × ea_H → Prop} {lo : Nat} {w : Nat → Nat → Nat} :
    ∀ (n k : Nat) (x3 : Int32) (D : Nat → Nat → Nat) (h : ea_H), 12 - k = n → lo ≤ k → k ≤ 12 → x3.toInt = k → ShC h → fwI lo k w D → (∀ p q, p < 12 → q < 12 → hI h o (12 * p + q) = D p q) →
      (∀ h' D', fr [(o, o)] h h' → fwI lo 12 w D' → (∀ p q, p < 12 → q < 12 → hI h' o (12 * p + q) = D' p q) → P ((), h')) → sat (qX7_reckon_15 (some o) x3 h) P := by
  intro n
  induction n with
  | zero =>
    intro k x3 D h hn hl hb e3 hs hi hv kk
    refine uqX7_reckon_15 ?_
    unfold BX7_reckon_15
    refine sat_pos (by rw [n_le]; simp (disch := omega) only [n_add, n_sub, n_mul, n_neg, n_bm, n_idx, n_if, hI_eq, l_m1000, l_m100, l_m60, l_m19, l_m18, l_m17, l_m16, l_m15, l_m14, l_m13, l_m12, l_m11, l_m10, l_m8, l_m1, l_0, l_1, l_2, l_3, l_4, l_5, l_6, l_7, l_8, l_9, l_10, l_11, l_12, l_13, l_14, l_15, l_16, l_17, l_18, l_19, l_20, l_21, l_24, l_25, l_32, l_40, l_41, l_42, l_43, l_45, l_47, l_48, l_57, l_59, l_60, l_61, l_62, l_63, l_64, l_65, l_70, l_80, l_90, l_97, l_99, l_100, l_120, l_122, l_127, l_144, l_150, l_201, l_202, l_203, l_204, l_205, l_206, l_207, l_255, l_300, l_364, l_480, l_560, l_600, l_601, l_620, l_840, l_900, l_980, l_999, l_1000, l_1023, l_1024, l_1220, l_1439, l_1440, l_2240, l_2400, l_3000, l_3600, l_4095, l_4096, l_7320, l_9999, l_10079, l_10080, l_12000, l_99999, l_120000, l_1000000, l_2147483647, e3]; omega) (sat_ret ?_)
    have : k = 12 := by omega
    subst this
    exact kk h D (fr_rfl _ _) hi hv
  | succ n ih =>
    intro k x3 D h hn hl hb e3 hs hi hv kk
    refine uqX7_reckon_15 ?_
    unfold BX7_reckon_15
    refine sat_neg (by rw [n_le]; simp (disch := omega) only [n_add, n_sub, n_mul, n_neg, n_bm, n_idx, n_if, hI_eq, l_m1000, l_m100, l_m60, l_m19, l_m18, l_m17, l_m16, l_m15, l_m14, l_m13, l_m12, l_m11, l_m10, l_m8, l_m1, l_0, l_1, l_2, l_3, l_4, l_5, l_6, l_7, l_8, l_9, l_10, l_11, l_12, l_13, l_14, l_15, l_16, l_17, l_18, l_19, l_20, l_21, l_24, l_25, l_32, l_40, l_41, l_42, l_43, l_45, l_47, l_48, l_57, l_59, l_60, l_61, l_62, l_63, l_64, l_65, l_70, l_80, l_90, l_97, l_99, l_100, l_120, l_122, l_127, l_144, l_150, l_201, l_202, l_203, l_204, l_205, l_206, l_207, l_255, l_300, l_364, l_480, l_560, l_600, l_601, l_620, l_840, l_900, l_980, l_999, l_1000, l_1023, l_1024, l_1220, l_1439, l_1440, l_2240, l_2400, l_3000, l_3600, l_4095, l_4096, l_7320, l_9999, l_10079, l_10080, l_12000, l_99999, l_120000, l_1000000, l_2147483647, e3]; omega) ?_
    refine rk24 ho (by omega : k < 12) hi.1 (hi.2.1 k (by omega)) e3 12 0 0 h (by omega) (by omega) rfl hs (fun p q hp hq => by rw [if_neg (by omega)]; exact hv p q hp hq) fun h' f' hv' => ?_
    exact ih (k + 1) (x3 + 1) (fwS k D) h' (by omega) (by omega) (by omega) (by simp (disch := omega) only [n_add, n_sub, n_mul, n_neg, n_bm, n_idx, n_if, hI_eq, l_m1000, l_m100, l_m60, l_m19, l_m18, l_m17, l_m16, l_m15, l_m14, l_m13, l_m12, l_m11, l_m10, l_m8, l_m1, l_0, l_1, l_2, l_3, l_4, l_5, l_6, l_7, l_8, l_9, l_10, l_11, l_12, l_13, l_14, l_15, l_16, l_17, l_18, l_19, l_20, l_21, l_24, l_25, l_32, l_40, l_41, l_42, l_43, l_45, l_47, l_48, l_57, l_59, l_60, l_61, l_62, l_63, l_64, l_65, l_70, l_80, l_90, l_97, l_99, l_100, l_120, l_122, l_127, l_144, l_150, l_201, l_202, l_203, l_204, l_205, l_206, l_207, l_255, l_300, l_364, l_480, l_560, l_600, l_601, l_620, l_840, l_900, l_980, l_999, l_1000, l_1023, l_1024, l_1220, l_1439, l_1440, l_2240, l_2400, l_3000, l_3600, l_4095, l_4096, l_7320, l_9999, l_10079, l_10080, l_12000, l_99999, l_120000, l_1000000, l_2147483647, e3]; omega) (ShC_core f'.1 hs) (fw_step hl (by omega) hi) hv' fun h2 D2 f2 i2 v2 => kk h2 D2 (f'.tr f2) i2 v2
theorem c_reckon {o : Nat} (ho : o = 3 ∨ o = 4) {lo : Nat} {w D : Nat → Nat → Nat} {x2 : Int32} {h : ea_H} (hlo : lo ≤ 12) (e2 : x2.toInt = lo) (hs : ShC h) (hi : fwI lo lo w D) (hv : ∀ p q, p < 12 → q < 12 → hI h 2 (12 * p + q) = D p q) :
    sat (qX7_reckon (some o) x2 h) fun y => fr [(o, o)] h y.2 ∧ ∃ D', fwI lo 12 w D' ∧ ∀ p q, p < 12 → q < 12 → hI y.2 o (12 * p + q) = D' p q := by
  have hc : o < ea_n h ∧ ea_c h o = 20 ∧ ea_l h o = 144 := by
    rcases ho with rfl | rfl
    · exact hs.1 3 (by decide)
    · exact hs.1 4 (by decide)
  have hc2 : 2 < ea_n h ∧ ea_c h 2 = 20 ∧ ea_l h 2 = 144 := hs.1 2 (by decide)
  unfold qX7_reckon
  refine uqX7_reckon_0 ?_
  unfold BX7_reckon_0
  refine sat_gd rfl (sat_gd ⟨hc.1, hc.2.1⟩ (sat_gd (by decide) (sat_gd (by decide) (sat_gd (by decide) (sat_gd (by rw [hc2.2.2]; decide) (sat_gd (by show _ ≤ ea_l h o; rw [hc.2.2]; decide) (sat_let fun H eH => ?_)))))))
  have fH : fr [(o, o)] h H := by
    rw [eH]
    exact fr_wa (by simp [inB])
  refine rk15 ho (12 - lo) lo x2 D H rfl (Nat.le_refl _) hlo e2 (ShC_core fH.1 hs) hi (fun p q hp hq => ?_) fun h' D' f' i' v' => ⟨fH.tr f', D', i', v'⟩
  rw [eH]
  show hI (ea_wa h o _) o _ = _
  rw [hI_wa, if_pos rfl]
  show (va_cpy (ea_i h 2) (ea_i h o) 0 0 144 (12 * p + q)).toInt = _
  rw [← hv p q hp hq]
  unfold va_cpy
  simp only [Nat.zero_add, Nat.sub_zero, Nat.zero_le, true_and]
  rw [if_pos (by omega)]
  rfl
