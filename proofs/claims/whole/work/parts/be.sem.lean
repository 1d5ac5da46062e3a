/-! the class's constructor: roads -/
def CkO (o : Nat) (h : ea_H) : Prop := o < ea_n h ∧ ea_c h o = 20 ∧ ea_l h o = 144
theorem CkO_core {o : Nat} {h h' : ea_H} (e : ea_core h' = ea_core h) (c : CkO o h) : CkO o h' := by
  have e1 : ea_n h' = ea_n h := congrArg (fun c => c.1.1.1) e
  have e2 : ea_c h' = ea_c h := congrArg (fun c => c.2.1) e
  have e3 : ea_l h' = ea_l h := congrArg (fun c => c.2.2.1) e
  unfold CkO
  rw [e1, e2, e3]
  exact c
theorem rd34 {o : Nat} (ho : o = 3 ∨ o = 4) {P : Unit × ea_H → Prop} {D : Nat → Nat → Nat} {k a : Nat} (hk : k < 12) (ha : a < 12) (hD : ∀ a b, a < 12 → b < 12 → D a b ≤ 1000000) (hkk : D k k = 0) {x3 x4 : Int32} (e3 : x3.toInt = k) (e4 : x4.toInt = a) :
    ∀ (n b : Nat) (x5 : Int32) (h : ea_H), 12 - b = n → b ≤ 12 → x5.toInt = b → CkO o h → (∀ p q, p < 12 → q < 12 → hI h o (12 * p + q) = if p < a ∨ p = a ∧ q < b then (fwS k D p q : Int) else D p q) →
      (∀ h', fr [(o, o)] h h' → (∀ p q, p < 12 → q < 12 → hI h' o (12 * p + q) = if p < a + 1 then (fwS k D p q : Int) else D p q) → sat (qX7_reckon_dyn_24 1 (some o) x3 (x4 + 1) h') P) → sat (qX7_reckon_dyn_34 1 (some o) x3 x4 x5 h) P := by
  intro n
  induction n with
  | zero =>
    intro b x5 h hn hb e5 hs hv k24
    refine uqX7_reckon_dyn_34 ?_
    unfold BX7_reckon_dyn_34
    refine sat_pos (by rw [n_le]; simp (disch := omega) only [n_add, n_sub, n_mul, n_neg, n_bm, n_idx, n_if, hI_eq, l_m1000, l_m100, l_m60, l_m19, l_m18, l_m17, l_m16, l_m15, l_m14, l_m13, l_m12, l_m11, l_m10, l_m8, l_m1, l_0, l_1, l_2, l_3, l_4, l_5, l_6, l_7, l_8, l_9, l_10, l_11, l_12, l_13, l_14, l_15, l_16, l_17, l_18, l_19, l_20, l_21, l_24, l_25, l_32, l_40, l_41, l_42, l_43, l_45, l_47, l_48, l_57, l_59, l_60, l_61, l_62, l_63, l_64, l_65, l_70, l_80, l_90, l_97, l_99, l_100, l_120, l_122, l_127, l_144, l_150, l_201, l_202, l_203, l_204, l_205, l_206, l_207, l_255, l_300, l_364, l_480, l_560, l_600, l_601, l_620, l_840, l_900, l_980, l_999, l_1000, l_1023, l_1024, l_1220, l_1439, l_1440, l_2240, l_2400, l_3000, l_3600, l_4095, l_4096, l_7320, l_9999, l_10079, l_10080, l_12000, l_99999, l_120000, l_1000000, l_2147483647, e5]; omega) ?_
    refine k24 h (fr_rfl _ _) fun p q hp hq => ?_
    rw [hv p q hp hq]
    by_cases h1 : p < a + 1
    · rw [if_pos h1, if_pos (by omega)]
    · rw [if_neg h1, if_neg (by omega)]
  | succ n ih =>
    intro b x5 h hn hb e5 hs hv k24
    have hc : o < ea_n h ∧ ea_c h o = 20 ∧ ea_l h o = 144 := hs
    have i1 : ((12 : Int32) * x4 + x3).toInt = 12 * a + k := by simp (disch := omega) only [n_add, n_sub, n_mul, n_neg, n_bm, n_idx, n_if, hI_eq, l_m1000, l_m100, l_m60, l_m19, l_m18, l_m17, l_m16, l_m15, l_m14, l_m13, l_m12, l_m11, l_m10, l_m8, l_m1, l_0, l_1, l_2, l_3, l_4, l_5, l_6, l_7, l_8, l_9, l_10, l_11, l_12, l_13, l_14, l_15, l_16, l_17, l_18, l_19, l_20, l_21, l_24, l_25, l_32, l_40, l_41, l_42, l_43, l_45, l_47, l_48, l_57, l_59, l_60, l_61, l_62, l_63, l_64, l_65, l_70, l_80, l_90, l_97, l_99, l_100, l_120, l_122, l_127, l_144, l_150, l_201, l_202, l_203, l_204, l_205, l_206, l_207, l_255, l_300, l_364, l_480, l_560, l_600, l_601, l_620, l_840, l_900, l_980, l_999, l_1000, l_1023, l_1024, l_1220, l_1439, l_1440, l_2240, l_2400, l_3000, l_3600, l_4095, l_4096, l_7320, l_9999, l_10079, l_10080, l_12000, l_99999, l_120000, l_1000000, l_2147483647, e3, e4]
    have i2 : ((12 : Int32) * x3 + x5).toInt = 12 * k + b := by simp (disch := omega) only [n_add, n_sub, n_mul, n_neg, n_bm, n_idx, n_if, hI_eq, l_m1000, l_m100, l_m60, l_m19, l_m18, l_m17, l_m16, l_m15, l_m14, l_m13, l_m12, l_m11, l_m10, l_m8, l_m1, l_0, l_1, l_2, l_3, l_4, l_5, l_6, l_7, l_8, l_9, l_10, l_11, l_12, l_13, l_14, l_15, l_16, l_17, l_18, l_19, l_20, l_21, l_24, l_25, l_32, l_40, l_41, l_42, l_43, l_45, l_47, l_48, l_57, l_59, l_60, l_61, l_62, l_63, l_64, l_65, l_70, l_80, l_90, l_97, l_99, l_100, l_120, l_122, l_127, l_144, l_150, l_201, l_202, l_203, l_204, l_205, l_206, l_207, l_255, l_300, l_364, l_480, l_560, l_600, l_601, l_620, l_840, l_900, l_980, l_999, l_1000, l_1023, l_1024, l_1220, l_1439, l_1440, l_2240, l_2400, l_3000, l_3600, l_4095, l_4096, l_7320, l_9999, l_10079, l_10080, l_12000, l_99999, l_120000, l_1000000, l_2147483647, e3, e5]
    have i3 : ((12 : Int32) * x4 + x5).toInt = 12 * a + b := by simp (disch := omega) only [n_add, n_sub, n_mul, n_neg, n_bm, n_idx, n_if, hI_eq, l_m1000, l_m100, l_m60, l_m19, l_m18, l_m17, l_m16, l_m15, l_m14, l_m13, l_m12, l_m11, l_m10, l_m8, l_m1, l_0, l_1, l_2, l_3, l_4, l_5, l_6, l_7, l_8, l_9, l_10, l_11, l_12, l_13, l_14, l_15, l_16, l_17, l_18, l_19, l_20, l_21, l_24, l_25, l_32, l_40, l_41, l_42, l_43, l_45, l_47, l_48, l_57, l_59, l_60, l_61, l_62, l_63, l_64, l_65, l_70, l_80, l_90, l_97, l_99, l_100, l_120, l_122, l_127, l_144, l_150, l_201, l_202, l_203, l_204, l_205, l_206, l_207, l_255, l_300, l_364, l_480, l_560, l_600, l_601, l_620, l_840, l_900, l_980, l_999, l_1000, l_1023, l_1024, l_1220, l_1439, l_1440, l_2240, l_2400, l_3000, l_3600, l_4095, l_4096, l_7320, l_9999, l_10079, l_10080, l_12000, l_99999, l_120000, l_1000000, l_2147483647, e4, e5]
    have v1 := hv a k ha hk
    have v2 := hv k b hk (by omega)
    have v3 := hv a b ha (by omega)
    have d1 := hD a k ha hk
    have d2 := hD k b hk (by omega)
    have d3 := hD a b ha (by omega)
    have w1 : hI h o (12 * a + k) = D a k := by
      rw [v1]
      split
      · unfold fwS
        omega
      · rfl
    have w2 : hI h o (12 * k + b) = D k b := by
      rw [v2]
      split
      · unfold fwS
        omega
      · rfl
    have w3 : hI h o (12 * a + b) = D a b := by
      rw [v3, if_neg (by omega)]
    refine uqX7_reckon_dyn_34 ?_
    unfold BX7_reckon_dyn_34
    simp only [Option.getD_some]
    refine sat_neg (by rw [n_le]; simp (disch := omega) only [n_add, n_sub, n_mul, n_neg, n_bm, n_idx, n_if, hI_eq, l_m1000, l_m100, l_m60, l_m19, l_m18, l_m17, l_m16, l_m15, l_m14, l_m13, l_m12, l_m11, l_m10, l_m8, l_m1, l_0, l_1, l_2, l_3, l_4, l_5, l_6, l_7, l_8, l_9, l_10, l_11, l_12, l_13, l_14, l_15, l_16, l_17, l_18, l_19, l_20, l_21, l_24, l_25, l_32, l_40, l_41, l_42, l_43, l_45, l_47, l_48, l_57, l_59, l_60, l_61, l_62, l_63, l_64, l_65, l_70, l_80, l_90, l_97, l_99, l_100, l_120, l_122, l_127, l_144, l_150, l_201, l_202, l_203, l_204, l_205, l_206, l_207, l_255, l_300, l_364, l_480, l_560, l_600, l_601, l_620, l_840, l_900, l_980, l_999, l_1000, l_1023, l_1024, l_1220, l_1439, l_1440, l_2240, l_2400, l_3000, l_3600, l_4095, l_4096, l_7320, l_9999, l_10079, l_10080, l_12000, l_99999, l_120000, l_1000000, l_2147483647, e5]; omega) ?_
    refine sat_gd trivial (sat_gd ⟨hc.1, hc.2.1⟩ (sat_gd (ea_vpl hc.2.2 (n_in (by rw [i1]; omega) (by rw [i1]; omega))) ?_))
    refine sat_gd trivial (sat_gd ⟨hc.1, hc.2.1⟩ (sat_gd (ea_vpl hc.2.2 (n_in (by rw [i2]; omega) (by rw [i2]; omega))) ?_))
    refine sat_let fun v hvv => ?_
    have ev : v.toInt = D a k + D k b := by
      rw [hvv]
      show ((ea_i h o _) + (ea_i h o _)).toInt = _
      rw [n_add, n_idx, n_idx, i1, i2, hI_eq, hI_eq]
      rw [show ((12 * (a : Int) + k).toNat) = 12 * a + k by omega, show ((12 * (k : Int) + b).toNat) = 12 * k + b by omega, w1, w2]
      exact n_bm (by omega) (by omega)
    refine sat_gd trivial (sat_gd ⟨hc.1, hc.2.1⟩ (sat_gd (ea_vpl hc.2.2 (n_in (by rw [i3]; omega) (by rw [i3]; omega))) ?_))
    refine sat_gd trivial (sat_gd ⟨hc.1, hc.2.1⟩ (sat_gd (ea_vpl hc.2.2 (n_in (by rw [i3]; omega) (by rw [i3]; omega))) ?_))
    refine sat_let fun H eH => ?_
    have hidx : ((12 : Int32) * x4 + x5).toNatClampNeg = 12 * a + b := by rw [n_idx, i3]; omega
    have fH : fr [(o, o)] h H := by
      rw [eH]
      exact fr_wi (by simp [inB])
    have hH : ∀ p q, p < 12 → q < 12 → hI H o (12 * p + q) = if p < a ∨ p = a ∧ q < b + 1 then (fwS k D p q : Int) else D p q := by
      intro p q hp hq
      rw [eH]
      show hI (ea_wi h o _ _) o _ = _
      rw [hI_wi, hidx]
      by_cases hpq : p = a ∧ q = b
      · obtain ⟨rfl, rfl⟩ := hpq
        rw [if_pos ⟨rfl, rfl⟩]
        refine Eq.trans ?_ (if_pos (Or.inr ⟨rfl, by omega⟩)).symm
        rw [n_if]
        unfold fwS
        split
        · rename_i hc
          rw [n_lt, ev, hI_eq, w3] at hc
          rw [ev]
          omega
        · rename_i hc
          rw [n_lt, ev, hI_eq, w3] at hc
          rw [hI_eq, w3]
          omega
      · rw [if_neg (by omega), hv p q hp hq]
        by_cases h1 : p < a ∨ p = a ∧ q < b
        · rw [if_pos h1, if_pos (by omega)]
        · rw [if_neg h1, if_neg (by omega)]
    refine ih (b + 1) (x5 + 1) H (by omega) (by omega) (by simp (disch := omega) only [n_add, n_sub, n_mul, n_neg, n_bm, n_idx, n_if, hI_eq, l_m1000, l_m100, l_m60, l_m19, l_m18, l_m17, l_m16, l_m15, l_m14, l_m13, l_m12, l_m11, l_m10, l_m8, l_m1, l_0, l_1, l_2, l_3, l_4, l_5, l_6, l_7, l_8, l_9, l_10, l_11, l_12, l_13, l_14, l_15, l_16, l_17, l_18, l_19, l_20, l_21, l_24, l_25, l_32, l_40, l_41, l_42, l_43, l_45, l_47, l_48, l_57, l_59, l_60, l_61, l_62, l_63, l_64, l_65, l_70, l_80, l_90, l_97, l_99, l_100, l_120, l_122, l_127, l_144, l_150, l_201, l_202, l_203, l_204, l_205, l_206, l_207, l_255, l_300, l_364, l_480, l_560, l_600, l_601, l_620, l_840, l_900, l_980, l_999, l_1000, l_1023, l_1024, l_1220, l_1439, l_1440, l_2240, l_2400, l_3000, l_3600, l_4095, l_4096, l_7320, l_9999, l_10079, l_10080, l_12000, l_99999, l_120000, l_1000000, l_2147483647, e5]; omega) (CkO_core fH.1 hs) hH fun h' f' hv' => ?_
    exact k24 h' (fH.tr f') hv'
theorem rd24 {o : Nat} (ho : o = 3 ∨ o = 4) {P : Unit × ea_H → Prop} {D : Nat → Nat → Nat} {k : Nat} (hk : k < 12) (hD : ∀ a b, a < 12 → b < 12 → D a b ≤ 1000000) (hkk : D k k = 0) {x3 : Int32} (e3 : x3.toInt = k) :
    ∀ (n a : Nat) (x4 : Int32) (h : ea_H), 12 - a = n → a ≤ 12 → x4.toInt = a → CkO o h → (∀ p q, p < 12 → q < 12 → hI h o (12 * p + q) = if p < a then (fwS k D p q : Int) else D p q) →
      (∀ h', fr [(o, o)] h h' → (∀ p q, p < 12 → q < 12 → hI h' o (12 * p + q) = fwS k D p q) → sat (qX7_reckon_dyn_15 1 (some o) (x3 + 1) h') P) → sat (qX7_reckon_dyn_24 1 (some o) x3 x4 h) P := by
  intro n
  induction n with
  | zero =>
    intro a x4 h hn hb e4 hs hv k15
    refine uqX7_reckon_dyn_24 ?_
    unfold BX7_reckon_dyn_24
    refine sat_pos (by rw [n_le]; simp (disch := omega) only [n_add, n_sub, n_mul, n_neg, n_bm, n_idx, n_if, hI_eq, l_m1000, l_m100, l_m60, l_m19, l_m18, l_m17, l_m16, l_m15, l_m14, l_m13, l_m12, l_m11, l_m10, l_m8, l_m1, l_0, l_1, l_2, l_3, l_4, l_5, l_6, l_7, l_8, l_9, l_10, l_11, l_12, l_13, l_14, l_15, l_16, l_17, l_18, l_19, l_20, l_21, l_24, l_25, l_32, l_40, l_41, l_42, l_43, l_45, l_47, l_48, l_57, l_59, l_60, l_61, l_62, l_63, l_64, l_65, l_70, l_80, l_90, l_97, l_99, l_100, l_120, l_122, l_127, l_144, l_150, l_201, l_202, l_203, l_204, l_205, l_206, l_207, l_255, l_300, l_364, l_480, l_560, l_600, l_601, l_620, l_840, l_900, l_980, l_999, l_1000, l_1023, l_1024, l_1220, l_1439, l_1440, l_2240, l_2400, l_3000, l_3600, l_4095, l_4096, l_7320, l_9999, l_10079, l_10080, l_12000, l_99999, l_120000, l_1000000, l_2147483647, e4]; omega) ?_
    refine k15 h (fr_rfl _ _) fun p q hp hq => ?_
    rw [hv p q hp hq, if_pos (by omega)]
  | succ n ih =>
    intro a x4 h hn hb e4 hs hv k15
    refine uqX7_reckon_dyn_24 ?_
    unfold BX7_reckon_dyn_24
    refine sat_neg (by rw [n_le]; simp (disch := omega) only [n_add, n_sub, n_mul, n_neg, n_bm, n_idx, n_if, hI_eq, l_m1000, l_m100, l_m60, l_m19, l_m18, l_m17, l_m16, l_m15, l_m14, l_m13, l_m12, l_m11, l_m10, l_m8, l_m1, l_0, l_1, l_2, l_3, l_4, l_5, l_6, l_7, l_8, l_9, l_10, l_11, l_12, l_13, l_14, l_15, l_16, l_17, l_18, l_19, l_20, l_21, l_24, l_25, l_32, l_40, l_41, l_42, l_43, l_45, l_47, l_48, l_57, l_59, l_60, l_61, l_62, l_63, l_64, l_65, l_70, l_80, l_90, l_97, l_99, l_100, l_120, l_122, l_127, l_144, l_150, l_201, l_202, l_203, l_204, l_205, l_206, l_207, l_255, l_300, l_364, l_480, l_560, l_600, l_601, l_620, l_840, l_900, l_980, l_999, l_1000, l_1023, l_1024, l_1220, l_1439, l_1440, l_2240, l_2400, l_3000, l_3600, l_4095, l_4096, l_7320, l_9999, l_10079, l_10080, l_12000, l_99999, l_120000, l_1000000, l_2147483647, e4]; omega) ?_
    refine rd34 ho hk (by omega : a < 12) hD hkk e3 e4 12 0 0 h (by omega) (by omega) rfl hs (fun p q hp hq => ?_) fun h' f' hv' => ?_
    · rw [hv p q hp hq]
      by_cases h1 : p < a
      · rw [if_pos h1, if_pos (by omega)]
      · rw [if_neg h1, if_neg (by omega)]
    · exact ih (a + 1) (x4 + 1) h' (by omega) (by omega) (by simp (disch := omega) only [n_add, n_sub, n_mul, n_neg, n_bm, n_idx, n_if, hI_eq, l_m1000, l_m100, l_m60, l_m19, l_m18, l_m17, l_m16, l_m15, l_m14, l_m13, l_m12, l_m11, l_m10, l_m8, l_m1, l_0, l_1, l_2, l_3, l_4, l_5, l_6, l_7, l_8, l_9, l_10, l_11, l_12, l_13, l_14, l_15, l_16, l_17, l_18, l_19, l_20, l_21, l_24, l_25, l_32, l_40, l_41, l_42, l_43, l_45, l_47, l_48, l_57, l_59, l_60, l_61, l_62, l_63, l_64, l_65, l_70, l_80, l_90, l_97, l_99, l_100, l_120, l_122, l_127, l_144, l_150, l_201, l_202, l_203, l_204, l_205, l_206, l_207, l_255, l_300, l_364, l_480, l_560, l_600, l_601, l_620, l_840, l_900, l_980, l_999, l_1000, l_1023, l_1024, l_1220, l_1439, l_1440, l_2240, l_2400, l_3000, l_3600, l_4095, l_4096, l_7320, l_9999, l_10079, l_10080, l_12000, l_99999, l_120000, l_1000000, l_2147483647, e4]; omega) (CkO_core f'.1 hs) hv' fun h2 f2 hv2 => k15 h2 (f'.tr f2) hv2
theorem rd15 {o : Nat} (ho : o = 3 ∨ o = 4) {P : Unit × ea_H → Prop} {lo : Nat} {w : Nat → Nat → Nat} :
    ∀ (n k : Nat) (x3 : Int32) (D : Nat → Nat → Nat) (h : ea_H), 12 - k = n → lo ≤ k → k ≤ 12 → x3.toInt = k → CkO o h → fwI lo k w D → (∀ p q, p < 12 → q < 12 → hI h o (12 * p + q) = D p q) →
      (∀ h' D', fr [(o, o)] h h' → fwI lo 12 w D' → (∀ p q, p < 12 → q < 12 → hI h' o (12 * p + q) = D' p q) → P ((), h')) → sat (qX7_reckon_dyn_15 1 (some o) x3 h) P := by
  intro n
  induction n with
  | zero =>
    intro k x3 D h hn hl hb e3 hs hi hv kk
    refine uqX7_reckon_dyn_15 ?_
    unfold BX7_reckon_dyn_15
    refine sat_pos (by rw [n_le]; simp (disch := omega) only [n_add, n_sub, n_mul, n_neg, n_bm, n_idx, n_if, hI_eq, l_m1000, l_m100, l_m60, l_m19, l_m18, l_m17, l_m16, l_m15, l_m14, l_m13, l_m12, l_m11, l_m10, l_m8, l_m1, l_0, l_1, l_2, l_3, l_4, l_5, l_6, l_7, l_8, l_9, l_10, l_11, l_12, l_13, l_14, l_15, l_16, l_17, l_18, l_19, l_20, l_21, l_24, l_25, l_32, l_40, l_41, l_42, l_43, l_45, l_47, l_48, l_57, l_59, l_60, l_61, l_62, l_63, l_64, l_65, l_70, l_80, l_90, l_97, l_99, l_100, l_120, l_122, l_127, l_144, l_150, l_201, l_202, l_203, l_204, l_205, l_206, l_207, l_255, l_300, l_364, l_480, l_560, l_600, l_601, l_620, l_840, l_900, l_980, l_999, l_1000, l_1023, l_1024, l_1220, l_1439, l_1440, l_2240, l_2400, l_3000, l_3600, l_4095, l_4096, l_7320, l_9999, l_10079, l_10080, l_12000, l_99999, l_120000, l_1000000, l_2147483647, e3]; omega) (sat_ret ?_)
    have : k = 12 := by omega
    subst this
    exact kk h D (fr_rfl _ _) hi hv
  | succ n ih =>
    intro k x3 D h hn hl hb e3 hs hi hv kk
    refine uqX7_reckon_dyn_15 ?_
    unfold BX7_reckon_dyn_15
    refine sat_neg (by rw [n_le]; simp (disch := omega) only [n_add, n_sub, n_mul, n_neg, n_bm, n_idx, n_if, hI_eq, l_m1000, l_m100, l_m60, l_m19, l_m18, l_m17, l_m16, l_m15, l_m14, l_m13, l_m12, l_m11, l_m10, l_m8, l_m1, l_0, l_1, l_2, l_3, l_4, l_5, l_6, l_7, l_8, l_9, l_10, l_11, l_12, l_13, l_14, l_15, l_16, l_17, l_18, l_19, l_20, l_21, l_24, l_25, l_32, l_40, l_41, l_42, l_43, l_45, l_47, l_48, l_57, l_59, l_60, l_61, l_62, l_63, l_64, l_65, l_70, l_80, l_90, l_97, l_99, l_100, l_120, l_122, l_127, l_144, l_150, l_201, l_202, l_203, l_204, l_205, l_206, l_207, l_255, l_300, l_364, l_480, l_560, l_600, l_601, l_620, l_840, l_900, l_980, l_999, l_1000, l_1023, l_1024, l_1220, l_1439, l_1440, l_2240, l_2400, l_3000, l_3600, l_4095, l_4096, l_7320, l_9999, l_10079, l_10080, l_12000, l_99999, l_120000, l_1000000, l_2147483647, e3]; omega) ?_
    refine rd24 ho (by omega : k < 12) hi.1 (hi.2.1 k (by omega)) e3 12 0 0 h (by omega) (by omega) rfl hs (fun p q hp hq => by rw [if_neg (by omega)]; exact hv p q hp hq) fun h' f' hv' => ?_
    exact ih (k + 1) (x3 + 1) (fwS k D) h' (by omega) (by omega) (by omega) (by simp (disch := omega) only [n_add, n_sub, n_mul, n_neg, n_bm, n_idx, n_if, hI_eq, l_m1000, l_m100, l_m60, l_m19, l_m18, l_m17, l_m16, l_m15, l_m14, l_m13, l_m12, l_m11, l_m10, l_m8, l_m1, l_0, l_1, l_2, l_3, l_4, l_5, l_6, l_7, l_8, l_9, l_10, l_11, l_12, l_13, l_14, l_15, l_16, l_17, l_18, l_19, l_20, l_21, l_24, l_25, l_32, l_40, l_41, l_42, l_43, l_45, l_47, l_48, l_57, l_59, l_60, l_61, l_62, l_63, l_64, l_65, l_70, l_80, l_90, l_97, l_99, l_100, l_120, l_122, l_127, l_144, l_150, l_201, l_202, l_203, l_204, l_205, l_206, l_207, l_255, l_300, l_364, l_480, l_560, l_600, l_601, l_620, l_840, l_900, l_980, l_999, l_1000, l_1023, l_1024, l_1220, l_1439, l_1440, l_2240, l_2400, l_3000, l_3600, l_4095, l_4096, l_7320, l_9999, l_10079, l_10080, l_12000, l_99999, l_120000, l_1000000, l_2147483647, e3]; omega) (CkO_core f'.1 hs) (fw_step hl (by omega) hi) hv' fun h2 D2 f2 i2 v2 => kk h2 D2 (f'.tr f2) i2 v2
theorem c_reckonD {o : Nat} (ho : o = 3 ∨ o = 4) {lo : Nat} {w D : Nat → Nat → Nat} {x2 : Int32} {h : ea_H} (hlo : lo ≤ 12) (e2 : x2.toInt = lo) (c1 : 1 < ea_n h ∧ ea_c h 1 = 7) (r2 : ea_r h 1 1 = some 2) (c2 : CkO 2 h) (hc : CkO o h) (hi : fwI lo lo w D) (hv : ∀ p q, p < 12 → q < 12 → hI h 2 (12 * p + q) = D p q) :
    sat (qX7_reckon_dyn 1 (some o) x2 h) fun y => fr [(o, o)] h y.2 ∧ ∃ D', fwI lo 12 w D' ∧ ∀ p q, p < 12 → q < 12 → hI y.2 o (12 * p + q) = D' p q := by
  unfold qX7_reckon_dyn
  refine uqX7_reckon_dyn_0 ?_
  unfold BX7_reckon_dyn_0
  rw [r2]
  refine sat_gd c1 (sat_gd rfl (sat_gd ⟨hc.1, hc.2.1⟩ (sat_gd rfl (sat_gd ⟨c2.1, c2.2.1⟩ (sat_gd (by decide) (sat_gd (by decide) (sat_gd (by decide) (sat_gd (by show _ ≤ ea_l h 2; rw [c2.2.2]; decide) (sat_gd (by show _ ≤ ea_l h o; rw [hc.2.2]; decide) (sat_let fun H eH => ?_))))))))))
  have fH : fr [(o, o)] h H := by
    rw [eH]
    exact fr_wa (by simp [inB])
  refine rd15 ho (12 - lo) lo x2 D H rfl (Nat.le_refl _) hlo e2 (CkO_core fH.1 hc) hi (fun p q hp hq => ?_) fun h' D' f' i' v' => ⟨fH.tr f', D', i', v'⟩
  rw [eH]
  show hI (ea_wa h o _) o _ = _
  rw [hI_wa, if_pos rfl]
  show (va_cpy (ea_i h 2) (ea_i h o) 0 0 144 (12 * p + q)).toInt = _
  rw [← hv p q hp hq]
  unfold va_cpy
  simp only [Nat.zero_add, Nat.sub_zero, Nat.zero_le, true_and]
  rw [if_pos (by omega)]
  rfl
theorem c_fillI {h : ea_H} {x1 : Int32} (c2 : CkO 2 h) : sat (qJ7_fill_53178 (some 2) x1 h) fun y => fr [(2, 2)] h y.2 ∧ ∀ j, j < 144 → hI y.2 2 j = x1.toInt := by
  have L : ∀ (d i : Nat) (x2 : Int32) (hh : ea_H), i + d = 144 → x2.toInt = i → fr [(2, 2)] h hh → (∀ j, j < i → hI hh 2 j = x1.toInt) → sat (qJ7_fill_53178_5 (some 2) x1 x2 (Int32.ofNat 144) hh) fun y => fr [(2, 2)] h y.2 ∧ ∀ j, j < 144 → hI y.2 2 j = x1.toInt := by
    have v144 : (Int32.ofNat 144).toInt = 144 := rfl
    intro d
    induction d with
    | zero =>
      intro i x2 hh hi e2 f r
      refine uqJ7_fill_53178_5 ?_
      unfold BJ7_fill_53178_5
      exact sat_pos (by rw [n_le, v144, e2]; omega) (sat_ret ⟨f, fun j hj => r j (by omega)⟩)
    | succ d ih =>
      intro i x2 hh hi e2 f r
      have ic : x2.toNatClampNeg = i := by
        rw [n_idx, e2]
        rfl
      have cc := CkO_core f.1 c2
      refine uqJ7_fill_53178_5 ?_
      unfold BJ7_fill_53178_5
      rw [ic]
      refine sat_neg (by rw [n_le, v144, e2]; omega) (sat_gd rfl (sat_gd ⟨cc.1, cc.2.1⟩ (sat_gd (by show vp_in x2 (ea_l hh 2); rw [cc.2.2]; exact vp80 e2 (by omega)) (sat_let fun H7 q7 => ?_))))
      have q7 : H7 = ea_wi hh 2 i x1 := q7
      refine ih (i + 1) (x2 + 1) H7 (by omega) (n_inc e2 (by omega)) (f.tr (q7 ▸ fr_wi (by simp [inB]))) fun j hj => ?_
      by_cases z : j = i
      · rw [z, q7, hI_at]
      · rw [q7, hI_nk z]
        exact r j (by omega)
  unfold qJ7_fill_53178
  refine uqJ7_fill_53178_0 ?_
  unfold BJ7_fill_53178_0
  refine sat_gd rfl (sat_gd ⟨c2.1, c2.2.1⟩ (sat_let fun v3 q3 => ?_))
  have q3 : v3 = Int32.ofNat (ea_l h 2) := q3
  rw [c2.2.2] at q3
  rw [q3]
  exact L 144 0 0 h (by omega) rfl (fr_rfl _ _) fun j hj => absurd hj (by omega)
theorem fwI_st (lo : Nat) (hlo : lo ≤ 1) : fwI lo lo (fun _ _ => 0) fun a b => if a = b then 0 else 1000000 := by
  refine ⟨fun a b _ _ => ?_, fun a _ => if_pos rfl, fun a b k _ _ _ _ h1 h2 => absurd h2 (by omega), fun a b _ _ h => absurd rfl h, fun a b _ _ _ _ h => ?_⟩
  · dsimp only
    split <;> omega
  · dsimp only at h
    split at h
    · rename_i z
      exact Or.inl z.symm
    · omega
/-- roads as they begin -/
def Rd0 (h : ea_H) : Prop := (∀ a b, a < 12 → b < 12 → hI h 2 (12 * a + b) = ((if a = b then 0 else 1000000 : Nat) : Int)) ∧ (∃ D0, fwI 0 12 (fun _ _ => 0) D0 ∧ ∀ a b, a < 12 → b < 12 → hI h 3 (12 * a + b) = D0 a b) ∧ ∃ D1, fwI 1 12 (fun _ _ => 0) D1 ∧ ∀ a b, a < 12 → b < 12 → hI h 4 (12 * a + b) = D1 a b
theorem c_roads {h : ea_H} (p : Pre 2 [] h) (z : ∀ a k, a < 2 → hI h a k = 0 ∧ hJ h a k = 0) : sat (qX7_init 1 h) fun y => Pre 5 [(1, 3), (1, 2), (1, 1)] y.2 ∧ Rd0 y.2 ∧ ∀ a k, a < 2 → hI y.2 a k = 0 := by
  have S : ∀ {K D} {h : ea_H}, Pre K D h → 2 ≤ K → (1 < ea_n h ∧ ea_c h 1 = 7) := fun p hK => (p.c (b := 1) (c := 7) (l := 0) (by omega) rfl).1
  unfold qX7_init
  refine uqX7_init_0 ?_
  unfold BX7_init_0
  refine sat_let fun H1 q1 => ?_
  have p1 : Pre 3 [] H1 := by
    rw [q1]
    exact p.new (c := 20) (l := 144) 144 rfl rfl
  have n0 : ea_n h = 2 := p.1
  rw [n0]
  refine sat_gd (S p1 (by decide)) (sat_let fun H3 q3 => ?_)
  have p3 : Pre 3 [(1, 1)] H3 := by
    rw [q3]
    exact p1.wr (by decide) (by decide +kernel)
  refine sat_let fun H4 q4 => ?_
  have p4 : Pre 4 [(1, 1)] H4 := by
    rw [q4]
    exact p3.new (c := 20) (l := 144) 144 rfl rfl
  have n3 : ea_n H3 = 3 := p3.1
  rw [n3]
  refine sat_gd (S p4 (by decide)) (sat_let fun H6 q6 => ?_)
  have p6 : Pre 4 [(1, 2), (1, 1)] H6 := by
    rw [q6]
    exact p4.wr (by decide) (by decide +kernel)
  refine sat_let fun H7 q7 => ?_
  have p7 : Pre 5 [(1, 2), (1, 1)] H7 := by
    rw [q7]
    exact p6.new (c := 20) (l := 144) 144 rfl rfl
  have n6 : ea_n H6 = 4 := p6.1
  rw [n6]
  refine sat_gd (S p7 (by decide)) (sat_let fun H9 q9 => ?_)
  have p9 : Pre 5 [(1, 3), (1, 2), (1, 1)] H9 := by
    rw [q9]
    exact p7.wr (by decide) (by decide +kernel)
  have iz : ∀ a k, a < 5 → hI H9 a k = 0 ∧ hJ H9 a k = 0 := fun a k ha => by
    rw [q9, wr_I, wr_J, q7, new_I, new_J, n6, q6, wr_I, wr_J, q4, new_I, new_J, n3, q3, wr_I, wr_J, q1, new_I, new_J, n0]
    by_cases z4 : a = 4
    · rw [if_pos z4, if_pos z4]
      exact ⟨rfl, rfl⟩
    rw [if_neg z4, if_neg z4]
    by_cases z3 : a = 3
    · rw [if_pos z3, if_pos z3]
      exact ⟨rfl, rfl⟩
    rw [if_neg z3, if_neg z3]
    by_cases z2 : a = 2
    · rw [if_pos z2, if_pos z2]
      exact ⟨rfl, rfl⟩
    rw [if_neg z2, if_neg z2]
    exact z a k (by omega)
  have r1 : ea_r H9 1 1 = some 2 := p9.r (by decide) (by decide +kernel)
  have ck : ∀ {h : ea_H}, Pre 5 [(1, 3), (1, 2), (1, 1)] h → ∀ o, o = 2 ∨ o = 3 ∨ o = 4 → CkO o h := fun p o ho => by
    rcases ho with rfl | rfl | rfl
    · have := p.c (b := 2) (c := 20) (l := 144) (by decide) rfl
      exact ⟨this.1.1, this.1.2, this.2⟩
    · have := p.c (b := 3) (c := 20) (l := 144) (by decide) rfl
      exact ⟨this.1.1, this.1.2, this.2⟩
    · have := p.c (b := 4) (c := 20) (l := 144) (by decide) rfl
      exact ⟨this.1.1, this.1.2, this.2⟩
  rw [r1]
  refine sat_gd (S p9 (by decide)) (sat_bind (c_fillI (ck p9 2 (Or.inl rfl))) fun w11 h11 => ?_)
  obtain ⟨f11, v11⟩ := h11
  have L : ∀ (d i : Nat) (x1 : Int32) (hh : ea_H), i + d = 12 → x1.toInt = i → fr [(2, 2)] H9 hh → (∀ a b, a < 12 → b < 12 → hI hh 2 (12 * a + b) = if a = b ∧ a < i then 0 else 1000000) → sat (qX7_init_42 1 x1 hh) fun y => Pre 5 [(1, 3), (1, 2), (1, 1)] y.2 ∧ Rd0 y.2 ∧ ∀ a k, a < 2 → hI y.2 a k = 0 := by
    intro d
    induction d with
    | zero =>
      intro i x1 hh hi e1 f r
      have ph : Pre 5 [(1, 3), (1, 2), (1, 1)] hh := p9.core f.1
      have t2 : ea_r hh 1 2 = some 3 := ph.r (by decide) (by decide +kernel)
      have t1 : ea_r hh 1 1 = some 2 := ph.r (by decide) (by decide +kernel)
      have v : ∀ a b, a < 12 → b < 12 → hI hh 2 (12 * a + b) = ((if a = b then 0 else 1000000 : Nat) : Int) := fun a b ha hb => by
        rw [r a b ha hb]
        by_cases z : a = b
        · rw [if_pos ⟨z, by omega⟩, if_pos z]
          rfl
        · rw [if_neg (fun w => z w.1), if_neg z]
          rfl
      refine uqX7_init_42 ?_
      unfold BX7_init_42
      rw [t2]
      refine sat_pos (by rw [n_le, l_12, e1]; omega) (sat_gd (S ph (by decide)) (sat_gd (S ph (by decide)) (sat_bind (c_reckonD (Or.inl rfl) (lo := 0) (x2 := 0) (by decide) rfl (S ph (by decide)) t1 (ck ph 2 (Or.inl rfl)) (ck ph 3 (Or.inr (Or.inl rfl))) (fwI_st 0 (by decide)) v) fun w13 h13 => ?_)))
      obtain ⟨f13, D0, d0, d1⟩ := h13
      have p13 := ph.core f13.1
      have u3 : ea_r w13.2 1 3 = some 4 := p13.r (by decide) (by decide +kernel)
      have u1 : ea_r w13.2 1 1 = some 2 := p13.r (by decide) (by decide +kernel)
      rw [u3]
      refine sat_gd (S p13 (by decide)) (sat_gd (S p13 (by decide)) (sat_bind (c_reckonD (Or.inr rfl) (lo := 1) (x2 := 1) (by decide) rfl (S p13 (by decide)) u1 (ck p13 2 (Or.inl rfl)) (ck p13 4 (Or.inr (Or.inr rfl))) (fwI_st 1 (by decide)) fun a b ha hb => (f13.I 2 rfl _).trans (v a b ha hb)) fun w16 h16 => sat_ret ?_))
      obtain ⟨f16, D1, d2, d3⟩ := h16
      refine ⟨p13.core f16.1, ⟨fun a b ha hb => ?_, ⟨D0, d0, fun a b ha hb => (f16.I 3 rfl _).trans (d1 a b ha hb)⟩, D1, d2, d3⟩, fun a k ha => ?_⟩
      · rw [f16.I 2 rfl, f13.I 2 rfl]
        exact v a b ha hb
      · have : a = 0 ∨ a = 1 := by omega
        rcases this with rfl | rfl
        · rw [f16.I 0 rfl, f13.I 0 rfl, f.I 0 rfl]
          exact (iz 0 k (by decide)).1
        · rw [f16.I 1 rfl, f13.I 1 rfl, f.I 1 rfl]
          exact (iz 1 k (by decide)).1
    | succ d ih =>
      intro i x1 hh hi e1 f r
      have ph : Pre 5 [(1, 3), (1, 2), (1, 1)] hh := p9.core f.1
      have t1 : ea_r hh 1 1 = some 2 := ph.r (by decide) (by decide +kernel)
      have c2 := ck ph 2 (Or.inl rfl)
      have a0 : ((12 : Int32) * x1).toInt = 12 * (i : Int) := by rw [n_mul, e1, l_12, n_bm (by omega) (by omega)]
      have a1 : ((12 : Int32) * x1 + x1).toInt = ((12 * i + i : Nat) : Int) := by
        rw [n_add, a0, e1, n_bm (by omega) (by omega)]
        omega
      have ic : ((12 : Int32) * x1 + x1).toNatClampNeg = 12 * i + i := by
        rw [n_idx, a1]
        rfl
      refine uqX7_init_42 ?_
      unfold BX7_init_42
      rw [t1, ic]
      refine sat_neg (by rw [n_le, l_12, e1]; omega) (sat_gd (S ph (by decide)) (sat_gd rfl (sat_gd ⟨c2.1, c2.2.1⟩ (sat_gd (by show vp_in _ (ea_l hh 2); rw [c2.2.2]; exact vp80 a1 (by omega)) (sat_let fun H22 q22 => ?_)))))
      have q22 : H22 = ea_wi hh 2 (12 * i + i) 0 := q22
      refine ih (i + 1) (x1 + 1) H22 (by omega) (n_inc e1 (by omega)) (f.tr (q22 ▸ fr_wi (by simp [inB]))) fun a b ha hb => ?_
      by_cases z : a = i ∧ b = i
      · obtain ⟨rfl, rfl⟩ := z
        rw [q22, hI_at, if_pos ⟨rfl, by omega⟩]
        rfl
      · rw [q22, hI_nk (by omega), r a b ha hb]
        by_cases y : a = b ∧ a < i
        · rw [if_pos y, if_pos ⟨y.1, by omega⟩]
        · rw [if_neg y, if_neg (by omega)]
  refine L 12 0 0 w11.2 (by omega) rfl f11 fun a b ha hb => ?_
  rw [v11 _ (by omega), if_neg (by omega)]
  rfl
