/-! the reference's table: small methods -/
def MTab (h : ea_H) (T : Nat → Nat → Nat → Nat) : Prop :=
  hI h 326 2 = tN T ∧ (∀ t, t < 10 → hI h 328 t = tS T t) ∧ (∀ t i, t < 10 → i < 8 → hI h 329 (8 * t + i) = tW T t i ∧ hI h 330 (8 * t + i) = tC T t i ∧ hI h 331 (8 * t + i) = tG T t i) ∧ ∀ t d, t < 10 → d < 7 → hI h 332 (7 * t + d) = tD T t d
theorem n_div7 {x : Int32} (h : 0 ≤ x.toInt) : (x / (7 : Int32)).toInt = x.toInt / 7 := by
  rw [Int32.toInt_div]
  show (x.toInt.tdiv 7).bmod _ = _
  rw [Int.tdiv_eq_ediv_of_nonneg h]
  have h1 := n_hi x
  exact n_bm (by omega) (by omega)
theorem m_comesAt {x1 x2 : Int32} {t d i : Nat} (e1 : x1.toInt = ((7 * t + d : Nat) : Int)) (e2 : x2.toInt = i) {h : ea_H} {T : Nat → Nat → Nat → Nat} (c : MTab h T) (ok : tOk T) (ht : t < 10) (hd : d < 7) (hi : i < tS T t) : ∃ v, qX12_comesAt x1 x2 h = some (v, h) ∧ v.toInt = tCm T t d i := by
  have hs := ok.2.1 t ht
  have b1 := ok.2.2.2.1 t i ht hi
  have b2 := ok.2.2.2.2.2 t d ht hd
  have j0 : (x1 / (7 : Int32)).toInt = t := by
    rw [n_div7 (by omega), e1]
    omega
  have j2 : ((1440 : Int32) * (x1 - x1 / (7 : Int32) * (7 : Int32))).toInt = 1440 * (d : Int) := by
    rw [n_mul, n_sub, n_mul, j0, e1, l_1440, l_7]
    simp (disch := omega) only [n_bm]
    omega
  have i1 : ((8 : Int32) * (x1 / (7 : Int32)) + x2).toInt = 8 * (t : Int) + i := by simp (disch := omega) only [n_add, n_sub, n_mul, n_neg, n_bm, n_idx, n_if, hI_eq, l_m1000, l_m100, l_m60, l_m19, l_m18, l_m17, l_m16, l_m15, l_m14, l_m13, l_m12, l_m11, l_m10, l_m8, l_m1, l_0, l_1, l_2, l_3, l_4, l_5, l_6, l_7, l_8, l_9, l_10, l_11, l_12, l_13, l_14, l_15, l_16, l_17, l_18, l_19, l_20, l_21, l_24, l_25, l_32, l_40, l_41, l_42, l_43, l_45, l_47, l_48, l_57, l_59, l_60, l_61, l_62, l_63, l_64, l_65, l_70, l_80, l_90, l_97, l_99, l_100, l_120, l_122, l_127, l_144, l_150, l_201, l_202, l_203, l_204, l_205, l_206, l_207, l_255, l_300, l_364, l_480, l_560, l_600, l_601, l_620, l_840, l_900, l_980, l_999, l_1000, l_1023, l_1024, l_1220, l_1439, l_1440, l_2240, l_2400, l_3000, l_3600, l_4095, l_4096, l_7320, l_9999, l_10079, l_10080, l_12000, l_99999, l_120000, l_1000000, l_2147483647, j0, e2]
  have i2 : ((8 : Int32) * (x1 / (7 : Int32)) + x2).toInt = ((8 * t + i : Nat) : Int) := by
    rw [i1]
    omega
  have hb : 8 * t + i < 80 := by omega
  have hb2 : 7 * t + d < 70 := by omega
  have h1 : (ea_i h 330 ((8 : Int32) * (x1 / (7 : Int32)) + x2).toNatClampNeg).toInt = tC T t i := by
    rw [hI_eq, n_idx, i2]
    exact (c.2.2.1 t i ht (by omega)).2.1
  have h2 : (ea_i h 332 x1.toNatClampNeg).toInt = tD T t d := by
    rw [hI_eq, n_idx, e1]
    exact c.2.2.2 t d ht hd
  refine sat_ex ?_
  unfold qX12_comesAt BX12_comesAt_0
  refine sat_gd (vp80 i2 hb) (sat_gd (vp80 e1 hb2) (sat_ret ⟨rfl, ?_⟩))
  show (((1440 : Int32) * (x1 - x1 / (7 : Int32) * (7 : Int32)) + ea_i h 330 ((8 : Int32) * (x1 / (7 : Int32)) + x2).toNatClampNeg) + ea_i h 332 x1.toNatClampNeg).toInt = _
  rw [n_add, n_add, j2, h1, h2]
  simp (disch := omega) only [n_bm]
  unfold tCm
  omega
theorem m_goesAt {x1 x2 : Int32} {t d i : Nat} (e1 : x1.toInt = ((7 * t + d : Nat) : Int)) (e2 : x2.toInt = i) {h : ea_H} {T : Nat → Nat → Nat → Nat} (c : MTab h T) (ok : tOk T) (ht : t < 10) (hd : d < 7) (hi : i < tS T t) : ∃ v, qX12_goesAt x1 x2 h = some (v, h) ∧ v.toInt = tGm T t d i := by
  have hs := ok.2.1 t ht
  have b1 := ok.2.2.2.1 t i ht hi
  have b2 := ok.2.2.2.2.2 t d ht hd
  have j0 : (x1 / (7 : Int32)).toInt = t := by
    rw [n_div7 (by omega), e1]
    omega
  have j2 : ((1440 : Int32) * (x1 - x1 / (7 : Int32) * (7 : Int32))).toInt = 1440 * (d : Int) := by
    rw [n_mul, n_sub, n_mul, j0, e1, l_1440, l_7]
    simp (disch := omega) only [n_bm]
    omega
  have i1 : ((8 : Int32) * (x1 / (7 : Int32)) + x2).toInt = 8 * (t : Int) + i := by simp (disch := omega) only [n_add, n_sub, n_mul, n_neg, n_bm, n_idx, n_if, hI_eq, l_m1000, l_m100, l_m60, l_m19, l_m18, l_m17, l_m16, l_m15, l_m14, l_m13, l_m12, l_m11, l_m10, l_m8, l_m1, l_0, l_1, l_2, l_3, l_4, l_5, l_6, l_7, l_8, l_9, l_10, l_11, l_12, l_13, l_14, l_15, l_16, l_17, l_18, l_19, l_20, l_21, l_24, l_25, l_32, l_40, l_41, l_42, l_43, l_45, l_47, l_48, l_57, l_59, l_60, l_61, l_62, l_63, l_64, l_65, l_70, l_80, l_90, l_97, l_99, l_100, l_120, l_122, l_127, l_144, l_150, l_201, l_202, l_203, l_204, l_205, l_206, l_207, l_255, l_300, l_364, l_480, l_560, l_600, l_601, l_620, l_840, l_900, l_980, l_999, l_1000, l_1023, l_1024, l_1220, l_1439, l_1440, l_2240, l_2400, l_3000, l_3600, l_4095, l_4096, l_7320, l_9999, l_10079, l_10080, l_12000, l_99999, l_120000, l_1000000, l_2147483647, j0, e2]
  have i2 : ((8 : Int32) * (x1 / (7 : Int32)) + x2).toInt = ((8 * t + i : Nat) : Int) := by
    rw [i1]
    omega
  have hb : 8 * t + i < 80 := by omega
  have hb2 : 7 * t + d < 70 := by omega
  have h1 : (ea_i h 331 ((8 : Int32) * (x1 / (7 : Int32)) + x2).toNatClampNeg).toInt = tG T t i := by
    rw [hI_eq, n_idx, i2]
    exact (c.2.2.1 t i ht (by omega)).2.2
  have h2 : (ea_i h 332 x1.toNatClampNeg).toInt = tD T t d := by
    rw [hI_eq, n_idx, e1]
    exact c.2.2.2 t d ht hd
  refine sat_ex ?_
  unfold qX12_goesAt BX12_goesAt_0
  refine sat_gd (vp80 i2 hb) (sat_gd (vp80 e1 hb2) (sat_ret ⟨rfl, ?_⟩))
  show (((1440 : Int32) * (x1 - x1 / (7 : Int32) * (7 : Int32)) + ea_i h 331 ((8 : Int32) * (x1 / (7 : Int32)) + x2).toNatClampNeg) + ea_i h 332 x1.toNatClampNeg).toInt = _
  rw [n_add, n_add, j2, h1, h2]
  simp (disch := omega) only [n_bm]
  unfold tGm
  omega
