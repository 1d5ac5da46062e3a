/-! calls: stopOf, late, miss -/
theorem tw_ro {A B : ea_H → Option (Int32 × ea_H)} {h : ea_H} {n : Int} (a : sat (A h) fun y => y.2 = h ∧ y.1.toInt = n) (b : sat (B h) fun y => y.2 = h ∧ y.1.toInt = n) : tw (A h) B fun h' => h' = h := by
  obtain ⟨⟨v, h1⟩, a1, a2, a3⟩ := a
  obtain ⟨⟨u, h2⟩, b1, b2, b3⟩ := b
  have a2 : h1 = h := a2
  have b2 : h2 = h := b2
  subst a2
  subst b2
  exact ⟨_, a1, _, b1, n_eq.mpr (a3.trans b3.symm), rfl⟩
def stF (T : Nat → Nat → Nat → Nat) (f : Nat → Int) (a i w : Int) : Int := if 0 ≤ a ∧ a < tN T then (if i = -1 then (if w = 0 then tS T a.toNat else -1) else if 0 ≤ i ∧ i < tS T a.toNat then (if w = 0 then tW T a.toNat i.toNat else if w = 1 then tC T a.toNat i.toNat else if w = 2 then tG T a.toNat i.toNat else if w = 3 then f (8 * a.toNat + i.toNat) else -1) else -1) else -1
theorem c_stopOf {h : ea_H} {T : Nat → Nat → Nat → Nat} (b : STb h T) (m : SMis h) (x1 x2 x3 : Int32) : sat (qX11_stopOf x1 x2 x3 h) fun y => y.2 = h ∧ y.1.toInt = stF T (hI h 333) x1.toInt x2.toInt x3.toInt := by
  obtain ⟨ok, ⟨b1, b2, b3, b4⟩, d1, d2, d3, d4⟩ := b
  have ok1 := ok.1
  unfold qX11_stopOf BX11_stopOf_0
  obtain ⟨v1, q1, s1⟩ := c_train x1 h
  refine sat_call q1 ?_
  rcases s1 with ⟨r1, s1⟩ | ⟨r1, s1⟩
  · exact sat_pos r1 (sat_ret ⟨rfl, by unfold stF; rw [if_neg (by omega)]; rfl⟩)
  refine sat_neg (by rw [r1]; exact i1_ne_0) ?_
  dsimp only
  have e1 : x1.toInt = (x1.toInt.toNat : Int) := by omega
  have ht : x1.toInt.toNat < 10 := by omega
  generalize x1.toInt.toNat = t at *
  have ic1 : x1.toNatClampNeg = t := by
    rw [n_idx, e1]
    rfl
  have k1 : (0 : Int) ≤ (t : Int) ∧ (t : Int) < (tN T : Int) := by omega
  have hs := ok.2.1 t ht
  have v6 : (ea_i h 6 t).toInt = tS T t := b2 t ht
  rw [ic1, e1]
  refine sat_ite (fun c => ?_) fun c => ?_
  · rw [n_eq, l_m1] at c
    refine sat_ite (fun c2 => ?_) fun c2 => ?_
    · rw [n_eq, l_0] at c2
      exact sat_gd (vp80 e1 ht) (sat_ret ⟨rfl, by unfold stF; rw [if_pos k1, if_pos c, if_pos c2]; exact v6⟩)
    · rw [n_eq, l_0] at c2
      exact sat_ret ⟨rfl, by unfold stF; rw [if_pos k1, if_pos c, if_neg c2]; rfl⟩
  rw [n_eq, l_m1] at c
  refine sat_ite (fun c2 => ?_) fun c2 => ?_
  · simp only [n_lt, n_le, n_eq, hI_eq, l_m1000, l_m100, l_m60, l_m19, l_m18, l_m17, l_m16, l_m15, l_m14, l_m13, l_m12, l_m11, l_m10, l_m8, l_m1, l_0, l_1, l_2, l_3, l_4, l_5, l_6, l_7, l_8, l_9, l_10, l_11, l_12, l_13, l_14, l_15, l_16, l_17, l_18, l_19, l_20, l_21, l_24, l_25, l_32, l_40, l_41, l_42, l_43, l_45, l_47, l_48, l_57, l_59, l_60, l_61, l_62, l_63, l_64, l_65, l_70, l_80, l_90, l_97, l_99, l_100, l_120, l_122, l_127, l_144, l_150, l_201, l_202, l_203, l_204, l_205, l_206, l_207, l_255, l_300, l_364, l_480, l_560, l_600, l_601, l_620, l_840, l_900, l_980, l_999, l_1000, l_1023, l_1024, l_1220, l_1439, l_1440, l_2240, l_2400, l_3000, l_3600, l_4095, l_4096, l_7320, l_9999, l_10079, l_10080, l_12000, l_99999, l_120000, l_1000000, l_2147483647] at c2
    exact sat_ret ⟨rfl, by unfold stF; rw [if_pos k1, if_neg c, if_neg (show ¬ ((0 : Int) ≤ x2.toInt ∧ x2.toInt < (tS T (t : Int).toNat : Int)) from (by omega : ¬ ((0 : Int) ≤ x2.toInt ∧ x2.toInt < (tS T t : Int))))]; rfl⟩
  simp only [n_lt, n_le, n_eq, hI_eq, l_m1000, l_m100, l_m60, l_m19, l_m18, l_m17, l_m16, l_m15, l_m14, l_m13, l_m12, l_m11, l_m10, l_m8, l_m1, l_0, l_1, l_2, l_3, l_4, l_5, l_6, l_7, l_8, l_9, l_10, l_11, l_12, l_13, l_14, l_15, l_16, l_17, l_18, l_19, l_20, l_21, l_24, l_25, l_32, l_40, l_41, l_42, l_43, l_45, l_47, l_48, l_57, l_59, l_60, l_61, l_62, l_63, l_64, l_65, l_70, l_80, l_90, l_97, l_99, l_100, l_120, l_122, l_127, l_144, l_150, l_201, l_202, l_203, l_204, l_205, l_206, l_207, l_255, l_300, l_364, l_480, l_560, l_600, l_601, l_620, l_840, l_900, l_980, l_999, l_1000, l_1023, l_1024, l_1220, l_1439, l_1440, l_2240, l_2400, l_3000, l_3600, l_4095, l_4096, l_7320, l_9999, l_10079, l_10080, l_12000, l_99999, l_120000, l_1000000, l_2147483647] at c2
  refine sat_gd (vp80 e1 ht) ?_
  refine sat_eti (fun c3 => ?_) fun c3 => ?_
  · rw [n_lt, v6] at c3
    exact sat_ret ⟨rfl, by unfold stF; rw [if_pos k1, if_neg c, if_neg (show ¬ ((0 : Int) ≤ x2.toInt ∧ x2.toInt < (tS T (t : Int).toNat : Int)) from (by omega : ¬ ((0 : Int) ≤ x2.toInt ∧ x2.toInt < (tS T t : Int))))]; rfl⟩
  rw [n_lt, v6] at c3
  have e2 : x2.toInt = (x2.toInt.toNat : Int) := by omega
  have hi : x2.toInt.toNat < 8 := by omega
  generalize x2.toInt.toNat = i at *
  have k2 : (0 : Int) ≤ (i : Int) ∧ (i : Int) < (tS T t : Int) := by omega
  have c' : ¬ ((i : Int) = -1) := by omega
  have j0 : ((8 : Int32) * x1 + x2).toInt = 8 * (t : Int) + i := by simp (disch := omega) only [n_add, n_sub, n_mul, n_neg, n_bm, n_idx, n_if, hI_eq, l_m1000, l_m100, l_m60, l_m19, l_m18, l_m17, l_m16, l_m15, l_m14, l_m13, l_m12, l_m11, l_m10, l_m8, l_m1, l_0, l_1, l_2, l_3, l_4, l_5, l_6, l_7, l_8, l_9, l_10, l_11, l_12, l_13, l_14, l_15, l_16, l_17, l_18, l_19, l_20, l_21, l_24, l_25, l_32, l_40, l_41, l_42, l_43, l_45, l_47, l_48, l_57, l_59, l_60, l_61, l_62, l_63, l_64, l_65, l_70, l_80, l_90, l_97, l_99, l_100, l_120, l_122, l_127, l_144, l_150, l_201, l_202, l_203, l_204, l_205, l_206, l_207, l_255, l_300, l_364, l_480, l_560, l_600, l_601, l_620, l_840, l_900, l_980, l_999, l_1000, l_1023, l_1024, l_1220, l_1439, l_1440, l_2240, l_2400, l_3000, l_3600, l_4095, l_4096, l_7320, l_9999, l_10079, l_10080, l_12000, l_99999, l_120000, l_1000000, l_2147483647, e1, e2]
  have j1 : ((8 : Int32) * x1 + x2).toInt = ((8 * t + i : Nat) : Int) := by
    rw [j0]
    omega
  have jc : ((8 : Int32) * x1 + x2).toNatClampNeg = 8 * t + i := by
    rw [n_idx, j1]
    rfl
  obtain ⟨w1, w2, w3⟩ := b3 t i ht hi
  have g := vp80 j1 (show 8 * t + i < 80 by omega)
  have eq0 : ∀ (z : Int32) (k : Int), z.toInt = k → (x3 = z ↔ x3.toInt = k) := fun z k e => by rw [n_eq, e]
  have fin : stF T (hI h 333) t i x3.toInt = if x3.toInt = 0 then (tW T t i : Int) else if x3.toInt = 1 then (tC T t i : Int) else if x3.toInt = 2 then (tG T t i : Int) else if x3.toInt = 3 then hI h 333 (8 * t + i) else -1 := by
    unfold stF
    rw [if_pos k1, if_neg c', if_pos (show (0 : Int) ≤ (i : Int) ∧ (i : Int) < (tS T (t : Int).toNat : Int) from k2)]
    rfl
  refine sat_sub ?_
  rw [jc, e2, fin]
  refine sat_ite (fun k => sat_gd g (sat_ret ⟨rfl, by rw [if_pos (k)]; exact w1⟩)) fun k => ?_
  have n0 : ¬ x3.toInt = 0 := fun z => k (z)
  refine sat_ite (fun k => sat_gd g (sat_ret ⟨rfl, by rw [if_neg n0, if_pos (k)]; exact w2⟩)) fun k => ?_
  have n1 : ¬ x3.toInt = 1 := fun z => k (z)
  refine sat_ite (fun k => sat_gd g (sat_ret ⟨rfl, by rw [if_neg n0, if_neg n1, if_pos (k)]; exact w3⟩)) fun k => ?_
  have n2 : ¬ x3.toInt = 2 := fun z => k (z)
  refine sat_ite (fun k => sat_gd g ?_) fun k => sat_ret ⟨rfl, by rw [if_neg n0, if_neg n1, if_neg n2, if_neg (fun z => k (z))]; rfl⟩
  have p3 : x3.toInt = 3 := k
  obtain ⟨m1, m2⟩ := m.1 (8 * t + i) (by omega)
  refine sat_ite (fun z => ?_) fun z => ?_
  · rw [n_eq, hI_eq, m1, l_0] at z
    exact sat_ret ⟨rfl, by rw [if_neg n0, if_neg n1, if_neg n2, if_pos p3]; exact z.symm⟩
  · rw [n_eq, hI_eq, m1, l_0] at z
    refine sat_ret ⟨rfl, ?_⟩
    rw [if_neg n0, if_neg n1, if_neg n2, if_pos p3]
    rcases m2 with q | q
    · exact absurd q z
    · exact q.symm
theorem m_stopOf {h : ea_H} {T : Nat → Nat → Nat → Nat} (b : STb h T) (m : SMis h) (x1 x2 x3 : Int32) : sat (qX12_stopOf x1 x2 x3 h) fun y => y.2 = h ∧ y.1.toInt = stF T (hI h 333) x1.toInt x2.toInt x3.toInt := by
  obtain ⟨ok, ⟨b1, b2, b3, b4⟩, d1, d2, d3, d4⟩ := b
  have ok1 := ok.1
  unfold qX12_stopOf BX12_stopOf_0
  obtain ⟨v1, q1, s1⟩ := m_isTrain x1 (h := h) (by omega)
  refine sat_call q1 ?_
  rcases s1 with ⟨r1, s1⟩ | ⟨r1, s1⟩
  · exact sat_pos r1 (sat_ret ⟨rfl, by unfold stF; rw [if_neg (by omega)]; rfl⟩)
  refine sat_neg (by rw [r1]; exact i1_ne_0) ?_
  dsimp only
  have e1 : x1.toInt = (x1.toInt.toNat : Int) := by omega
  have ht : x1.toInt.toNat < 10 := by omega
  generalize x1.toInt.toNat = t at *
  have ic1 : x1.toNatClampNeg = t := by
    rw [n_idx, e1]
    rfl
  have k1 : (0 : Int) ≤ (t : Int) ∧ (t : Int) < (tN T : Int) := by omega
  have hs := ok.2.1 t ht
  have v6 : (ea_i h 328 t).toInt = tS T t := d2 t ht
  rw [ic1, e1]
  refine sat_ite (fun c => ?_) fun c => ?_
  · rw [n_eq, l_m1] at c
    refine sat_ite (fun c2 => ?_) fun c2 => ?_
    · rw [n_eq, l_0] at c2
      exact sat_gd (vp80 e1 ht) (sat_ret ⟨rfl, by unfold stF; rw [if_pos k1, if_pos c, if_pos c2]; exact v6⟩)
    · rw [n_eq, l_0] at c2
      exact sat_ret ⟨rfl, by unfold stF; rw [if_pos k1, if_pos c, if_neg c2]; rfl⟩
  rw [n_eq, l_m1] at c
  have v61 := n_pred (x := ea_i h 328 t) (by omega)
  rw [v6] at v61
  refine sat_gd (vp80 e1 ht) ?_
  obtain ⟨vi, qi, si⟩ := m_isIn x2 0 (ea_i h 328 t - 1) h
  rw [v61, l_0] at si
  refine sat_call qi ?_
  rcases si with ⟨ri, si⟩ | ⟨ri, si⟩
  · exact sat_pos ri (sat_ret ⟨rfl, by unfold stF; rw [if_pos k1, if_neg c, if_neg (show ¬ ((0 : Int) ≤ x2.toInt ∧ x2.toInt < (tS T (t : Int).toNat : Int)) from (by omega : ¬ ((0 : Int) ≤ x2.toInt ∧ x2.toInt < (tS T t : Int))))]; rfl⟩)
  refine sat_neg (by rw [ri]; exact i1_ne_0) ?_
  have e2 : x2.toInt = (x2.toInt.toNat : Int) := by omega
  have hi : x2.toInt.toNat < 8 := by omega
  generalize x2.toInt.toNat = i at *
  have k2 : (0 : Int) ≤ (i : Int) ∧ (i : Int) < (tS T t : Int) := by omega
  have c' : ¬ ((i : Int) = -1) := by omega
  have j0 : ((8 : Int32) * x1 + x2).toInt = 8 * (t : Int) + i := by simp (disch := omega) only [n_add, n_sub, n_mul, n_neg, n_bm, n_idx, n_if, hI_eq, l_m1000, l_m100, l_m60, l_m19, l_m18, l_m17, l_m16, l_m15, l_m14, l_m13, l_m12, l_m11, l_m10, l_m8, l_m1, l_0, l_1, l_2, l_3, l_4, l_5, l_6, l_7, l_8, l_9, l_10, l_11, l_12, l_13, l_14, l_15, l_16, l_17, l_18, l_19, l_20, l_21, l_24, l_25, l_32, l_40, l_41, l_42, l_43, l_45, l_47, l_48, l_57, l_59, l_60, l_61, l_62, l_63, l_64, l_65, l_70, l_80, l_90, l_97, l_99, l_100, l_120, l_122, l_127, l_144, l_150, l_201, l_202, l_203, l_204, l_205, l_206, l_207, l_255, l_300, l_364, l_480, l_560, l_600, l_601, l_620, l_840, l_900, l_980, l_999, l_1000, l_1023, l_1024, l_1220, l_1439, l_1440, l_2240, l_2400, l_3000, l_3600, l_4095, l_4096, l_7320, l_9999, l_10079, l_10080, l_12000, l_99999, l_120000, l_1000000, l_2147483647, e1, e2]
  have j1 : ((8 : Int32) * x1 + x2).toInt = ((8 * t + i : Nat) : Int) := by
    rw [j0]
    omega
  have jc : ((8 : Int32) * x1 + x2).toNatClampNeg = 8 * t + i := by
    rw [n_idx, j1]
    rfl
  obtain ⟨w1, w2, w3⟩ := d3 t i ht hi
  have g := vp80 j1 (show 8 * t + i < 80 by omega)
  have eq0 : ∀ (z : Int32) (k : Int), z.toInt = k → (x3 = z ↔ x3.toInt = k) := fun z k e => by rw [n_eq, e]
  have fin : stF T (hI h 333) t i x3.toInt = if x3.toInt = 0 then (tW T t i : Int) else if x3.toInt = 1 then (tC T t i : Int) else if x3.toInt = 2 then (tG T t i : Int) else if x3.toInt = 3 then hI h 333 (8 * t + i) else -1 := by
    unfold stF
    rw [if_pos k1, if_neg c', if_pos (show (0 : Int) ≤ (i : Int) ∧ (i : Int) < (tS T (t : Int).toNat : Int) from k2)]
    rfl
  refine sat_sub ?_
  rw [jc, e2, fin]
  refine sat_ite (fun k => sat_gd g (sat_ret ⟨rfl, by rw [if_pos ((eq0 0 0 rfl).mp k)]; exact w1⟩)) fun k => ?_
  have n0 : ¬ x3.toInt = 0 := fun z => k ((eq0 0 0 rfl).mpr z)
  refine sat_ite (fun k => sat_gd g (sat_ret ⟨rfl, by rw [if_neg n0, if_pos ((eq0 1 1 rfl).mp k)]; exact w2⟩)) fun k => ?_
  have n1 : ¬ x3.toInt = 1 := fun z => k ((eq0 1 1 rfl).mpr z)
  refine sat_ite (fun k => sat_gd g (sat_ret ⟨rfl, by rw [if_neg n0, if_neg n1, if_pos ((eq0 2 2 rfl).mp k)]; exact w3⟩)) fun k => ?_
  have n2 : ¬ x3.toInt = 2 := fun z => k ((eq0 2 2 rfl).mpr z)
  refine sat_ite (fun k => sat_gd g ?_) fun k => sat_ret ⟨rfl, by rw [if_neg n0, if_neg n1, if_neg n2, if_neg (fun z => k ((eq0 3 3 rfl).mpr z))]; rfl⟩
  have p3 : x3.toInt = 3 := (eq0 3 3 rfl).mp k
  obtain ⟨m1, m2⟩ := m.1 (8 * t + i) (by omega)
  refine sat_ite (fun z => ?_) fun z => ?_
  · rw [n_eq, hI_eq, l_0] at z
    exact sat_ret ⟨rfl, by rw [if_neg n0, if_neg n1, if_neg n2, if_pos p3]; exact z.symm⟩
  · rw [n_eq, hI_eq, l_0] at z
    refine sat_ret ⟨rfl, ?_⟩
    rw [if_neg n0, if_neg n1, if_neg n2, if_pos p3]
    rcases m2 with q | q
    · exact absurd q z
    · exact q.symm
theorem call_stopOf {h : ea_H} {T : Nat → Nat → Nat → Nat} (b : STb h T) (m : SMis h) (x1 x2 x3 : Int32) : tw (qX11_stopOf x1 x2 x3 h) (qX12_stopOf x1 x2 x3) fun h' => h' = h := tw_ro (c_stopOf b m x1 x2 x3) (m_stopOf b m x1 x2 x3)
def ltC (T : Nat → Nat → Nat → Nat) (now a d n : Int) : Prop := (0 ≤ a ∧ a < tN T) ∧ (0 ≤ d ∧ d < 7) ∧ (0 ≤ n ∧ n ≤ 300) ∧ 0 < tS T a.toNat ∧ now < 1440 * d + tG T a.toNat 0
theorem c_may {h : ea_H} {T : Nat → Nat → Nat → Nat} (ok : tOk T) (b : CTab h T) (x1 x2 x3 : Int32) : ∃ v, qX11_mayBeTold x1 x2 x3 h = some (v, h) ∧ ((v = 0 ∧ ¬ ltC T (hI h 0 14) x1.toInt x2.toInt x3.toInt) ∨ (v = 1 ∧ ltC T (hI h 0 14) x1.toInt x2.toInt x3.toInt)) := by
  have H : sat (qX11_mayBeTold x1 x2 x3 h) fun y => y.2 = h ∧ ((y.1 = 0 ∧ ¬ ltC T (hI h 0 14) x1.toInt x2.toInt x3.toInt) ∨ (y.1 = 1 ∧ ltC T (hI h 0 14) x1.toInt x2.toInt x3.toInt)) := by
    obtain ⟨b1, b2, b3, b4⟩ := b
    have ok1 := ok.1
    unfold qX11_mayBeTold BX11_mayBeTold_0 ltC
    obtain ⟨v1, q1, s1⟩ := c_hasRun x1 x2 h
    refine sat_call q1 ?_
    rcases s1 with ⟨r1, s1⟩ | ⟨r1, s1⟩
    · exact sat_pos r1 (sat_ret ⟨rfl, Or.inl ⟨rfl, by omega⟩⟩)
    refine sat_neg (by rw [r1]; exact i1_ne_0) ?_
    dsimp only
    refine sat_ite (fun c2 => ?_) fun c2 => ?_
    · simp only [n_lt, n_le, n_eq, hI_eq, l_m1000, l_m100, l_m60, l_m19, l_m18, l_m17, l_m16, l_m15, l_m14, l_m13, l_m12, l_m11, l_m10, l_m8, l_m1, l_0, l_1, l_2, l_3, l_4, l_5, l_6, l_7, l_8, l_9, l_10, l_11, l_12, l_13, l_14, l_15, l_16, l_17, l_18, l_19, l_20, l_21, l_24, l_25, l_32, l_40, l_41, l_42, l_43, l_45, l_47, l_48, l_57, l_59, l_60, l_61, l_62, l_63, l_64, l_65, l_70, l_80, l_90, l_97, l_99, l_100, l_120, l_122, l_127, l_144, l_150, l_201, l_202, l_203, l_204, l_205, l_206, l_207, l_255, l_300, l_364, l_480, l_560, l_600, l_601, l_620, l_840, l_900, l_980, l_999, l_1000, l_1023, l_1024, l_1220, l_1439, l_1440, l_2240, l_2400, l_3000, l_3600, l_4095, l_4096, l_7320, l_9999, l_10079, l_10080, l_12000, l_99999, l_120000, l_1000000, l_2147483647] at c2
      exact sat_ret ⟨rfl, Or.inl ⟨rfl, by omega⟩⟩
    simp only [n_lt, n_le, n_eq, hI_eq, l_m1000, l_m100, l_m60, l_m19, l_m18, l_m17, l_m16, l_m15, l_m14, l_m13, l_m12, l_m11, l_m10, l_m8, l_m1, l_0, l_1, l_2, l_3, l_4, l_5, l_6, l_7, l_8, l_9, l_10, l_11, l_12, l_13, l_14, l_15, l_16, l_17, l_18, l_19, l_20, l_21, l_24, l_25, l_32, l_40, l_41, l_42, l_43, l_45, l_47, l_48, l_57, l_59, l_60, l_61, l_62, l_63, l_64, l_65, l_70, l_80, l_90, l_97, l_99, l_100, l_120, l_122, l_127, l_144, l_150, l_201, l_202, l_203, l_204, l_205, l_206, l_207, l_255, l_300, l_364, l_480, l_560, l_600, l_601, l_620, l_840, l_900, l_980, l_999, l_1000, l_1023, l_1024, l_1220, l_1439, l_1440, l_2240, l_2400, l_3000, l_3600, l_4095, l_4096, l_7320, l_9999, l_10079, l_10080, l_12000, l_99999, l_120000, l_1000000, l_2147483647] at c2
    refine sat_ite (fun c3 => ?_) fun c3 => ?_
    · simp only [n_lt, n_le, n_eq, hI_eq, l_m1000, l_m100, l_m60, l_m19, l_m18, l_m17, l_m16, l_m15, l_m14, l_m13, l_m12, l_m11, l_m10, l_m8, l_m1, l_0, l_1, l_2, l_3, l_4, l_5, l_6, l_7, l_8, l_9, l_10, l_11, l_12, l_13, l_14, l_15, l_16, l_17, l_18, l_19, l_20, l_21, l_24, l_25, l_32, l_40, l_41, l_42, l_43, l_45, l_47, l_48, l_57, l_59, l_60, l_61, l_62, l_63, l_64, l_65, l_70, l_80, l_90, l_97, l_99, l_100, l_120, l_122, l_127, l_144, l_150, l_201, l_202, l_203, l_204, l_205, l_206, l_207, l_255, l_300, l_364, l_480, l_560, l_600, l_601, l_620, l_840, l_900, l_980, l_999, l_1000, l_1023, l_1024, l_1220, l_1439, l_1440, l_2240, l_2400, l_3000, l_3600, l_4095, l_4096, l_7320, l_9999, l_10079, l_10080, l_12000, l_99999, l_120000, l_1000000, l_2147483647] at c3
      exact sat_ret ⟨rfl, Or.inl ⟨rfl, by omega⟩⟩
    simp only [n_lt, n_le, n_eq, hI_eq, l_m1000, l_m100, l_m60, l_m19, l_m18, l_m17, l_m16, l_m15, l_m14, l_m13, l_m12, l_m11, l_m10, l_m8, l_m1, l_0, l_1, l_2, l_3, l_4, l_5, l_6, l_7, l_8, l_9, l_10, l_11, l_12, l_13, l_14, l_15, l_16, l_17, l_18, l_19, l_20, l_21, l_24, l_25, l_32, l_40, l_41, l_42, l_43, l_45, l_47, l_48, l_57, l_59, l_60, l_61, l_62, l_63, l_64, l_65, l_70, l_80, l_90, l_97, l_99, l_100, l_120, l_122, l_127, l_144, l_150, l_201, l_202, l_203, l_204, l_205, l_206, l_207, l_255, l_300, l_364, l_480, l_560, l_600, l_601, l_620, l_840, l_900, l_980, l_999, l_1000, l_1023, l_1024, l_1220, l_1439, l_1440, l_2240, l_2400, l_3000, l_3600, l_4095, l_4096, l_7320, l_9999, l_10079, l_10080, l_12000, l_99999, l_120000, l_1000000, l_2147483647] at c3
    have e1 : x1.toInt = (x1.toInt.toNat : Int) := by omega
    have ht : x1.toInt.toNat < 10 := by omega
    generalize x1.toInt.toNat = t at *
    have ic1 : x1.toNatClampNeg = t := by
      rw [n_idx, e1]
      rfl
    have v6 : (ea_i h 6 t).toInt = tS T t := b2 t ht
    have j0 : ((8 : Int32) * x1).toInt = 8 * (t : Int) := by simp (disch := omega) only [n_add, n_sub, n_mul, n_neg, n_bm, n_idx, n_if, hI_eq, l_m1000, l_m100, l_m60, l_m19, l_m18, l_m17, l_m16, l_m15, l_m14, l_m13, l_m12, l_m11, l_m10, l_m8, l_m1, l_0, l_1, l_2, l_3, l_4, l_5, l_6, l_7, l_8, l_9, l_10, l_11, l_12, l_13, l_14, l_15, l_16, l_17, l_18, l_19, l_20, l_21, l_24, l_25, l_32, l_40, l_41, l_42, l_43, l_45, l_47, l_48, l_57, l_59, l_60, l_61, l_62, l_63, l_64, l_65, l_70, l_80, l_90, l_97, l_99, l_100, l_120, l_122, l_127, l_144, l_150, l_201, l_202, l_203, l_204, l_205, l_206, l_207, l_255, l_300, l_364, l_480, l_560, l_600, l_601, l_620, l_840, l_900, l_980, l_999, l_1000, l_1023, l_1024, l_1220, l_1439, l_1440, l_2240, l_2400, l_3000, l_3600, l_4095, l_4096, l_7320, l_9999, l_10079, l_10080, l_12000, l_99999, l_120000, l_1000000, l_2147483647, e1]
    have j1 : ((8 : Int32) * x1).toInt = ((8 * t + 0 : Nat) : Int) := by
      rw [j0]
      omega
    have jc : ((8 : Int32) * x1).toNatClampNeg = 8 * t + 0 := by
      rw [n_idx, j1]
      rfl
    rw [ic1, jc]
    refine sat_gd (vp80 e1 ht) ?_
    refine sat_ite (fun c => ?_) fun c => ?_
    · rw [n_le, v6, l_0] at c
      exact sat_ret ⟨rfl, Or.inl ⟨rfl, by omega⟩⟩
    rw [n_le, v6, l_0] at c
    have b9 := ok.2.2.2.1 t 0 ht (by omega)
    have w3 : (ea_i h 9 (8 * t + 0)).toInt = tG T t 0 := (b3 t 0 ht (by decide)).2.2
    have sv : ((1440 : Int32) * x2 + ea_i h 9 (8 * t + 0)).toInt = 1440 * x2.toInt + tG T t 0 := by simp (disch := omega) only [n_add, n_sub, n_mul, n_neg, n_bm, n_idx, n_if, hI_eq, l_m1000, l_m100, l_m60, l_m19, l_m18, l_m17, l_m16, l_m15, l_m14, l_m13, l_m12, l_m11, l_m10, l_m8, l_m1, l_0, l_1, l_2, l_3, l_4, l_5, l_6, l_7, l_8, l_9, l_10, l_11, l_12, l_13, l_14, l_15, l_16, l_17, l_18, l_19, l_20, l_21, l_24, l_25, l_32, l_40, l_41, l_42, l_43, l_45, l_47, l_48, l_57, l_59, l_60, l_61, l_62, l_63, l_64, l_65, l_70, l_80, l_90, l_97, l_99, l_100, l_120, l_122, l_127, l_144, l_150, l_201, l_202, l_203, l_204, l_205, l_206, l_207, l_255, l_300, l_364, l_480, l_560, l_600, l_601, l_620, l_840, l_900, l_980, l_999, l_1000, l_1023, l_1024, l_1220, l_1439, l_1440, l_2240, l_2400, l_3000, l_3600, l_4095, l_4096, l_7320, l_9999, l_10079, l_10080, l_12000, l_99999, l_120000, l_1000000, l_2147483647, w3]
    refine sat_gd (vp80 j1 (by omega)) ?_
    refine sat_ite (fun c => ?_) fun c => ?_
    · rw [n_le, sv, hI_eq] at c
      exact sat_ret ⟨rfl, Or.inl ⟨rfl, by omega⟩⟩
    rw [n_le, sv, hI_eq] at c
    exact sat_ret ⟨rfl, Or.inr ⟨rfl, by omega⟩⟩
  obtain ⟨⟨v, h2⟩, q1, q2, q3⟩ := H
  have q2 : h2 = h := q2
  subst q2
  exact ⟨v, q1, q3⟩
theorem m_can {h : ea_H} {T : Nat → Nat → Nat → Nat} (ok : tOk T) (b : MTab h T) (x1 x2 x3 : Int32) : ∃ v, qX12_canBeLate x1 x2 x3 h = some (v, h) ∧ ((v = 0 ∧ ¬ ltC T (hI h 326 0) x1.toInt x2.toInt x3.toInt) ∨ (v = 1 ∧ ltC T (hI h 326 0) x1.toInt x2.toInt x3.toInt)) := by
  have H : sat (qX12_canBeLate x1 x2 x3 h) fun y => y.2 = h ∧ ((y.1 = 0 ∧ ¬ ltC T (hI h 326 0) x1.toInt x2.toInt x3.toInt) ∨ (y.1 = 1 ∧ ltC T (hI h 326 0) x1.toInt x2.toInt x3.toInt)) := by
    obtain ⟨d1, d2, d3, d4⟩ := b
    have ok1 := ok.1
    unfold qX12_canBeLate BX12_canBeLate_0 ltC
    obtain ⟨v1, q1, s1⟩ := m_isTrain x1 (h := h) (by omega)
    refine sat_call q1 ?_
    rcases s1 with ⟨r1, s1⟩ | ⟨r1, s1⟩
    · exact sat_pos r1 (sat_ret ⟨rfl, Or.inl ⟨rfl, by omega⟩⟩)
    refine sat_neg (by rw [r1]; exact i1_ne_0) ?_
    dsimp only
    obtain ⟨v2, q2, s2⟩ := m_isDay x2 h
    refine sat_call q2 ?_
    rcases s2 with ⟨r2, s2⟩ | ⟨r2, s2⟩
    · exact sat_pos r2 (sat_ret ⟨rfl, Or.inl ⟨rfl, by omega⟩⟩)
    refine sat_neg (by rw [r2]; exact i1_ne_0) ?_
    dsimp only
    obtain ⟨vi, qi, si⟩ := m_isIn x3 0 300 h
    rw [l_300, l_0] at si
    refine sat_call qi ?_
    rcases si with ⟨ri, si⟩ | ⟨ri, si⟩
    · exact sat_pos ri (sat_ret ⟨rfl, Or.inl ⟨rfl, by omega⟩⟩)
    refine sat_neg (by rw [ri]; exact i1_ne_0) ?_
    dsimp only
    have e1 : x1.toInt = (x1.toInt.toNat : Int) := by omega
    have ht : x1.toInt.toNat < 10 := by omega
    generalize x1.toInt.toNat = t at *
    have ic1 : x1.toNatClampNeg = t := by
      rw [n_idx, e1]
      rfl
    have v6 : (ea_i h 328 t).toInt = tS T t := d2 t ht
    have j0 : ((8 : Int32) * x1).toInt = 8 * (t : Int) := by simp (disch := omega) only [n_add, n_sub, n_mul, n_neg, n_bm, n_idx, n_if, hI_eq, l_m1000, l_m100, l_m60, l_m19, l_m18, l_m17, l_m16, l_m15, l_m14, l_m13, l_m12, l_m11, l_m10, l_m8, l_m1, l_0, l_1, l_2, l_3, l_4, l_5, l_6, l_7, l_8, l_9, l_10, l_11, l_12, l_13, l_14, l_15, l_16, l_17, l_18, l_19, l_20, l_21, l_24, l_25, l_32, l_40, l_41, l_42, l_43, l_45, l_47, l_48, l_57, l_59, l_60, l_61, l_62, l_63, l_64, l_65, l_70, l_80, l_90, l_97, l_99, l_100, l_120, l_122, l_127, l_144, l_150, l_201, l_202, l_203, l_204, l_205, l_206, l_207, l_255, l_300, l_364, l_480, l_560, l_600, l_601, l_620, l_840, l_900, l_980, l_999, l_1000, l_1023, l_1024, l_1220, l_1439, l_1440, l_2240, l_2400, l_3000, l_3600, l_4095, l_4096, l_7320, l_9999, l_10079, l_10080, l_12000, l_99999, l_120000, l_1000000, l_2147483647, e1]
    have j1 : ((8 : Int32) * x1).toInt = ((8 * t + 0 : Nat) : Int) := by
      rw [j0]
      omega
    have jc : ((8 : Int32) * x1).toNatClampNeg = 8 * t + 0 := by
      rw [n_idx, j1]
      rfl
    rw [ic1, jc]
    refine sat_gd (vp80 e1 ht) ?_
    refine sat_ite (fun c => ?_) fun c => ?_
    · rw [n_le, v6, l_0] at c
      exact sat_ret ⟨rfl, Or.inl ⟨rfl, by omega⟩⟩
    rw [n_le, v6, l_0] at c
    have b9 := ok.2.2.2.1 t 0 ht (by omega)
    have w3 : (ea_i h 331 (8 * t + 0)).toInt = tG T t 0 := (d3 t 0 ht (by decide)).2.2
    have sv : ((1440 : Int32) * x2 + ea_i h 331 (8 * t + 0)).toInt = 1440 * x2.toInt + tG T t 0 := by simp (disch := omega) only [n_add, n_sub, n_mul, n_neg, n_bm, n_idx, n_if, hI_eq, l_m1000, l_m100, l_m60, l_m19, l_m18, l_m17, l_m16, l_m15, l_m14, l_m13, l_m12, l_m11, l_m10, l_m8, l_m1, l_0, l_1, l_2, l_3, l_4, l_5, l_6, l_7, l_8, l_9, l_10, l_11, l_12, l_13, l_14, l_15, l_16, l_17, l_18, l_19, l_20, l_21, l_24, l_25, l_32, l_40, l_41, l_42, l_43, l_45, l_47, l_48, l_57, l_59, l_60, l_61, l_62, l_63, l_64, l_65, l_70, l_80, l_90, l_97, l_99, l_100, l_120, l_122, l_127, l_144, l_150, l_201, l_202, l_203, l_204, l_205, l_206, l_207, l_255, l_300, l_364, l_480, l_560, l_600, l_601, l_620, l_840, l_900, l_980, l_999, l_1000, l_1023, l_1024, l_1220, l_1439, l_1440, l_2240, l_2400, l_3000, l_3600, l_4095, l_4096, l_7320, l_9999, l_10079, l_10080, l_12000, l_99999, l_120000, l_1000000, l_2147483647, w3]
    refine sat_gd (vp80 j1 (by omega)) ?_
    refine sat_ite (fun c => ?_) fun c => ?_
    · rw [n_le, sv, hI_eq] at c
      exact sat_ret ⟨rfl, Or.inl ⟨rfl, by omega⟩⟩
    rw [n_le, sv, hI_eq] at c
    exact sat_ret ⟨rfl, Or.inr ⟨rfl, by omega⟩⟩
  obtain ⟨⟨v, h2⟩, q1, q2, q3⟩ := H
  have q2 : h2 = h := q2
  subst q2
  exact ⟨v, q1, q3⟩
def tLat (T : Nat → Nat → Nat → Nat) (t d n : Nat) : Nat → Nat → Nat → Nat := fun k a b => if k = 5 ∧ a = t ∧ b = d then n else T k a b
theorem tLat_ok {T : Nat → Nat → Nat → Nat} (ok : tOk T) {t d n : Nat} (hn : n ≤ 300) : tOk (tLat T t d n) := by
  obtain ⟨h1, h2, h3, h4, h5, h6⟩ := ok
  refine ⟨h1, h2, h3, h4, h5, fun a b ha hb => ?_⟩
  show (if 5 = 5 ∧ a = t ∧ b = d then n else T 5 a b) ≤ 300
  split
  · exact hn
  · exact h6 a b ha hb
theorem call_late {h : ea_H} {n : Nat} {T : Nat → Nat → Nat → Nat} (bs : SBas h n) (b : STb h T) (x1 x2 x3 : Int32) : tw (qX11_late x1 x2 x3 h) (qX12_late x1 x2 x3) fun h' => fq [(11, 11), (332, 332)] [((13, 13), 0, 0), ((0, 0), 15, 15), ((326, 326), 12, 12)] h h' ∧ (h' = h ∨ ∃ t d m, ltC T (hI h 326 0) ((t : Nat) : Int) ((d : Nat) : Int) ((m : Nat) : Int) ∧ STb h' (tLat T t d m) ∧ hI h' 13 0 = 0 ∧ hI h' 0 15 = 0 ∧ hI h' 326 12 = 0) := by
  obtain ⟨b1, -⟩ := bs
  unfold tw qX11_late BX11_late_0
  obtain ⟨ok, cC, cM⟩ := b
  obtain ⟨v, q, r⟩ := c_may ok cC x1 x2 x3
  rw [b1] at r
  refine sat_call q ?_
  rcases r with ⟨rfl, r⟩ | ⟨rfl, r⟩
  · obtain ⟨u, p, s⟩ := m_can ok cM x1 x2 x3
    rcases s with ⟨rfl, s⟩ | ⟨rfl, s⟩
    · refine sat_pos rfl (sat_ret ?_)
      show sat (qX12_late x1 x2 x3 h) _
      unfold qX12_late BX12_late_0
      exact sat_call p (sat_pos rfl (sat_ret ⟨rfl, fq_rfl _ _ _, Or.inl rfl⟩))
    · exact absurd s r
  have r0 := r
  obtain ⟨⟨r1, r2⟩, ⟨r3, r4⟩, ⟨r5, r6⟩, r7, r8⟩ := r
  have ok1 := ok.1
  have e1 : x1.toInt = (x1.toInt.toNat : Int) := by omega
  have e2 : x2.toInt = (x2.toInt.toNat : Int) := by omega
  have e3 : x3.toInt = (x3.toInt.toNat : Int) := by omega
  have ht : x1.toInt.toNat < 10 := by omega
  have hd : x2.toInt.toNat < 7 := by omega
  have hm : x3.toInt.toNat ≤ 300 := by omega
  generalize x1.toInt.toNat = t at *
  generalize x2.toInt.toNat = d at *
  generalize x3.toInt.toNat = m at *
  rw [e1, e2, e3] at r0
  have j0 : ((10 : Int32) * x2 + x1).toInt = 10 * (d : Int) + t := by simp (disch := omega) only [n_add, n_sub, n_mul, n_neg, n_bm, n_idx, n_if, hI_eq, l_m1000, l_m100, l_m60, l_m19, l_m18, l_m17, l_m16, l_m15, l_m14, l_m13, l_m12, l_m11, l_m10, l_m8, l_m1, l_0, l_1, l_2, l_3, l_4, l_5, l_6, l_7, l_8, l_9, l_10, l_11, l_12, l_13, l_14, l_15, l_16, l_17, l_18, l_19, l_20, l_21, l_24, l_25, l_32, l_40, l_41, l_42, l_43, l_45, l_47, l_48, l_57, l_59, l_60, l_61, l_62, l_63, l_64, l_65, l_70, l_80, l_90, l_97, l_99, l_100, l_120, l_122, l_127, l_144, l_150, l_201, l_202, l_203, l_204, l_205, l_206, l_207, l_255, l_300, l_364, l_480, l_560, l_600, l_601, l_620, l_840, l_900, l_980, l_999, l_1000, l_1023, l_1024, l_1220, l_1439, l_1440, l_2240, l_2400, l_3000, l_3600, l_4095, l_4096, l_7320, l_9999, l_10079, l_10080, l_12000, l_99999, l_120000, l_1000000, l_2147483647, e1, e2]
  have j1 : ((10 : Int32) * x2 + x1).toInt = ((10 * d + t : Nat) : Int) := by
    rw [j0]
    omega
  have jc : ((10 : Int32) * x2 + x1).toNatClampNeg = 10 * d + t := by
    rw [n_idx, j1]
    rfl
  have k0 : ((7 : Int32) * x1 + x2).toInt = 7 * (t : Int) + d := by simp (disch := omega) only [n_add, n_sub, n_mul, n_neg, n_bm, n_idx, n_if, hI_eq, l_m1000, l_m100, l_m60, l_m19, l_m18, l_m17, l_m16, l_m15, l_m14, l_m13, l_m12, l_m11, l_m10, l_m8, l_m1, l_0, l_1, l_2, l_3, l_4, l_5, l_6, l_7, l_8, l_9, l_10, l_11, l_12, l_13, l_14, l_15, l_16, l_17, l_18, l_19, l_20, l_21, l_24, l_25, l_32, l_40, l_41, l_42, l_43, l_45, l_47, l_48, l_57, l_59, l_60, l_61, l_62, l_63, l_64, l_65, l_70, l_80, l_90, l_97, l_99, l_100, l_120, l_122, l_127, l_144, l_150, l_201, l_202, l_203, l_204, l_205, l_206, l_207, l_255, l_300, l_364, l_480, l_560, l_600, l_601, l_620, l_840, l_900, l_980, l_999, l_1000, l_1023, l_1024, l_1220, l_1439, l_1440, l_2240, l_2400, l_3000, l_3600, l_4095, l_4096, l_7320, l_9999, l_10079, l_10080, l_12000, l_99999, l_120000, l_1000000, l_2147483647, e1, e2]
  have k1 : ((7 : Int32) * x1 + x2).toInt = ((7 * t + d : Nat) : Int) := by
    rw [k0]
    omega
  have kc : ((7 : Int32) * x1 + x2).toNatClampNeg = 7 * t + d := by
    rw [n_idx, k1]
    rfl
  rw [jc]
  refine sat_neg i1_ne_0 (sat_gd (vp80 j1 (by omega)) (sat_let fun H3 q3 => ?_))
  unfold qX11_tableChanged BX11_tableChanged_0
  refine bd_let fun H4 q4 => bd_let fun H5 q5 => bd_ret (sat_ret ?_)
  show sat (qX12_late x1 x2 x3 H5) _
  have f : fq [(11, 11)] [((13, 13), 0, 0), ((0, 0), 15, 15)] h H5 := (q3 ▸ fq_wi rfl : fq [(11, 11)] [((13, 13), 0, 0), ((0, 0), 15, 15)] h H3).tr ((q4 ▸ fq_wf rfl : fq [(11, 11)] [((13, 13), 0, 0), ((0, 0), 15, 15)] H3 H4).tr (q5 ▸ fq_wf rfl))
  have dM : MTab H5 T := MTab.fq f rfl rfl ⟨rfl, rfl⟩ ⟨rfl, rfl⟩ ⟨rfl, rfl⟩ ⟨rfl, rfl⟩ ⟨rfl, rfl⟩ cM
  obtain ⟨u, p, s⟩ := m_can ok dM x1 x2 x3
  rw [e1, e2, e3, f.I 326 rfl 0 rfl] at s
  rcases s with ⟨rfl, s⟩ | ⟨rfl, s⟩
  · exact absurd r0 s
  unfold qX12_late BX12_late_0 qX12_run BX12_run_0
  refine sat_call p (sat_neg i1_ne_0 (bd_ret ?_))
  show sat (gd (vp_in ((7 : Int32) * x1 + x2) 70) (ea_let (ea_wi H5 332 ((7 : Int32) * x1 + x2).toNatClampNeg x3) _)) _
  rw [kc]
  refine sat_gd (vp80 k1 (by omega)) (sat_let fun H6 q6 => sat_let fun H7 q7 => sat_ret ?_)
  have g : fq [(332, 332)] [((326, 326), 12, 12)] H5 H7 := (q6 ▸ fq_wi rfl : fq [(332, 332)] [((326, 326), 12, 12)] H5 H6).tr (q7 ▸ fq_wf rfl)
  have F : fq [(11, 11), (332, 332)] [((13, 13), 0, 0), ((0, 0), 15, 15), ((326, 326), 12, 12)] h H7 := (f.up rfl rfl).tr (g.up rfl rfl)
  obtain ⟨z1, z2, z3, z4⟩ := cC
  obtain ⟨d1, d2, d3, d4⟩ := cM
  refine ⟨rfl, F, Or.inr ⟨t, d, m, r0, ⟨tLat_ok ok hm, ⟨?_, fun t' ht' => ?_, fun t' i ht' hi => ?_, fun t' d' ht' hd' => ?_⟩, ?_, fun t' ht' => ?_, fun t' i ht' hi => ?_, fun t' d' ht' hd' => ?_⟩, ?_, ?_, ?_⟩⟩
  · exact (F.I 5 rfl 0 rfl).trans z1
  · exact (F.C 6 rfl rfl _).trans (z2 t' ht')
  · show hI H7 7 _ = _ ∧ hI H7 8 _ = _ ∧ hI H7 9 _ = _
    rw [F.C 7 rfl rfl, F.C 8 rfl rfl, F.C 9 rfl rfl]
    exact z3 t' i ht' hi
  · show hI H7 11 (10 * d' + t') = ((if 5 = 5 ∧ t' = t ∧ d' = d then m else T 5 t' d' : Nat) : Int)
    rw [g.C 11 rfl rfl, q5, hI_ne (by decide), q4, hI_ne (by decide), q3, hI_row]
    by_cases q : t' = t ∧ d' = d
    · rw [if_pos (by omega), if_pos ⟨rfl, q⟩]
      exact e3
    · rw [if_neg (by omega), if_neg (fun z => q z.2)]
      exact z4 t' d' ht' hd'
  · exact (F.I 326 rfl 2 rfl).trans d1
  · exact (F.C 328 rfl rfl _).trans (d2 t' ht')
  · show hI H7 329 _ = _ ∧ hI H7 330 _ = _ ∧ hI H7 331 _ = _
    rw [F.C 329 rfl rfl, F.C 330 rfl rfl, F.C 331 rfl rfl]
    exact d3 t' i ht' hi
  · show hI H7 332 (7 * t' + d') = ((if 5 = 5 ∧ t' = t ∧ d' = d then m else T 5 t' d' : Nat) : Int)
    rw [q7, hI_ne (by decide), q6, hI_row]
    by_cases q : t' = t ∧ d' = d
    · rw [if_pos (by omega), if_pos ⟨rfl, q⟩]
      exact e3
    · rw [if_neg (by omega), if_neg (fun z => q z.2), f.C 332 rfl rfl]
      exact d4 t' d' ht' hd'
  · show hI H7 13 0 = 0
    rw [g.I 13 rfl 0 rfl, q5, hI_ne (by decide), q4, hI_at]
    rfl
  · show hI H7 0 15 = 0
    rw [g.I 0 rfl 15 rfl, q5, hI_at]
    rfl
  · show hI H7 326 12 = 0
    rw [q7, hI_at]
    rfl
