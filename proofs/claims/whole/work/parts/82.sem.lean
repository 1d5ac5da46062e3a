/-! calls: sorter, seat, set, clock -/
theorem call_sorter {h : ea_H} (c : SCr h) (x1 x2 : Int32) : tw (qX11_sorter x1 x2 h) (qX12_sorter x1 x2) fun h' => fq [(19, 21), (392, 393)] [((18, 18), 0, 0), ((0, 0), 15, 15), ((326, 326), 92, 92)] h h' ∧ SCr h' ∧ (h' = h ∨ hI h' 0 15 = 0) := by
  have c' := c
  obtain ⟨s, c1, c2, c3, c5, c4⟩ := c
  have no : ¬ ((1 ≤ x1.toInt ∧ x1.toInt ≤ 99) ∧ 0 ≤ x2.toInt ∧ x2.toInt < 4096) → sat (some ((-1 : Int32), h)) fun y => sat (qX12_sorter x1 x2 y.2) fun z => y.1 = z.1 ∧ fq [(19, 21), (392, 393)] [((18, 18), 0, 0), ((0, 0), 15, 15), ((326, 326), 92, 92)] h z.2 ∧ SCr z.2 ∧ (z.2 = h ∨ hI z.2 0 15 = 0) := by
    intro hc
    refine sat_ret ?_
    show sat (qX12_sorter x1 x2 h) _
    have K : sat (some ((-1 : Int32), h)) fun z => (-1 : Int32) = z.1 ∧ fq [(19, 21), (392, 393)] [((18, 18), 0, 0), ((0, 0), 15, 15), ((326, 326), 92, 92)] h z.2 ∧ SCr z.2 ∧ (z.2 = h ∨ hI z.2 0 15 = 0) := sat_ret ⟨rfl, fq_rfl _ _ _, c', Or.inl rfl⟩
    unfold qX12_sorter BX12_sorter_0
    obtain ⟨vi, qi, si⟩ := m_isIn x1 1 99 h
    rw [l_1, l_99] at si
    refine sat_call qi ?_
    rcases si with ⟨ri, si⟩ | ⟨ri, si⟩
    · exact sat_pos ri K
    refine sat_neg (by rw [ri]; exact i1_ne_0) ?_
    dsimp only
    obtain ⟨vj, qj, sj⟩ := m_isIn x2 0 4095 h
    rw [l_0, l_4095] at sj
    refine sat_call qj ?_
    rcases sj with ⟨rj, sj⟩ | ⟨rj, sj⟩
    · exact sat_pos rj K
    omega
  unfold tw qX11_sorter BX11_sorter_0
  refine sat_ite (fun a1 => ?_) fun a1 => ?_
  · simp only [n_lt, n_le, n_eq, hI_eq, l_m1000, l_m100, l_m60, l_m19, l_m18, l_m17, l_m16, l_m15, l_m14, l_m13, l_m12, l_m11, l_m10, l_m8, l_m1, l_0, l_1, l_2, l_3, l_4, l_5, l_6, l_7, l_8, l_9, l_10, l_11, l_12, l_13, l_14, l_15, l_16, l_17, l_18, l_19, l_20, l_21, l_24, l_25, l_32, l_40, l_41, l_42, l_43, l_45, l_47, l_48, l_57, l_59, l_60, l_61, l_62, l_63, l_64, l_65, l_70, l_80, l_90, l_97, l_99, l_100, l_120, l_122, l_127, l_144, l_150, l_201, l_202, l_203, l_204, l_205, l_206, l_207, l_255, l_300, l_364, l_480, l_560, l_600, l_601, l_620, l_840, l_900, l_980, l_999, l_1000, l_1023, l_1024, l_1220, l_1439, l_1440, l_2240, l_2400, l_3000, l_3600, l_4095, l_4096, l_7320, l_9999, l_10079, l_10080, l_12000, l_99999, l_120000, l_1000000, l_2147483647] at a1
    exact no (by omega)
  simp only [n_lt, n_le, n_eq, hI_eq, l_m1000, l_m100, l_m60, l_m19, l_m18, l_m17, l_m16, l_m15, l_m14, l_m13, l_m12, l_m11, l_m10, l_m8, l_m1, l_0, l_1, l_2, l_3, l_4, l_5, l_6, l_7, l_8, l_9, l_10, l_11, l_12, l_13, l_14, l_15, l_16, l_17, l_18, l_19, l_20, l_21, l_24, l_25, l_32, l_40, l_41, l_42, l_43, l_45, l_47, l_48, l_57, l_59, l_60, l_61, l_62, l_63, l_64, l_65, l_70, l_80, l_90, l_97, l_99, l_100, l_120, l_122, l_127, l_144, l_150, l_201, l_202, l_203, l_204, l_205, l_206, l_207, l_255, l_300, l_364, l_480, l_560, l_600, l_601, l_620, l_840, l_900, l_980, l_999, l_1000, l_1023, l_1024, l_1220, l_1439, l_1440, l_2240, l_2400, l_3000, l_3600, l_4095, l_4096, l_7320, l_9999, l_10079, l_10080, l_12000, l_99999, l_120000, l_1000000, l_2147483647] at a1
  refine sat_ite (fun a2 => ?_) fun a2 => ?_
  · simp only [n_lt, n_le, n_eq, hI_eq, l_m1000, l_m100, l_m60, l_m19, l_m18, l_m17, l_m16, l_m15, l_m14, l_m13, l_m12, l_m11, l_m10, l_m8, l_m1, l_0, l_1, l_2, l_3, l_4, l_5, l_6, l_7, l_8, l_9, l_10, l_11, l_12, l_13, l_14, l_15, l_16, l_17, l_18, l_19, l_20, l_21, l_24, l_25, l_32, l_40, l_41, l_42, l_43, l_45, l_47, l_48, l_57, l_59, l_60, l_61, l_62, l_63, l_64, l_65, l_70, l_80, l_90, l_97, l_99, l_100, l_120, l_122, l_127, l_144, l_150, l_201, l_202, l_203, l_204, l_205, l_206, l_207, l_255, l_300, l_364, l_480, l_560, l_600, l_601, l_620, l_840, l_900, l_980, l_999, l_1000, l_1023, l_1024, l_1220, l_1439, l_1440, l_2240, l_2400, l_3000, l_3600, l_4095, l_4096, l_7320, l_9999, l_10079, l_10080, l_12000, l_99999, l_120000, l_1000000, l_2147483647] at a2
    exact no (by omega)
  simp only [n_lt, n_le, n_eq, hI_eq, l_m1000, l_m100, l_m60, l_m19, l_m18, l_m17, l_m16, l_m15, l_m14, l_m13, l_m12, l_m11, l_m10, l_m8, l_m1, l_0, l_1, l_2, l_3, l_4, l_5, l_6, l_7, l_8, l_9, l_10, l_11, l_12, l_13, l_14, l_15, l_16, l_17, l_18, l_19, l_20, l_21, l_24, l_25, l_32, l_40, l_41, l_42, l_43, l_45, l_47, l_48, l_57, l_59, l_60, l_61, l_62, l_63, l_64, l_65, l_70, l_80, l_90, l_97, l_99, l_100, l_120, l_122, l_127, l_144, l_150, l_201, l_202, l_203, l_204, l_205, l_206, l_207, l_255, l_300, l_364, l_480, l_560, l_600, l_601, l_620, l_840, l_900, l_980, l_999, l_1000, l_1023, l_1024, l_1220, l_1439, l_1440, l_2240, l_2400, l_3000, l_3600, l_4095, l_4096, l_7320, l_9999, l_10079, l_10080, l_12000, l_99999, l_120000, l_1000000, l_2147483647] at a2
  refine sat_ite (fun a3 => ?_) fun a3 => ?_
  · simp only [n_lt, n_le, n_eq, hI_eq, l_m1000, l_m100, l_m60, l_m19, l_m18, l_m17, l_m16, l_m15, l_m14, l_m13, l_m12, l_m11, l_m10, l_m8, l_m1, l_0, l_1, l_2, l_3, l_4, l_5, l_6, l_7, l_8, l_9, l_10, l_11, l_12, l_13, l_14, l_15, l_16, l_17, l_18, l_19, l_20, l_21, l_24, l_25, l_32, l_40, l_41, l_42, l_43, l_45, l_47, l_48, l_57, l_59, l_60, l_61, l_62, l_63, l_64, l_65, l_70, l_80, l_90, l_97, l_99, l_100, l_120, l_122, l_127, l_144, l_150, l_201, l_202, l_203, l_204, l_205, l_206, l_207, l_255, l_300, l_364, l_480, l_560, l_600, l_601, l_620, l_840, l_900, l_980, l_999, l_1000, l_1023, l_1024, l_1220, l_1439, l_1440, l_2240, l_2400, l_3000, l_3600, l_4095, l_4096, l_7320, l_9999, l_10079, l_10080, l_12000, l_99999, l_120000, l_1000000, l_2147483647] at a3
    exact no (by omega)
  simp only [n_lt, n_le, n_eq, hI_eq, l_m1000, l_m100, l_m60, l_m19, l_m18, l_m17, l_m16, l_m15, l_m14, l_m13, l_m12, l_m11, l_m10, l_m8, l_m1, l_0, l_1, l_2, l_3, l_4, l_5, l_6, l_7, l_8, l_9, l_10, l_11, l_12, l_13, l_14, l_15, l_16, l_17, l_18, l_19, l_20, l_21, l_24, l_25, l_32, l_40, l_41, l_42, l_43, l_45, l_47, l_48, l_57, l_59, l_60, l_61, l_62, l_63, l_64, l_65, l_70, l_80, l_90, l_97, l_99, l_100, l_120, l_122, l_127, l_144, l_150, l_201, l_202, l_203, l_204, l_205, l_206, l_207, l_255, l_300, l_364, l_480, l_560, l_600, l_601, l_620, l_840, l_900, l_980, l_999, l_1000, l_1023, l_1024, l_1220, l_1439, l_1440, l_2240, l_2400, l_3000, l_3600, l_4095, l_4096, l_7320, l_9999, l_10079, l_10080, l_12000, l_99999, l_120000, l_1000000, l_2147483647] at a3
  refine sat_eti (fun a4 => ?_) fun a4 => ?_
  · simp only [n_lt, n_le, n_eq, hI_eq, l_m1000, l_m100, l_m60, l_m19, l_m18, l_m17, l_m16, l_m15, l_m14, l_m13, l_m12, l_m11, l_m10, l_m8, l_m1, l_0, l_1, l_2, l_3, l_4, l_5, l_6, l_7, l_8, l_9, l_10, l_11, l_12, l_13, l_14, l_15, l_16, l_17, l_18, l_19, l_20, l_21, l_24, l_25, l_32, l_40, l_41, l_42, l_43, l_45, l_47, l_48, l_57, l_59, l_60, l_61, l_62, l_63, l_64, l_65, l_70, l_80, l_90, l_97, l_99, l_100, l_120, l_122, l_127, l_144, l_150, l_201, l_202, l_203, l_204, l_205, l_206, l_207, l_255, l_300, l_364, l_480, l_560, l_600, l_601, l_620, l_840, l_900, l_980, l_999, l_1000, l_1023, l_1024, l_1220, l_1439, l_1440, l_2240, l_2400, l_3000, l_3600, l_4095, l_4096, l_7320, l_9999, l_10079, l_10080, l_12000, l_99999, l_120000, l_1000000, l_2147483647] at a4
    exact no (by omega)
  simp only [n_lt, n_le, n_eq, hI_eq, l_m1000, l_m100, l_m60, l_m19, l_m18, l_m17, l_m16, l_m15, l_m14, l_m13, l_m12, l_m11, l_m10, l_m8, l_m1, l_0, l_1, l_2, l_3, l_4, l_5, l_6, l_7, l_8, l_9, l_10, l_11, l_12, l_13, l_14, l_15, l_16, l_17, l_18, l_19, l_20, l_21, l_24, l_25, l_32, l_40, l_41, l_42, l_43, l_45, l_47, l_48, l_57, l_59, l_60, l_61, l_62, l_63, l_64, l_65, l_70, l_80, l_90, l_97, l_99, l_100, l_120, l_122, l_127, l_144, l_150, l_201, l_202, l_203, l_204, l_205, l_206, l_207, l_255, l_300, l_364, l_480, l_560, l_600, l_601, l_620, l_840, l_900, l_980, l_999, l_1000, l_1023, l_1024, l_1220, l_1439, l_1440, l_2240, l_2400, l_3000, l_3600, l_4095, l_4096, l_7320, l_9999, l_10079, l_10080, l_12000, l_99999, l_120000, l_1000000, l_2147483647] at a4
  refine sat_let fun H1 q1 => ?_
  have f1 : fq [] [((0, 0), 15, 15)] h H1 := q1 ▸ fq_wf rfl
  have b1 : (ea_i H1 18 0).toInt = s := (f1.I 18 rfl 0 rfl).trans c1
  have ref : ∀ (h1 : ea_H) (Q : Int32 × ea_H → Prop), hI h1 326 92 = s → (s = 8 → sat (some ((-1 : Int32), h1)) Q) → (s < 8 → ∀ v u : Int32, u.toInt = ((s + 1 : Nat) : Int) → v.toInt = s → sat (some (v, ea_wi (ea_wi (ea_wi h1 392 s x1) 393 s x2) 326 92 u)) Q) → sat (qX12_sorter x1 x2 h1) Q := by
    intro h1 Q hn Kn Ky
    have hn' : (ea_i h1 326 92).toInt = s := hn
    have ic : (ea_i h1 326 92).toNatClampNeg = s := by
      rw [n_idx, hn']
      rfl
    unfold qX12_sorter BX12_sorter_0
    obtain ⟨vi, qi, si⟩ := m_isIn x1 1 99 h1
    rw [l_1, l_99] at si
    refine sat_call qi ?_
    rcases si with ⟨ri, si⟩ | ⟨ri, si⟩
    · omega
    refine sat_neg (by rw [ri]; exact i1_ne_0) ?_
    dsimp only
    obtain ⟨vj, qj, sj⟩ := m_isIn x2 0 4095 h1
    rw [l_0, l_4095] at sj
    refine sat_call qj ?_
    rcases sj with ⟨rj, sj⟩ | ⟨rj, sj⟩
    · omega
    refine sat_neg (by rw [rj]; exact i1_ne_0) ?_
    dsimp only
    refine sat_ite (fun c => ?_) fun c => ?_
    · rw [n_eq, hn', l_8] at c
      exact Kn (by omega)
    rw [n_eq, hn', l_8] at c
    rw [ic]
    refine sat_gd (vp80 hn' (by omega)) (sat_let fun H4 q4 => ?_)
    have r4 : ea_i H4 326 92 = ea_i h1 326 92 := by
      rw [q4]
      exact i_ne (by decide)
    rw [r4, ic]
    refine sat_gd (vp80 hn' (by omega)) (sat_let fun H6 q6 => ?_)
    have r6 : ea_i H6 326 92 = ea_i h1 326 92 := by
      rw [q6]
      exact (i_ne (by decide)).trans r4
    rw [r6]
    refine sat_let fun H7 q7 => ?_
    have r7 : ea_i H7 326 92 = ea_i h1 326 92 + 1 := by rw [q7, i_eq]
    rw [r7]
    have w1 := n_inc hn' (by omega)
    have w2 : (ea_i h1 326 92 + 1 - 1).toInt = s := by
      rw [n_pred (by omega), w1]
      omega
    have := Ky (by omega) _ _ w1 w2
    rw [← q4, ← q6, ← q7] at this
    exact this
  unfold qX3_add BX3_add_0
  by_cases h8 : s = 8
  · refine bd_neg (by rw [n_lt, b1, l_8]; omega) (bd_ret (sat_ret ?_))
    refine ref H1 _ ((f1.I 326 rfl 92 rfl).trans c2) (fun _ => sat_ret ⟨rfl, f1.up rfl rfl, SCr.kq (f1.kq rfl) c', Or.inr ?_⟩) fun q => absurd h8 (by omega)
    show hI H1 0 15 = 0
    rw [q1, hI_at]
    rfl
  have ic : (ea_i H1 18 0).toNatClampNeg = s := by
    rw [n_idx, b1]
    rfl
  rw [ic]
  refine bd_pos (by rw [n_lt, b1, l_8]; omega) (bd_gd (vp80 b1 (by omega)) (bd_let fun H2 q2 => ?_))
  have r2 : ea_i H2 18 0 = ea_i H1 18 0 := by
    rw [q2]
    exact i_ne (by decide)
  rw [r2, ic]
  refine bd_gd (vp80 b1 (by omega)) (bd_let fun H4 q4 => ?_)
  have r4 : ea_i H4 18 0 = ea_i H1 18 0 := by
    rw [q4]
    exact (i_ne (by decide)).trans r2
  rw [r4, ic]
  refine bd_gd (vp80 b1 (by omega)) (bd_let fun H6 q6 => ?_)
  have r6 : ea_i H6 18 0 = ea_i H1 18 0 := by
    rw [q6]
    exact (i_ne (by decide)).trans r4
  rw [r6]
  refine bd_let fun H7 q7 => bd_ret (sat_ret ?_)
  have w1 := n_inc b1 (by omega)
  have r7 : (ea_i H7 18 0 - 1).toInt = s := by
    rw [q7, i_eq, n_pred (by omega), w1]
    omega
  have f : fq [(19, 21)] [((18, 18), 0, 0), ((0, 0), 15, 15)] h H7 := (f1.up rfl rfl).tr ((q2 ▸ fq_wi rfl : fq [(19, 21)] [((18, 18), 0, 0), ((0, 0), 15, 15)] H1 H2).tr ((q4 ▸ fq_wi rfl : fq [(19, 21)] [((18, 18), 0, 0), ((0, 0), 15, 15)] H2 H4).tr ((q6 ▸ fq_wi rfl : fq [(19, 21)] [((18, 18), 0, 0), ((0, 0), 15, 15)] H4 H6).tr (q7 ▸ fq_wf rfl))))
  refine ref H7 _ ((f.I 326 rfl 92 rfl).trans c2) (fun q => absurd q h8) fun hs8 v u hu hv => ?_
  have g : fq [(392, 393)] [((326, 326), 92, 92)] H7 (ea_wi (ea_wi (ea_wi H7 392 s x1) 393 s x2) 326 92 u) := (fq_wi rfl).tr ((fq_wi rfl).tr (fq_wf rfl))
  have F : fq [(19, 21), (392, 393)] [((18, 18), 0, 0), ((0, 0), 15, 15), ((326, 326), 92, 92)] h (ea_wi (ea_wi (ea_wi H7 392 s x1) 393 s x2) 326 92 u) := (f.up rfl rfl).tr (g.up rfl rfl)
  have t392 : ∀ k, hI (ea_wi (ea_wi (ea_wi H7 392 s x1) 393 s x2) 326 92 u) 392 k = if k = s then x1.toInt else hI h 392 k := by
    intro k
    rw [hI_ne (by decide), hI_ne (by decide), hI_row, f.C 392 rfl rfl]
  have t393 : ∀ k, hI (ea_wi (ea_wi (ea_wi H7 392 s x1) 393 s x2) 326 92 u) 393 k = if k = s then x2.toInt else hI h 393 k := by
    intro k
    rw [hI_ne (by decide), hI_row, hI_ne (by decide), f.C 393 rfl rfl]
  have t92 : hI (ea_wi (ea_wi (ea_wi H7 392 s x1) 393 s x2) 326 92 u) 326 92 = ((s + 1 : Nat) : Int) := by
    rw [hI_at]
    exact hu
  generalize ea_wi (ea_wi (ea_wi H7 392 s x1) 393 s x2) 326 92 u = H at *
  have t20 : ∀ k, hI H 20 k = if k = s then x1.toInt else hI h 20 k := by
    intro k
    rw [g.C 20 rfl rfl, q7, hI_ne (by decide), q6, hI_ne (by decide), q4, hI_ne (by decide), q2, hI_row, f1.C 20 rfl rfl]
  have t21 : ∀ k, hI H 21 k = if k = s then x2.toInt else hI h 21 k := by
    intro k
    rw [g.C 21 rfl rfl, q7, hI_ne (by decide), q6, hI_ne (by decide), q4, hI_row, q2, hI_ne (by decide), f1.C 21 rfl rfl]
  have t19 : ∀ k, hI H 19 k = if k = s then -1 else hI h 19 k := by
    intro k
    rw [g.C 19 rfl rfl, q7, hI_ne (by decide), q6, hI_row, q4, hI_ne (by decide), q2, hI_ne (by decide), f1.C 19 rfl rfl]
    rfl
  refine sat_ret ⟨n_eq.mpr (r7.trans hv.symm), F, ⟨s + 1, ?_, t92, by omega, fun k hk hk8 => ?_, fun k hk => ?_⟩, Or.inr ?_⟩
  · show hI H 18 0 = _
    rw [g.I 18 rfl 0 rfl, q7, hI_at]
    exact w1
  · show hI H 394 k = -1
    rw [F.C 394 rfl rfl]
    exact c5 k (by omega) hk8
  · show (hI H 20 k = hI H 392 k ∧ 1 ≤ hI H 392 k ∧ hI H 392 k ≤ 99) ∧ (hI H 21 k = hI H 393 k ∧ 0 ≤ hI H 393 k ∧ hI H 393 k < 4096) ∧ hI H 19 k = hI H 394 k ∧ -1 ≤ hI H 394 k ∧ hI H 394 k < 10
    rw [t20, t21, t19, t392, t393, F.C 394 rfl rfl]
    by_cases q : k = s
    · rw [if_pos q, if_pos q, if_pos q, if_pos q, if_pos q, c5 k (by omega) (by omega)]
      exact ⟨⟨rfl, by omega⟩, ⟨rfl, by omega⟩, rfl, by omega, by omega⟩
    · rw [if_neg q, if_neg q, if_neg q, if_neg q, if_neg q]
      exact c4 k (by omega)
  · show hI H 0 15 = 0
    rw [g.I 0 rfl 15 rfl, q7, hI_ne (by decide), q6, hI_ne (by decide), q4, hI_ne (by decide), q2, hI_ne (by decide), q1, hI_at]
    rfl
theorem call_seat {h : ea_H} {T : Nat → Nat → Nat → Nat} (b : STb h T) (c : SCr h) (x1 x2 : Int32) : tw (qX11_seat x1 x2 h) (qX12_seat x1 x2) fun h' => fq [(19, 19), (394, 394)] [((0, 0), 15, 15)] h h' ∧ SCr h' ∧ (h' = h ∨ hI h' 0 15 = 0) := by
  have c' := c
  obtain ⟨s, c1, c2, c3, c5, c4⟩ := c
  obtain ⟨ok, cC, cM⟩ := b
  have ok1 := ok.1
  have hN : hI h 5 0 = tN T := cC.1
  have ref : ∀ (h1 : ea_H) (Q : Int32 × ea_H → Prop), hI h1 326 92 = s → hI h1 326 2 = tN T → (¬ ((0 ≤ x1.toInt ∧ x1.toInt < s) ∧ (x2.toInt = -1 ∨ 0 ≤ x2.toInt ∧ x2.toInt < tN T)) → sat (some ((0 : Int32), h1)) Q) → ((0 ≤ x1.toInt ∧ x1.toInt < s) → (x2.toInt = -1 ∨ 0 ≤ x2.toInt ∧ x2.toInt < tN T) → sat (some ((1 : Int32), ea_wi h1 394 x1.toNatClampNeg x2)) Q) → sat (qX12_seat x1 x2 h1) Q := by
    intro h1 Q hn hN1 Kn Ky
    have hn' : (ea_i h1 326 92).toInt = s := hn
    have p := n_pred (x := ea_i h1 326 92) (by omega)
    unfold qX12_seat BX12_seat_0
    obtain ⟨vi, qi, si⟩ := m_isIn x1 0 (ea_i h1 326 92 - 1) h1
    rw [l_0, p, hn'] at si
    refine sat_call qi ?_
    rcases si with ⟨ri, si⟩ | ⟨ri, si⟩
    · exact sat_pos ri (Kn (by omega))
    refine sat_neg (by rw [ri]; exact i1_ne_0) ?_
    dsimp only
    have g1 : vp_in x1 8 := n_in (by omega) (by omega)
    refine sat_ite (fun c => ?_) fun c => ?_
    · rw [n_eq, l_m1] at c
      exact sat_gd g1 (sat_sub (Ky (by omega) (Or.inl c)))
    rw [n_eq, l_m1] at c
    obtain ⟨v1, q1, s1⟩ := m_isTrain x2 (h := h1) (by omega)
    refine sat_call q1 ?_
    rcases s1 with ⟨r1, s1⟩ | ⟨r1, s1⟩
    · exact sat_pos r1 (Kn (by omega))
    refine sat_neg (by rw [r1]; exact i1_ne_0) ?_
    dsimp only
    exact sat_gd g1 (sat_sub (Ky (by omega) (Or.inr (by omega))))
  have no : ¬ ((0 ≤ x1.toInt ∧ x1.toInt < s) ∧ (x2.toInt = -1 ∨ 0 ≤ x2.toInt ∧ x2.toInt < tN T)) → sat (some ((0 : Int32), h)) fun y => sat (qX12_seat x1 x2 y.2) fun z => y.1 = z.1 ∧ fq [(19, 19), (394, 394)] [((0, 0), 15, 15)] h z.2 ∧ SCr z.2 ∧ (z.2 = h ∨ hI z.2 0 15 = 0) := by
    intro hc
    exact sat_ret (ref h _ c2 cM.1 (fun _ => sat_ret ⟨rfl, fq_rfl _ _ _, c', Or.inl rfl⟩) fun a b => absurd ⟨a, b⟩ hc)
  unfold tw qX11_seat
  refine uqX11_seat_0 ?_
  unfold BX11_seat_0
  refine sat_ite (fun a1 => ?_) fun a1 => ?_
  · simp only [n_lt, n_le, n_eq, hI_eq, l_m1000, l_m100, l_m60, l_m19, l_m18, l_m17, l_m16, l_m15, l_m14, l_m13, l_m12, l_m11, l_m10, l_m8, l_m1, l_0, l_1, l_2, l_3, l_4, l_5, l_6, l_7, l_8, l_9, l_10, l_11, l_12, l_13, l_14, l_15, l_16, l_17, l_18, l_19, l_20, l_21, l_24, l_25, l_32, l_40, l_41, l_42, l_43, l_45, l_47, l_48, l_57, l_59, l_60, l_61, l_62, l_63, l_64, l_65, l_70, l_80, l_90, l_97, l_99, l_100, l_120, l_122, l_127, l_144, l_150, l_201, l_202, l_203, l_204, l_205, l_206, l_207, l_255, l_300, l_364, l_480, l_560, l_600, l_601, l_620, l_840, l_900, l_980, l_999, l_1000, l_1023, l_1024, l_1220, l_1439, l_1440, l_2240, l_2400, l_3000, l_3600, l_4095, l_4096, l_7320, l_9999, l_10079, l_10080, l_12000, l_99999, l_120000, l_1000000, l_2147483647] at a1
    exact no (by omega)
  simp only [n_lt, n_le, n_eq, hI_eq, l_m1000, l_m100, l_m60, l_m19, l_m18, l_m17, l_m16, l_m15, l_m14, l_m13, l_m12, l_m11, l_m10, l_m8, l_m1, l_0, l_1, l_2, l_3, l_4, l_5, l_6, l_7, l_8, l_9, l_10, l_11, l_12, l_13, l_14, l_15, l_16, l_17, l_18, l_19, l_20, l_21, l_24, l_25, l_32, l_40, l_41, l_42, l_43, l_45, l_47, l_48, l_57, l_59, l_60, l_61, l_62, l_63, l_64, l_65, l_70, l_80, l_90, l_97, l_99, l_100, l_120, l_122, l_127, l_144, l_150, l_201, l_202, l_203, l_204, l_205, l_206, l_207, l_255, l_300, l_364, l_480, l_560, l_600, l_601, l_620, l_840, l_900, l_980, l_999, l_1000, l_1023, l_1024, l_1220, l_1439, l_1440, l_2240, l_2400, l_3000, l_3600, l_4095, l_4096, l_7320, l_9999, l_10079, l_10080, l_12000, l_99999, l_120000, l_1000000, l_2147483647] at a1
  refine sat_ite (fun a2 => ?_) fun a2 => ?_
  · rw [n_le, hI_eq, c1] at a2
    exact no (by omega)
  rw [n_le, hI_eq, c1] at a2
  have yes : (x2.toInt = -1 ∨ 0 ≤ x2.toInt ∧ x2.toInt < tN T) → sat (qX11_seat_33 x1 x2 h) fun y => sat (qX12_seat x1 x2 y.2) fun z => y.1 = z.1 ∧ fq [(19, 19), (394, 394)] [((0, 0), 15, 15)] h z.2 ∧ SCr z.2 ∧ (z.2 = h ∨ hI z.2 0 15 = 0) := by
    intro hx
    refine uqX11_seat_33 ?_
    unfold BX11_seat_33
    refine sat_gd (n_in (by omega) (by omega)) (sat_let fun H7 q7 => sat_let fun H8 q8 => sat_ret ?_)
    have f : fq [(19, 19)] [((0, 0), 15, 15)] h H8 := (q7 ▸ fq_wi rfl : fq [(19, 19)] [((0, 0), 15, 15)] h H7).tr (q8 ▸ fq_wf rfl)
    refine ref H8 _ ((f.I 326 rfl 92 rfl).trans c2) ((f.I 326 rfl 2 rfl).trans cM.1) (fun z => absurd ⟨⟨by omega, by omega⟩, hx⟩ z) fun _ _ => ?_
    have g : fq [(394, 394)] [] H8 (ea_wi H8 394 x1.toNatClampNeg x2) := fq_wi rfl
    have F : fq [(19, 19), (394, 394)] [((0, 0), 15, 15)] h (ea_wi H8 394 x1.toNatClampNeg x2) := (f.up rfl rfl).tr (g.up rfl rfl)
    have ic : (x1.toNatClampNeg : Int) = x1.toInt := by
      rw [n_idx]
      omega
    refine sat_ret ⟨rfl, F, ⟨s, (F.I 18 rfl 0 rfl).trans c1, (F.I 326 rfl 92 rfl).trans c2, c3, fun k hk hk8 => ?_, fun k hk => ?_⟩, Or.inr ?_⟩
    · show hI (ea_wi H8 394 x1.toNatClampNeg x2) 394 k = -1
      rw [hI_nk (by omega), f.C 394 rfl rfl]
      exact c5 k hk hk8
    · show (hI (ea_wi H8 394 x1.toNatClampNeg x2) 20 k = hI (ea_wi H8 394 x1.toNatClampNeg x2) 392 k ∧ 1 ≤ hI (ea_wi H8 394 x1.toNatClampNeg x2) 392 k ∧ hI (ea_wi H8 394 x1.toNatClampNeg x2) 392 k ≤ 99) ∧ (hI (ea_wi H8 394 x1.toNatClampNeg x2) 21 k = hI (ea_wi H8 394 x1.toNatClampNeg x2) 393 k ∧ 0 ≤ hI (ea_wi H8 394 x1.toNatClampNeg x2) 393 k ∧ hI (ea_wi H8 394 x1.toNatClampNeg x2) 393 k < 4096) ∧ hI (ea_wi H8 394 x1.toNatClampNeg x2) 19 k = hI (ea_wi H8 394 x1.toNatClampNeg x2) 394 k ∧ -1 ≤ hI (ea_wi H8 394 x1.toNatClampNeg x2) 394 k ∧ hI (ea_wi H8 394 x1.toNatClampNeg x2) 394 k < 10
      have e19 : hI (ea_wi H8 394 x1.toNatClampNeg x2) 19 k = if k = x1.toNatClampNeg then x2.toInt else hI h 19 k := by
        rw [hI_ne (by decide), q8, hI_ne (by decide), q7, hI_row]
      rw [F.C 20 rfl rfl, F.C 21 rfl rfl, F.C 392 rfl rfl, F.C 393 rfl rfl, e19, hI_row, f.C 394 rfl rfl]
      obtain ⟨d1, d2, d3⟩ := c4 k hk
      refine ⟨d1, d2, ?_⟩
      by_cases q : k = x1.toNatClampNeg
      · rw [if_pos q, if_pos q]
        exact ⟨rfl, by omega, by omega⟩
      · rw [if_neg q, if_neg q]
        exact d3
    · show hI (ea_wi H8 394 x1.toNatClampNeg x2) 0 15 = 0
      rw [hI_ne (by decide), q8, hI_at]
      rfl
  refine sat_ite (fun a3 => ?_) fun a3 => ?_
  · rw [n_eq, l_m1] at a3
    exact yes (Or.inl a3)
  rw [n_eq, l_m1] at a3
  obtain ⟨v1, q1, s1⟩ := c_train x2 h
  refine sat_call q1 ?_
  rcases s1 with ⟨r1, s1⟩ | ⟨r1, s1⟩
  · exact sat_pos r1 (no (by omega))
  refine sat_neg (by rw [r1]; exact i1_ne_0) ?_
  dsimp only
  exact yes (Or.inr (by omega))
theorem clk_in : ∀ t, t < 10 → (72, t, some (316 + t)) ∈ ShC_rf ∧ (ShC_cl.getD (316 + t) (0, 0)).1 = 2 := by decide +kernel
theorem clk_ref {h : ea_H} (hs : ShC h) {t : Nat} (ht : t < 10) : ea_r h 72 t = some (316 + t) ∧ 316 + t < ea_n h ∧ ea_c h (316 + t) = 2 := by
  obtain ⟨a1, a2⟩ := clk_in t ht
  obtain ⟨b1, b2, b3⟩ := hs.1 (316 + t) (by omega)
  rw [Nat.zero_add] at b1 b2
  exact ⟨hs.2 _ a1, b1, b2.trans a2⟩
theorem call_set {h : ea_H} {n : Nat} {T : Nat → Nat → Nat → Nat} (hs : ShC h) (bs : SBas h n) (b : STb h T) (c : SCk h) (x1 : Int32) : tw (qX11_set x1 h) (qX12_set x1) fun h' => fq [(316, 325), (406, 406)] [] h h' ∧ SCk h' := by
  obtain ⟨ok, cC, cM⟩ := b
  obtain ⟨b1, b2, b3, -⟩ := bs
  have ok1 := ok.1
  have hN : hI h 5 0 = tN T := cC.1
  have hN1 : hI h 326 2 = tN T := cM.1
  unfold tw qX11_set BX11_set_0
  obtain ⟨v1, q1, s1⟩ := c_train x1 h
  refine sat_call q1 ?_
  rcases s1 with ⟨r1, s1⟩ | ⟨r1, s1⟩
  · refine sat_pos r1 (sat_ret ?_)
    show sat (qX12_set x1 h) _
    unfold qX12_set BX12_set_0
    obtain ⟨v2, q2, s2⟩ := m_isTrain x1 (h := h) (by omega)
    refine sat_call q2 ?_
    rcases s2 with ⟨r2, s2⟩ | ⟨r2, s2⟩
    · exact sat_pos r2 (sat_ret ⟨rfl, fq_rfl _ _ _, c⟩)
    refine sat_neg (by rw [r2]; exact i1_ne_0) ?_
    dsimp only
    omega
  refine sat_neg (by rw [r1]; exact i1_ne_0) ?_
  dsimp only
  have e1 : x1.toInt = (x1.toInt.toNat : Int) := by omega
  have ht : x1.toInt.toNat < 10 := by omega
  generalize x1.toInt.toNat = t at *
  have ic1 : x1.toNatClampNeg = t := by
    rw [n_idx, e1]
    rfl
  obtain ⟨k1, k2⟩ := clk_ref hs ht
  rw [ic1, k1]
  refine sat_gd (vp80 e1 ht) (sat_gd rfl (sat_gd k2 (sat_let fun H5 q5 => sat_ret ?_)))
  have q5 : H5 = ea_wi h (316 + t) 0 (ea_i h 0 14) := q5
  have hin : inB [(316, 325)] (316 + t) = true := inB_at List.mem_cons_self (by show 316 ≤ 316 + t; omega) (by show 316 + t ≤ 325; omega)
  have f : fq [(316, 325)] [] h H5 := q5 ▸ fq_wi hin
  show sat (qX12_set x1 H5) _
  have hN5 : hI H5 326 2 = tN T := (f.I 326 rfl 2 rfl).trans hN1
  have h00 : ea_i H5 326 0 = ea_i h 326 0 := i_of (f.I 326 rfl 0 rfl)
  unfold qX12_set BX12_set_0
  obtain ⟨v3, q3, s3⟩ := m_isTrain x1 (h := H5) (by omega)
  refine sat_call q3 ?_
  rcases s3 with ⟨r3, s3⟩ | ⟨r3, s3⟩
  · exact sat_pos r3 (absurd s3 (by omega))
  refine sat_neg (by rw [r3]; exact i1_ne_0) ?_
  dsimp only
  rw [ic1, h00]
  refine sat_gd (vp80 e1 ht) (sat_sub (sat_ret ?_))
  have F : fq [(316, 325), (406, 406)] [] h (ea_wi H5 406 t (ea_i h 326 0)) := (f.up rfl rfl).tr (fq_wi rfl)
  refine ⟨rfl, F, fun p hp => ?_⟩
  show hI (ea_wi H5 406 t (ea_i h 326 0)) (316 + p) 0 = hI (ea_wi H5 406 t (ea_i h 326 0)) 406 p ∧ (0 ≤ hI (ea_wi H5 406 t (ea_i h 326 0)) 406 p ∧ hI (ea_wi H5 406 t (ea_i h 326 0)) 406 p ≤ hI (ea_wi H5 406 t (ea_i h 326 0)) 326 0) ∧ hI (ea_wi H5 406 t (ea_i h 326 0)) (316 + p) 1 = hI (ea_wi H5 406 t (ea_i h 326 0)) 404 p ∧ hI (ea_wi H5 406 t (ea_i h 326 0)) (316 + p) 2 = hI (ea_wi H5 406 t (ea_i h 326 0)) 405 p ∧ -60 ≤ hI (ea_wi H5 406 t (ea_i h 326 0)) 404 p ∧ hI (ea_wi H5 406 t (ea_i h 326 0)) 404 p ≤ hI (ea_wi H5 406 t (ea_i h 326 0)) 405 p ∧ hI (ea_wi H5 406 t (ea_i h 326 0)) 405 p ≤ 60
  obtain ⟨c1, ⟨c2, c3⟩, c4, c5, c6⟩ := c p hp
  rw [F.C 404 rfl rfl, F.C 405 rfl rfl, F.I 326 rfl 0 rfl, hI_ne (show 316 + p ≠ 406 by omega), hI_ne (show 316 + p ≠ 406 by omega), hI_ne (show 316 + p ≠ 406 by omega), hI_row, f.C 406 rfl rfl, q5, hI_nk (show (1 : Nat) ≠ 0 by decide), hI_nk (show (2 : Nat) ≠ 0 by decide), hI_wi]
  refine ⟨?_, ?_, c4, c5, c6⟩
  · by_cases q : p = t
    · rw [if_pos (by omega), if_pos q]
      exact b1
    · rw [if_neg (by omega), if_neg q]
      exact c1
  · split
    · exact ⟨b2, Int.le_refl _⟩
    · exact ⟨c2, c3⟩
theorem call_clock {h : ea_H} {T : Nat → Nat → Nat → Nat} (hs : ShC h) (b : STb h T) (c : SCk h) (x1 x2 : Int32) : tw (qX11_clock x1 x2 h) (qX12_clock x1 x2) fun h' => h' = h := by
  obtain ⟨ok, cC, cM⟩ := b
  have ok1 := ok.1
  have hN : hI h 5 0 = tN T := cC.1
  have hN1 : hI h 326 2 = tN T := cM.1
  unfold tw qX11_clock BX11_clock_0
  obtain ⟨v1, q1, s1⟩ := c_train x1 h
  refine sat_call q1 ?_
  rcases s1 with ⟨r1, s1⟩ | ⟨r1, s1⟩
  · refine sat_pos r1 (sat_ret ?_)
    show sat (qX12_clock x1 x2 h) _
    unfold qX12_clock BX12_clock_0
    obtain ⟨v2, q2, s2⟩ := m_isTrain x1 (h := h) (by omega)
    refine sat_call q2 ?_
    rcases s2 with ⟨r2, s2⟩ | ⟨r2, s2⟩
    · exact sat_pos r2 (sat_ret ⟨rfl, rfl⟩)
    refine sat_neg (by rw [r2]; exact i1_ne_0) ?_
    dsimp only
    omega
  refine sat_neg (by rw [r1]; exact i1_ne_0) ?_
  dsimp only
  have e1 : x1.toInt = (x1.toInt.toNat : Int) := by omega
  have ht : x1.toInt.toNat < 10 := by omega
  generalize x1.toInt.toNat = t at *
  have ic1 : x1.toNatClampNeg = t := by
    rw [n_idx, e1]
    rfl
  obtain ⟨k1, k2⟩ := clk_ref hs ht
  obtain ⟨c1, -, c4, c5, -⟩ := c t ht
  have g := vp80 e1 ht
  have ref : ∀ v : Int32, (x2.toInt = 0 → v = ea_i h 404 t) → (x2.toInt = 1 → v = ea_i h 405 t) → (x2.toInt = 2 → v = ea_i h 406 t) → (x2.toInt ≠ 0 → x2.toInt ≠ 1 → x2.toInt ≠ 2 → v = -1000) → sat (qX12_clock x1 x2 h) fun z => v = z.1 ∧ z.2 = h := by
    intro v p0 p1 p2 p3
    have eq0 : ∀ (z : Int32) (k : Int), z.toInt = k → (x2 = z ↔ x2.toInt = k) := fun z k e => by rw [n_eq, e]
    unfold qX12_clock BX12_clock_0
    obtain ⟨v3, q3, s3⟩ := m_isTrain x1 (h := h) (by omega)
    refine sat_call q3 ?_
    rcases s3 with ⟨r3, s3⟩ | ⟨r3, s3⟩
    · exact sat_pos r3 (absurd s3 (by omega))
    refine sat_neg (by rw [r3]; exact i1_ne_0) ?_
    dsimp only
    rw [ic1]
    refine sat_ite (fun k => sat_gd g (sat_ret ⟨p0 ((eq0 0 0 rfl).mp k), rfl⟩)) fun n0 => ?_
    refine sat_ite (fun k => sat_gd g (sat_ret ⟨p1 ((eq0 1 1 rfl).mp k), rfl⟩)) fun n1 => ?_
    refine sat_ite (fun k => sat_gd g (sat_ret ⟨p2 ((eq0 2 2 rfl).mp k), rfl⟩)) fun n2 => ?_
    exact sat_ret ⟨p3 (fun z => n0 ((eq0 0 0 rfl).mpr z)) (fun z => n1 ((eq0 1 1 rfl).mpr z)) (fun z => n2 ((eq0 2 2 rfl).mpr z)), rfl⟩
  rw [ic1, k1]
  refine sat_ite (fun k => sat_gd g (sat_gd rfl (sat_gd k2 (sat_ret ?_)))) fun n0 => ?_
  · exact ref _ (fun _ => i_of c4) (fun z => by omega) (fun z => by omega) (fun z _ _ => absurd k z)
  refine sat_ite (fun k => sat_gd g (sat_gd rfl (sat_gd k2 (sat_ret ?_)))) fun n1 => ?_
  · exact ref _ (fun z => by omega) (fun _ => i_of c5) (fun z => by omega) (fun _ z _ => absurd k z)
  refine sat_ite (fun k => sat_gd g (sat_gd rfl (sat_gd k2 (sat_ret ?_)))) fun n2 => ?_
  · exact ref _ (fun z => by omega) (fun z => by omega) (fun _ => i_of c1) (fun _ _ z => absurd k z)
  exact sat_ret (ref _ (fun z => absurd z n0) (fun z => absurd z n1) (fun z => absurd z n2) fun _ _ _ => rfl)
