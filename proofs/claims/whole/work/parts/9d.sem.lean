/-! calls: look, run -/
section LK
variable {T : Nat → Nat → Nat → Nat} {m : Nat} {X : Nat → Nat → Int} {h : ea_H}
noncomputable def lkF (h : ea_H) (X : Nat → Nat → Int) (m : Nat) (k : Int) : Int :=
  if k = 0 then hI h 326 0 else if k = 1 then hI h 326 1 else if k = 2 then hI h 326 2 else if k = 3 then m else if k = 4 then hI h 326 92 else if k = 5 then hI h 326 25 else if 10 ≤ k ∧ k ≤ 16 then cnt (fun q => X 0 q = k - 10) m else -1
theorem c_look {n : Nat} (bs : SBas h n) (b : STb h T) (cr : SCr h) (rb : hI h 23 1 = hI h 326 25) (rc : RC52 m X h) (x1 : Int32) : sat (qX11_look x1 h) fun y => y.2 = h ∧ y.1.toInt = lkF h X m x1.toInt := by
  obtain ⟨⟨r0, r1⟩, r2, -⟩ := rc
  obtain ⟨s, d1, d2, -⟩ := cr
  obtain ⟨b1, -, -, b4, b5, -⟩ := bs
  have low : ∀ u, ¬ (10 ≤ x1.toInt ∧ x1.toInt ≤ 16) → sat (qX11_look_24 x1 u) fun y => y.2 = u ∧ (u = h → y.1.toInt = lkF h X m x1.toInt) := by
    intro u hn
    refine uqX11_look_24 ?_
    unfold BX11_look_24
    refine sat_ite (fun c => ?_) fun c0 => ?_
    · exact sat_ret ⟨rfl, fun z => by rw [c, z]; exact b1⟩
    refine sat_ite (fun c => ?_) fun c1 => ?_
    · exact sat_ret ⟨rfl, fun z => by rw [c, z]; exact b4.trans b5.symm⟩
    refine sat_ite (fun c => ?_) fun c2 => ?_
    · exact sat_ret ⟨rfl, fun z => by rw [c, z]; exact b.2.1.1.trans b.2.2.1.symm⟩
    refine sat_ite (fun c => ?_) fun c3 => ?_
    · exact sat_ret ⟨rfl, fun z => by rw [c, z]; exact r0⟩
    refine sat_ite (fun c => ?_) fun c4 => ?_
    · exact sat_ret ⟨rfl, fun z => by rw [c, z]; exact d1.trans d2.symm⟩
    refine sat_ite (fun c => ?_) fun c5 => ?_
    · exact sat_ret ⟨rfl, fun z => by rw [c, z]; exact rb⟩
    refine sat_ret ⟨rfl, fun z => ?_⟩
    unfold lkF
    rw [if_neg c0, if_neg c1, if_neg c2, if_neg c3, if_neg c4, if_neg c5, if_neg hn]
    rfl
  have low2 : ¬ (10 ≤ x1.toInt ∧ x1.toInt ≤ 16) → sat (qX11_look_24 x1 h) fun y => y.2 = h ∧ y.1.toInt = lkF h X m x1.toInt := fun hn => by
    obtain ⟨y, y1, y2, y3⟩ := low h hn
    exact ⟨y, y1, y2, y3 rfl⟩
  unfold qX11_look
  refine uqX11_look_0 ?_
  unfold BX11_look_0
  refine sat_ite (fun c1 => ?_) fun c1 => ?_
  · simp only [n_lt, n_le, n_eq, hI_eq, l_m1000, l_m100, l_m60, l_m19, l_m18, l_m17, l_m16, l_m15, l_m14, l_m13, l_m12, l_m11, l_m10, l_m8, l_m1, l_0, l_1, l_2, l_3, l_4, l_5, l_6, l_7, l_8, l_9, l_10, l_11, l_12, l_13, l_14, l_15, l_16, l_17, l_18, l_19, l_20, l_21, l_24, l_25, l_32, l_40, l_41, l_42, l_43, l_45, l_47, l_48, l_57, l_59, l_60, l_61, l_62, l_63, l_64, l_65, l_70, l_80, l_90, l_97, l_99, l_100, l_120, l_122, l_127, l_144, l_150, l_201, l_202, l_203, l_204, l_205, l_206, l_207, l_255, l_300, l_364, l_480, l_560, l_600, l_601, l_620, l_840, l_900, l_980, l_999, l_1000, l_1023, l_1024, l_1220, l_1439, l_1440, l_2240, l_2400, l_3000, l_3600, l_4095, l_4096, l_7320, l_9999, l_10079, l_10080, l_12000, l_99999, l_120000, l_1000000, l_2147483647] at c1
    exact low2 (by omega)
  simp only [n_lt, n_le, n_eq, hI_eq, l_m1000, l_m100, l_m60, l_m19, l_m18, l_m17, l_m16, l_m15, l_m14, l_m13, l_m12, l_m11, l_m10, l_m8, l_m1, l_0, l_1, l_2, l_3, l_4, l_5, l_6, l_7, l_8, l_9, l_10, l_11, l_12, l_13, l_14, l_15, l_16, l_17, l_18, l_19, l_20, l_21, l_24, l_25, l_32, l_40, l_41, l_42, l_43, l_45, l_47, l_48, l_57, l_59, l_60, l_61, l_62, l_63, l_64, l_65, l_70, l_80, l_90, l_97, l_99, l_100, l_120, l_122, l_127, l_144, l_150, l_201, l_202, l_203, l_204, l_205, l_206, l_207, l_255, l_300, l_364, l_480, l_560, l_600, l_601, l_620, l_840, l_900, l_980, l_999, l_1000, l_1023, l_1024, l_1220, l_1439, l_1440, l_2240, l_2400, l_3000, l_3600, l_4095, l_4096, l_7320, l_9999, l_10079, l_10080, l_12000, l_99999, l_120000, l_1000000, l_2147483647] at c1
  refine sat_ite (fun c2 => ?_) fun c2 => ?_
  · simp only [n_lt, n_le, n_eq, hI_eq, l_m1000, l_m100, l_m60, l_m19, l_m18, l_m17, l_m16, l_m15, l_m14, l_m13, l_m12, l_m11, l_m10, l_m8, l_m1, l_0, l_1, l_2, l_3, l_4, l_5, l_6, l_7, l_8, l_9, l_10, l_11, l_12, l_13, l_14, l_15, l_16, l_17, l_18, l_19, l_20, l_21, l_24, l_25, l_32, l_40, l_41, l_42, l_43, l_45, l_47, l_48, l_57, l_59, l_60, l_61, l_62, l_63, l_64, l_65, l_70, l_80, l_90, l_97, l_99, l_100, l_120, l_122, l_127, l_144, l_150, l_201, l_202, l_203, l_204, l_205, l_206, l_207, l_255, l_300, l_364, l_480, l_560, l_600, l_601, l_620, l_840, l_900, l_980, l_999, l_1000, l_1023, l_1024, l_1220, l_1439, l_1440, l_2240, l_2400, l_3000, l_3600, l_4095, l_4096, l_7320, l_9999, l_10079, l_10080, l_12000, l_99999, l_120000, l_1000000, l_2147483647] at c2
    exact low2 (by omega)
  simp only [n_lt, n_le, n_eq, hI_eq, l_m1000, l_m100, l_m60, l_m19, l_m18, l_m17, l_m16, l_m15, l_m14, l_m13, l_m12, l_m11, l_m10, l_m8, l_m1, l_0, l_1, l_2, l_3, l_4, l_5, l_6, l_7, l_8, l_9, l_10, l_11, l_12, l_13, l_14, l_15, l_16, l_17, l_18, l_19, l_20, l_21, l_24, l_25, l_32, l_40, l_41, l_42, l_43, l_45, l_47, l_48, l_57, l_59, l_60, l_61, l_62, l_63, l_64, l_65, l_70, l_80, l_90, l_97, l_99, l_100, l_120, l_122, l_127, l_144, l_150, l_201, l_202, l_203, l_204, l_205, l_206, l_207, l_255, l_300, l_364, l_480, l_560, l_600, l_601, l_620, l_840, l_900, l_980, l_999, l_1000, l_1023, l_1024, l_1220, l_1439, l_1440, l_2240, l_2400, l_3000, l_3600, l_4095, l_4096, l_7320, l_9999, l_10079, l_10080, l_12000, l_99999, l_120000, l_1000000, l_2147483647] at c2
  have e10 : (x1 - (10 : Int32)).toInt = x1.toInt - 10 := by rw [n_sub, l_10, n_bm (by omega) (by omega)]
  have F : lkF h X m x1.toInt = cnt (fun q => X 0 q = x1.toInt - 10) m := by
    unfold lkF
    rw [if_neg (by omega), if_neg (by omega), if_neg (by omega), if_neg (by omega), if_neg (by omega), if_neg (by omega), if_pos (by omega)]
  rw [F]
  generalize hk : x1.toInt - 10 = k at *
  have H : ∀ (j e : Nat) (x2 x3 : Int32), e + j = m → x3.toInt = e → x2.toInt = cnt (fun q => X 0 q = k) e → sat (qX1_inState_at52_4 (x1 - 10) x2 x3 h) fun y => y.2 = h ∧ y.1.toInt = cnt (fun q => X 0 q = k) m := by
    intro j
    induction j with
    | zero =>
      intro e x2 x3 he e3 e2
      refine uqX1_inState_at52_4 ?_
      unfold BX1_inState_at52_4
      refine sat_pos (by rw [n_le, hI_eq, r0, e3]; omega) (sat_ret ⟨rfl, ?_⟩)
      rw [show m = e by omega]
      exact e2
    | succ j ih =>
      intro e x2 x3 he e3 e2
      refine uqX1_inState_at52_4 ?_
      unfold BX1_inState_at52_4
      have ic : x3.toNatClampNeg = e := by
        rw [n_idx, e3]
        rfl
      have v0 : (ea_i h 53 e).toInt = X 0 e := (r2 e (by omega)).1
      have cb := cnt_b (fun q => X 0 q = k) e
      rw [ic]
      refine sat_neg (by rw [n_le, hI_eq, r0, e3]; omega) (sat_gd (vp80 e3 (by omega)) (sat_ite (fun c => ?_) fun c => ?_))
      · rw [n_eq, v0, e10] at c
        refine ih (e + 1) (x2 + 1) (x3 + 1) (by omega) (n_inc e3 (by omega)) ?_
        rw [cnt_s, one_pos c, n_add, e2, l_1, n_bm (by omega) (by omega)]
      · rw [n_eq, v0, e10] at c
        refine ih (e + 1) x2 (x3 + 1) (by omega) (n_inc e3 (by omega)) ?_
        rw [cnt_s, one_neg c, e2]
        omega
  refine sat_bind (Q := fun y => y.2 = h ∧ y.1.toInt = cnt (fun q => X 0 q = k) m) ?_ fun y hy => sat_ret hy
  unfold qX1_inState_at52
  refine uqX1_inState_at52_0 ?_
  unfold BX1_inState_at52_0
  exact H m 0 0 0 (by omega) rfl rfl
theorem m_look (rm : RM0 m X h) (x1 : Int32) : sat (qX12_look x1 h) fun y => y.2 = h ∧ y.1.toInt = lkF h X m x1.toInt := by
  obtain ⟨⟨p0, p1⟩, p2, -⟩ := rm
  unfold qX12_look
  refine uqX12_look_0 ?_
  unfold BX12_look_0
  refine sat_ite (fun c => ?_) fun c0 => ?_
  · exact sat_ret ⟨rfl, by rw [c]; rfl⟩
  refine sat_ite (fun c => ?_) fun c1 => ?_
  · exact sat_ret ⟨rfl, by rw [c]; rfl⟩
  refine sat_ite (fun c => ?_) fun c2 => ?_
  · exact sat_ret ⟨rfl, by rw [c]; rfl⟩
  refine sat_ite (fun c => ?_) fun c3 => ?_
  · exact sat_ret ⟨rfl, by rw [c]; exact p0⟩
  refine sat_ite (fun c => ?_) fun c4 => ?_
  · exact sat_ret ⟨rfl, by rw [c]; rfl⟩
  refine sat_ite (fun c => ?_) fun c5 => ?_
  · exact sat_ret ⟨rfl, by rw [c]; rfl⟩
  obtain ⟨v1, q1, s1⟩ := m_isIn x1 10 16 h
  rw [l_10, l_16] at s1
  refine sat_call q1 ?_
  rcases s1 with ⟨r1, s1⟩ | ⟨r1, s1⟩
  · refine sat_pos r1 (sat_ret ⟨rfl, ?_⟩)
    unfold lkF
    rw [if_neg c0, if_neg c1, if_neg c2, if_neg c3, if_neg c4, if_neg c5, if_neg s1]
    rfl
  refine sat_neg (by rw [r1]; exact i1_ne_0) ?_
  have e10 : (x1 - (10 : Int32)).toInt = x1.toInt - 10 := by rw [n_sub, l_10, n_bm (by omega) (by omega)]
  have F : lkF h X m x1.toInt = cnt (fun q => X 0 q = x1.toInt - 10) m := by
    unfold lkF
    rw [if_neg c0, if_neg c1, if_neg c2, if_neg c3, if_neg c4, if_neg c5, if_pos s1]
  rw [F]
  generalize hk : x1.toInt - 10 = k at *
  have H : ∀ (j e : Nat) (x2 x3 : Int32), e + j = m → x3.toInt = e → x2.toInt = cnt (fun q => X 0 q = k) e → sat (qX12_look_85 x1 x2 x3 h) fun y => y.2 = h ∧ y.1.toInt = cnt (fun q => X 0 q = k) m := by
    intro j
    induction j with
    | zero =>
      intro e x2 x3 he e3 e2
      refine uqX12_look_85 ?_
      unfold BX12_look_85
      refine sat_pos (by rw [n_le, hI_eq, p0, e3]; omega) (sat_ret ⟨rfl, ?_⟩)
      rw [show m = e by omega]
      exact e2
    | succ j ih =>
      intro e x2 x3 he e3 e2
      refine uqX12_look_85 ?_
      unfold BX12_look_85
      have ic : x3.toNatClampNeg = e := by
        rw [n_idx, e3]
        rfl
      have v0 : (ea_i h 381 e).toInt = X 0 e := (p2 e).1
      have cb := cnt_b (fun q => X 0 q = k) e
      rw [ic]
      refine sat_neg (by rw [n_le, hI_eq, p0, e3]; omega) (sat_gd (vp80 e3 (by omega)) (sat_ite (fun c => ?_) fun c => ?_))
      · rw [n_eq, v0, e10] at c
        refine sat_sub (ih (e + 1) (x2 + 1) (x3 + 1) (by omega) (n_inc e3 (by omega)) ?_)
        rw [cnt_s, one_pos c, n_add, e2, l_1, n_bm (by omega) (by omega)]
      · rw [n_eq, v0, e10] at c
        refine sat_sub (ih (e + 1) (x2 + 0) (x3 + 1) (by omega) (n_inc e3 (by omega)) ?_)
        rw [cnt_s, one_neg c, n_add, e2, l_0, n_bm (by omega) (by omega)]
  exact H m 0 0 0 (by omega) rfl rfl
theorem call_look {n : Nat} (bs : SBas h n) (b : STb h T) (cr : SCr h) (rb : hI h 23 1 = hI h 326 25) (rc : RC52 m X h) (rm : RM0 m X h) (x1 : Int32) : tw (qX11_look x1 h) (qX12_look x1) fun h' => h' = h := tw_ro (c_look bs b cr rb rc x1) (m_look rm x1)
end LK
