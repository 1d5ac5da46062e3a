/-! calls: feed, end, fault -/
def bt (x : Int32) (j : Nat) : Int32 := (x >>> (((24 : Int32) - (8 : Int32) * Int32.ofNat j) &&& 31)) &&& (255 : Int32)
theorem bt_range (x : Int32) (j : Nat) : 0 ≤ (bt x j).toInt ∧ (bt x j).toInt < 256 := by
  unfold bt
  rw [s_and255x]
  omega
theorem c_take_step {x x2 : Int32} {m : Nat} {h : ea_H} {P : Unit × ea_H → Prop} (hm : hI h 24 0 = m) (h6 : m < 600) (h2 : ¬ x2 < 0)
    (K : ∀ h', fq [(25, 25)] [((24, 24), 0, 0)] h h' → hI h' 24 0 = ((m + 1 : Nat) : Int) → (∀ k, ea_i h' 25 k = if k = m then (x >>> (x2 &&& 31)) &&& (255 : Int32) else ea_i h 25 k) → sat (qX6_take_3 x (x2 + (-8)) h') P) : sat (qX6_take_3 x x2 h) P := by
  have hm' : (ea_i h 24 0).toInt = m := hm
  have ic : (ea_i h 24 0).toNatClampNeg = m := by
    rw [n_idx, hm']
    rfl
  refine uqX6_take_3 ?_
  unfold BX6_take_3
  rw [ic]
  refine sat_neg h2 (sat_neg (by rw [n_le, hm', l_600]; omega) (sat_gd (vp80 hm' h6) (sat_let fun H2 q2 => sat_let fun H3 q3 => ?_)))
  have f : fq [(25, 25)] [((24, 24), 0, 0)] h H3 := (q2 ▸ fq_wi rfl : fq [(25, 25)] [((24, 24), 0, 0)] h H2).tr (q3 ▸ fq_wf rfl)
  have r2 : ea_i H2 24 0 = ea_i h 24 0 := by
    rw [q2]
    exact i_ne (by decide)
  refine K H3 f ?_ fun k => ?_
  · rw [q3, hI_at, r2]
    exact n_inc hm' (by omega)
  · rw [q3, i_ne (by decide), q2]
    by_cases q : k = m
    · rw [q, i_eq, if_pos rfl]
    · rw [i_nk q, if_neg q]
theorem c_take {x : Int32} {m : Nat} {h : ea_H} (hm : hI h 24 0 = m) (h6 : m + 4 ≤ 600) : sat (qX6_take x h) fun y => fq [(25, 25)] [((24, 24), 0, 0)] h y.2 ∧ hI y.2 24 0 = ((m + 4 : Nat) : Int) ∧ ∀ k, ea_i y.2 25 k = if m ≤ k ∧ k < m + 4 then bt x (k - m) else ea_i h 25 k := by
  unfold qX6_take
  refine uqX6_take_0 ?_
  unfold BX6_take_0
  refine c_take_step hm (by omega) (by decide) fun h1 f1 m1 r1 => ?_
  refine c_take_step m1 (by omega) (by decide) fun h2 f2 m2 r2 => ?_
  refine c_take_step m2 (by omega) (by decide) fun h3 f3 m3 r3 => ?_
  refine c_take_step m3 (by omega) (by decide) fun h4 f4 m4 r4 => ?_
  refine uqX6_take_3 ?_
  unfold BX6_take_3
  refine sat_pos (by decide) (sat_ret ⟨f1.tr (f2.tr (f3.tr f4)), m4, fun k => ?_⟩)
  show ea_i h4 25 k = _
  rw [r4, r3, r2, r1]
  by_cases q : m ≤ k ∧ k < m + 4
  · rw [if_pos q]
    obtain ⟨j, rfl⟩ : ∃ j, k = m + j := ⟨k - m, by omega⟩
    rw [show m + j - m = j by omega]
    have hj : j = 0 ∨ j = 1 ∨ j = 2 ∨ j = 3 := by omega
    rcases hj with rfl | rfl | rfl | rfl
    · rw [if_neg (by omega), if_neg (by omega), if_neg (by omega), if_pos (by omega)]
      rfl
    · rw [if_neg (by omega), if_neg (by omega), if_pos (by omega)]
      rfl
    · rw [if_neg (by omega), if_pos (by omega)]
      rfl
    · rw [if_pos (by omega)]
      rfl
  · rw [if_neg q, if_neg (by omega), if_neg (by omega), if_neg (by omega), if_neg (by omega)]
def sel5 (x1 x2 x3 x4 x5 : Int32) (q : Nat) : Int32 := if q = 0 then x1 else if q = 1 then x2 else if q = 2 then x3 else if q = 3 then x4 else x5
theorem bt_shift : ∀ k, k < 20 → ((24 : Int32) - ((8 : Int32) * (Int32.ofNat k - Int32.ofNat k / (4 : Int32) * (4 : Int32)))) = (24 : Int32) - (8 : Int32) * Int32.ofNat (k % 4) := by decide +kernel
theorem m_feed18 {x1 x2 x3 x4 x5 : Int32} {m : Nat} (hm : m + 20 ≤ 600) {h0 : ea_H} :
    ∀ (j k : Nat) (h : ea_H) (x6 : Int32), k + j = 20 → x6.toInt = k → hI h 326 52 = ((m + k : Nat) : Int) → (∀ i, ea_i h 362 i = if m ≤ i ∧ i < m + k then bt (sel5 x1 x2 x3 x4 x5 ((i - m) / 4)) ((i - m) % 4) else ea_i h0 362 i) → fq [(362, 362)] [((326, 326), 52, 52)] h0 h →
      sat (qX12_feed_18 x1 x2 x3 x4 x5 x6 h) fun y => fq [(362, 362)] [((326, 326), 52, 52)] h0 y.2 ∧ hI y.2 326 52 = ((m + 20 : Nat) : Int) ∧ (∀ i, ea_i y.2 362 i = if m ≤ i ∧ i < m + 20 then bt (sel5 x1 x2 x3 x4 x5 ((i - m) / 4)) ((i - m) % 4) else ea_i h0 362 i) ∧ y.1 = ea_i y.2 326 52 := by
  intro j
  induction j with
  | zero =>
    intro k h x6 hk e6 s1 s2 f
    have hk : k = 20 := by omega
    subst hk
    refine uqX12_feed_18 ?_
    unfold BX12_feed_18
    exact sat_pos (by rw [n_le, e6, l_20]; omega) (sat_ret ⟨f, s1, s2, rfl⟩)
  | succ j ih =>
    intro k h x6 hk e6 s1 s2 f
    have hx6 : x6 = Int32.ofNat k := i32_of e6 (by omega)
    have s1' : (ea_i h 326 52).toInt = ((m + k : Nat) : Int) := s1
    have ic : (ea_i h 326 52).toNatClampNeg = m + k := by
      rw [n_idx, s1']
      rfl
    have step : ∀ v : Int32, v = sel5 x1 x2 x3 x4 x5 (k / 4) → sat (qX12_feed_71 x1 x2 x3 x4 x5 x6 v h) fun y => fq [(362, 362)] [((326, 326), 52, 52)] h0 y.2 ∧ hI y.2 326 52 = ((m + 20 : Nat) : Int) ∧ (∀ i, ea_i y.2 362 i = if m ≤ i ∧ i < m + 20 then bt (sel5 x1 x2 x3 x4 x5 ((i - m) / 4)) ((i - m) % 4) else ea_i h0 362 i) ∧ y.1 = ea_i y.2 326 52 := by
      intro v hv
      refine uqX12_feed_71 ?_
      unfold BX12_feed_71
      rw [ic]
      refine sat_gd (vp80 s1' (by omega)) (sat_let fun H8 q8 => sat_let fun H9 q9 => ?_)
      have g : fq [(362, 362)] [((326, 326), 52, 52)] h H9 := (q8 ▸ fq_wi rfl : fq [(362, 362)] [((326, 326), 52, 52)] h H8).tr (q9 ▸ fq_wf rfl)
      have r8 : ea_i H8 326 52 = ea_i h 326 52 := by
        rw [q8]
        exact i_ne (by decide)
      refine ih (k + 1) H9 (x6 + 1) (by omega) (n_inc e6 (by omega)) ?_ (fun i => ?_) (f.tr g)
      · rw [q9, hI_at, r8, n_inc s1' (by omega)]
        rfl
      · rw [q9, i_ne (by decide), q8]
        by_cases q : i = m + k
        · rw [q, i_eq, if_pos (by omega), show m + k - m = k by omega, hv, hx6, bt_shift k (by omega)]
          rfl
        · rw [i_nk q, s2]
          by_cases w : m ≤ i ∧ i < m + k
          · rw [if_pos w, if_pos (by omega)]
          · rw [if_neg w, if_neg (by omega)]
    refine uqX12_feed_18 ?_
    unfold BX12_feed_18 
    refine sat_neg (by rw [n_le, e6, l_20]; omega) ?_
    unfold sel5 at step
    by_cases c1 : k < 4
    · refine sat_neg (by rw [n_le, e6, l_4]; omega) (step _ ?_)
      rw [if_pos (by omega)]
    refine sat_pos (by rw [n_le, e6, l_4]; omega) ?_
    by_cases c2 : k < 8
    · refine sat_neg (by rw [n_le, e6, l_8]; omega) (step _ ?_)
      rw [if_neg (by omega), if_pos (by omega)]
    refine sat_pos (by rw [n_le, e6, l_8]; omega) ?_
    by_cases c3 : k < 12
    · refine sat_neg (by rw [n_le, e6, l_12]; omega) (step _ ?_)
      rw [if_neg (by omega), if_neg (by omega), if_pos (by omega)]
    refine sat_pos (by rw [n_le, e6, l_12]; omega) ?_
    by_cases c4 : k < 16
    · refine sat_neg (by rw [n_le, e6, l_16]; omega) (step _ ?_)
      rw [if_neg (by omega), if_neg (by omega), if_neg (by omega), if_pos (by omega)]
    refine sat_pos (by rw [n_le, e6, l_16]; omega) (step _ ?_)
    rw [if_neg (by omega), if_neg (by omega), if_neg (by omega), if_neg (by omega)]
theorem call_feed {h : ea_H} (t : STp h) (x1 x2 x3 x4 x5 : Int32) : tw (qX11_feed x1 x2 x3 x4 x5 h) (qX12_feed x1 x2 x3 x4 x5) fun h' => fq [(25, 25), (362, 362)] [((24, 24), 0, 0), ((326, 326), 52, 52)] h h' ∧ STp h' := by
  have t' := t
  obtain ⟨m, t1, t2, t3, t4, t5, t6⟩ := t
  have t1' : (ea_i h 24 0).toInt = m := t1
  have s20 : (ea_i h 24 0 + 20).toInt = ((m + 20 : Nat) : Int) := by
    rw [n_add, t1', l_20, n_bm (by omega) (by omega)]
    omega
  unfold tw qX11_feed BX11_feed_0
  refine sat_eti (fun c => ?_) fun c => ?_
  · rw [n_le, s20, l_600] at c
    refine sat_ret ?_
    show sat (qX12_feed x1 x2 x3 x4 x5 h) _
    unfold qX12_feed
    refine uqX12_feed_0 ?_
    unfold BX12_feed_0
    refine sat_neg ?_ (sat_ret ⟨rfl, fq_rfl _ _ _, t'⟩)
    rw [i_of (t2.trans t1.symm), n_le, s20, l_600]
    exact c
  rw [n_le, s20, l_600] at c
  refine sat_bind (c_take t1 (by omega)) fun w1 hw1 => ?_
  obtain ⟨f1, a1, r1⟩ := hw1
  refine sat_bind (c_take a1 (by omega)) fun w2 hw2 => ?_
  obtain ⟨f2, a2, r2⟩ := hw2
  refine sat_bind (c_take a2 (by omega)) fun w3 hw3 => ?_
  obtain ⟨f3, a3, r3⟩ := hw3
  refine sat_bind (c_take a3 (by omega)) fun w4 hw4 => ?_
  obtain ⟨f4, a4, r4⟩ := hw4
  refine sat_bind (c_take a4 (by omega)) fun w5 hw5 => sat_ret ?_
  obtain ⟨f5, a5, r5⟩ := hw5
  have f := f1.tr (f2.tr (f3.tr (f4.tr f5)))
  have R : ∀ k, ea_i w5.2 25 k = if m ≤ k ∧ k < m + 20 then bt (sel5 x1 x2 x3 x4 x5 ((k - m) / 4)) ((k - m) % 4) else ea_i h 25 k := by
    intro k
    rw [r5, r4, r3, r2, r1]
    by_cases q : m ≤ k ∧ k < m + 20
    · rw [if_pos q]
      obtain ⟨j, rfl⟩ : ∃ j, k = m + j := ⟨k - m, by omega⟩
      rw [show m + j - m = j by omega]
      unfold sel5
      by_cases c1 : j < 4
      · rw [if_neg (by omega), if_neg (by omega), if_neg (by omega), if_neg (by omega), if_pos (by omega), if_pos (show j / 4 = 0 by omega), show j % 4 = j by omega]
      by_cases c2 : j < 8
      · rw [if_neg (by omega), if_neg (by omega), if_neg (by omega), if_pos (by omega), if_neg (show ¬ j / 4 = 0 by omega), if_pos (show j / 4 = 1 by omega), show m + j - (m + 4) = j % 4 by omega]
      by_cases c3 : j < 12
      · rw [if_neg (by omega), if_neg (by omega), if_pos (by omega), if_neg (show ¬ j / 4 = 0 by omega), if_neg (show ¬ j / 4 = 1 by omega), if_pos (show j / 4 = 2 by omega), show m + j - (m + 4 + 4) = j % 4 by omega]
      by_cases c4 : j < 16
      · rw [if_neg (by omega), if_pos (by omega), if_neg (show ¬ j / 4 = 0 by omega), if_neg (show ¬ j / 4 = 1 by omega), if_neg (show ¬ j / 4 = 2 by omega), if_pos (show j / 4 = 3 by omega), show m + j - (m + 4 + 4 + 4) = j % 4 by omega]
      rw [if_pos (by omega), if_neg (show ¬ j / 4 = 0 by omega), if_neg (show ¬ j / 4 = 1 by omega), if_neg (show ¬ j / 4 = 2 by omega), if_neg (show ¬ j / 4 = 3 by omega), show m + j - (m + 4 + 4 + 4 + 4) = j % 4 by omega]
    · rw [if_neg q, if_neg (by omega), if_neg (by omega), if_neg (by omega), if_neg (by omega), if_neg (by omega)]
  show sat (qX12_feed x1 x2 x3 x4 x5 w5.2) _
  have b2 : hI w5.2 326 52 = ((m + 0 : Nat) : Int) := (f.I 326 rfl 52 rfl).trans t2
  unfold qX12_feed
  refine uqX12_feed_0 ?_
  unfold BX12_feed_0
  have s21 : (ea_i w5.2 326 52 + 20).toInt = ((m + 20 : Nat) : Int) := by
    rw [n_add, hI_eq, b2, l_20, n_bm (by omega) (by omega)]
    omega
  refine sat_pos (by rw [n_le, s21, l_600]; exact c) ?_
  refine sat_mono (m_feed18 (m := m) (by omega) 20 0 w5.2 0 rfl rfl b2 (fun i => by rw [if_neg (by omega)]) (fq_rfl _ _ _)) fun z hz => ?_
  obtain ⟨g, z1, z2, z3⟩ := hz
  have F : fq [(25, 25), (362, 362)] [((24, 24), 0, 0), ((326, 326), 52, 52)] h z.2 := (f.up rfl rfl).tr (g.up rfl rfl)
  have e5 : hI z.2 24 0 = ((m + 20 : Nat) : Int) := (g.I 24 rfl 0 rfl).trans a5
  refine ⟨?_, F, m + 20, e5, z1, by omega, fun k hk => ?_, ?_, ?_⟩
  · rw [z3]
    exact n_eq.mpr (a5.trans z1.symm)
  · have x25 : hI z.2 25 k = hI w5.2 25 k := g.C 25 rfl rfl k
    rw [x25]
    unfold hI
    rw [R, z2]
    by_cases q : m ≤ k ∧ k < m + 20
    · rw [if_pos q, if_pos q]
      exact ⟨rfl, bt_range _ _⟩
    · rw [if_neg q, if_neg q]
      have := t4 k (by omega)
      rw [← f.C 362 rfl rfl k] at this
      exact this
  · rw [F.I 24 rfl 1 rfl, F.I 326 rfl 59 rfl]
    exact t5
  · rw [F.I 24 rfl 2 rfl, F.I 326 rfl 62 rfl]
    exact t6
theorem call_end {h : ea_H} (t : STp h) (x1 : Int32) : tw (qX11_end x1 h) (qX12_end x1) fun h' => fq [] [((24, 24), 0, 0), ((326, 326), 52, 52)] h h' ∧ STp h' := by
  have t' := t
  obtain ⟨m, t1, t2, t3, t4, t5, t6⟩ := t
  have no : ¬ (0 ≤ x1.toInt ∧ x1.toInt ≤ m) → sat (some ((0 : Int32), h)) fun y => sat (qX12_end x1 y.2) fun z => y.1 = z.1 ∧ fq [] [((24, 24), 0, 0), ((326, 326), 52, 52)] h z.2 ∧ STp z.2 := by
    intro hc
    refine sat_ret ?_
    show sat (qX12_end x1 h) _
    unfold qX12_end BX12_end_0
    obtain ⟨vi, qi, si⟩ := m_isIn x1 0 (ea_i h 326 52) h
    rw [l_0, hI_eq, t2] at si
    refine sat_call qi ?_
    rcases si with ⟨ri, si⟩ | ⟨ri, si⟩
    · exact sat_pos ri (sat_ret ⟨rfl, fq_rfl _ _ _, t'⟩)
    · exact absurd si hc
  unfold tw qX11_end BX11_end_0
  refine sat_ite (fun c1 => ?_) fun c1 => ?_
  · simp only [n_lt, n_le, n_eq, hI_eq, l_m1000, l_m100, l_m60, l_m19, l_m18, l_m17, l_m16, l_m15, l_m14, l_m13, l_m12, l_m11, l_m10, l_m8, l_m1, l_0, l_1, l_2, l_3, l_4, l_5, l_6, l_7, l_8, l_9, l_10, l_11, l_12, l_13, l_14, l_15, l_16, l_17, l_18, l_19, l_20, l_21, l_24, l_25, l_32, l_40, l_41, l_42, l_43, l_45, l_47, l_48, l_57, l_59, l_60, l_61, l_62, l_63, l_64, l_65, l_70, l_80, l_90, l_97, l_99, l_100, l_120, l_122, l_127, l_144, l_150, l_201, l_202, l_203, l_204, l_205, l_206, l_207, l_255, l_300, l_364, l_480, l_560, l_600, l_601, l_620, l_840, l_900, l_980, l_999, l_1000, l_1023, l_1024, l_1220, l_1439, l_1440, l_2240, l_2400, l_3000, l_3600, l_4095, l_4096, l_7320, l_9999, l_10079, l_10080, l_12000, l_99999, l_120000, l_1000000, l_2147483647] at c1
    exact no (by omega)
  simp only [n_lt, n_le, n_eq, hI_eq, l_m1000, l_m100, l_m60, l_m19, l_m18, l_m17, l_m16, l_m15, l_m14, l_m13, l_m12, l_m11, l_m10, l_m8, l_m1, l_0, l_1, l_2, l_3, l_4, l_5, l_6, l_7, l_8, l_9, l_10, l_11, l_12, l_13, l_14, l_15, l_16, l_17, l_18, l_19, l_20, l_21, l_24, l_25, l_32, l_40, l_41, l_42, l_43, l_45, l_47, l_48, l_57, l_59, l_60, l_61, l_62, l_63, l_64, l_65, l_70, l_80, l_90, l_97, l_99, l_100, l_120, l_122, l_127, l_144, l_150, l_201, l_202, l_203, l_204, l_205, l_206, l_207, l_255, l_300, l_364, l_480, l_560, l_600, l_601, l_620, l_840, l_900, l_980, l_999, l_1000, l_1023, l_1024, l_1220, l_1439, l_1440, l_2240, l_2400, l_3000, l_3600, l_4095, l_4096, l_7320, l_9999, l_10079, l_10080, l_12000, l_99999, l_120000, l_1000000, l_2147483647] at c1
  refine sat_eti (fun c2 => ?_) fun c2 => ?_
  · simp only [n_lt, n_le, n_eq, hI_eq, l_m1000, l_m100, l_m60, l_m19, l_m18, l_m17, l_m16, l_m15, l_m14, l_m13, l_m12, l_m11, l_m10, l_m8, l_m1, l_0, l_1, l_2, l_3, l_4, l_5, l_6, l_7, l_8, l_9, l_10, l_11, l_12, l_13, l_14, l_15, l_16, l_17, l_18, l_19, l_20, l_21, l_24, l_25, l_32, l_40, l_41, l_42, l_43, l_45, l_47, l_48, l_57, l_59, l_60, l_61, l_62, l_63, l_64, l_65, l_70, l_80, l_90, l_97, l_99, l_100, l_120, l_122, l_127, l_144, l_150, l_201, l_202, l_203, l_204, l_205, l_206, l_207, l_255, l_300, l_364, l_480, l_560, l_600, l_601, l_620, l_840, l_900, l_980, l_999, l_1000, l_1023, l_1024, l_1220, l_1439, l_1440, l_2240, l_2400, l_3000, l_3600, l_4095, l_4096, l_7320, l_9999, l_10079, l_10080, l_12000, l_99999, l_120000, l_1000000, l_2147483647] at c2
    exact no (by omega)
  simp only [n_lt, n_le, n_eq, hI_eq, l_m1000, l_m100, l_m60, l_m19, l_m18, l_m17, l_m16, l_m15, l_m14, l_m13, l_m12, l_m11, l_m10, l_m8, l_m1, l_0, l_1, l_2, l_3, l_4, l_5, l_6, l_7, l_8, l_9, l_10, l_11, l_12, l_13, l_14, l_15, l_16, l_17, l_18, l_19, l_20, l_21, l_24, l_25, l_32, l_40, l_41, l_42, l_43, l_45, l_47, l_48, l_57, l_59, l_60, l_61, l_62, l_63, l_64, l_65, l_70, l_80, l_90, l_97, l_99, l_100, l_120, l_122, l_127, l_144, l_150, l_201, l_202, l_203, l_204, l_205, l_206, l_207, l_255, l_300, l_364, l_480, l_560, l_600, l_601, l_620, l_840, l_900, l_980, l_999, l_1000, l_1023, l_1024, l_1220, l_1439, l_1440, l_2240, l_2400, l_3000, l_3600, l_4095, l_4096, l_7320, l_9999, l_10079, l_10080, l_12000, l_99999, l_120000, l_1000000, l_2147483647] at c2
  refine sat_let fun H1 q1 => sat_ret ?_
  show sat (qX12_end x1 H1) _
  have f : fq [] [((24, 24), 0, 0)] h H1 := q1 ▸ fq_wf rfl
  have b2 : hI H1 326 52 = m := (f.I 326 rfl 52 rfl).trans t2
  unfold qX12_end BX12_end_0
  obtain ⟨vi, qi, si⟩ := m_isIn x1 0 (ea_i H1 326 52) H1
  rw [l_0, hI_eq, b2] at si
  refine sat_call qi ?_
  rcases si with ⟨ri, si⟩ | ⟨ri, si⟩
  · exact absurd (by omega) si
  refine sat_neg (by rw [ri]; exact i1_ne_0) (sat_let fun H2 q2 => sat_ret ?_)
  have g : fq [] [((326, 326), 52, 52)] H1 H2 := q2 ▸ fq_wf rfl
  have F : fq [] [((24, 24), 0, 0), ((326, 326), 52, 52)] h H2 := (f.up rfl rfl).tr (g.up rfl rfl)
  refine ⟨rfl, F, x1.toInt.toNat, ?_, ?_, by omega, fun k hk => ?_, ?_, ?_⟩
  · show hI H2 24 0 = _
    rw [g.I 24 rfl 0 rfl, q1, hI_at]
    omega
  · show hI H2 326 52 = _
    rw [q2, hI_at]
    omega
  · show hI H2 25 k = hI H2 362 k ∧ 0 ≤ hI H2 362 k ∧ hI H2 362 k < 256
    rw [F.C 25 rfl rfl, F.C 362 rfl rfl]
    exact t4 k (by omega)
  · show hI H2 24 1 = hI H2 326 59
    rw [F.I 24 rfl 1 rfl, F.I 326 rfl 59 rfl]
    exact t5
  · show hI H2 24 2 = hI H2 326 62
    rw [F.I 24 rfl 2 rfl, F.I 326 rfl 62 rfl]
    exact t6
theorem call_fault {h : ea_H} (t : STp h) (x1 : Int32) : tw (qX11_fault x1 h) (qX12_fault x1) fun h' => h' = h := by
  obtain ⟨m, t1, t2, t3, t4, t5, t6⟩ := t
  unfold tw qX11_fault BX11_fault_0
  refine sat_ite (fun c => sat_ret ?_) fun c => ?_
  · show sat (qX12_fault x1 h) _
    unfold qX12_fault BX12_fault_0
    exact sat_pos c (sat_ret ⟨i_of t5, rfl⟩)
  refine sat_ite (fun c2 => sat_ret ?_) fun c2 => sat_ret ?_
  · show sat (qX12_fault x1 h) _
    unfold qX12_fault BX12_fault_0
    exact sat_neg c (sat_pos c2 (sat_ret ⟨i_of t6, rfl⟩))
  · show sat (qX12_fault x1 h) _
    unfold qX12_fault BX12_fault_0
    exact sat_neg c (sat_neg c2 (sat_ret ⟨rfl, rfl⟩))
