/-! post: what stands ahead of the price, by each -/
section PO
variable {h hB : ea_H} {n m a b : Nat}
/-- roads as both have them, for two towns: least D, by the roads around the capital E -/
def rdE (h : ea_H) (n : Nat) (w D0 D1 : Nat → Nat → Nat) : Prop := (∀ b c, w b c ≤ 999) ∧ (∀ b c, n ≤ b ∨ n ≤ c → w b c = 0) ∧ MRoad h w ∧ (fwI 0 12 w D0 ∧ ∀ a b, a < 12 → b < 12 → hI h 3 (12 * a + b) = D0 a b) ∧ fwI 1 12 w D1 ∧ ∀ a b, a < 12 → b < 12 → hI h 4 (12 * a + b) = D1 a b
theorem SRd.ex (r : SRd h n) : ∃ w D0 D1, rdE h n w D0 D1 := by
  obtain ⟨w, D0, D1, c1, c2, c3, c4, c5, c7, c8⟩ := r
  exact ⟨w, D0, D1, c1, c2, c3, c5, c7, c8⟩
noncomputable def crV (D0 D1 : Nat → Nat → Nat) (a b : Nat) : Int32 := @ite _ (a ≠ 0 ∧ b ≠ 0 ∧ D0 a b < 1000000 ∧ D1 a b = D0 a b) (Classical.propDecidable _) 1 0
theorem m_milesV {w D0 D1 : Nat → Nat → Nat} (c1 : ∀ b c, w b c ≤ 999) (c2 : ∀ b c, n ≤ b ∨ n ≤ c → w b c = 0) (c5 : fwI 0 12 w D0) (c7 : fwI 1 12 w D1) (hn : n ≤ 12) (ha : a < n) (hb : b < n) {x1 x2 : Int32} (e1 : x1.toInt = a) (e2 : x2.toInt = b) (hr : MRoad hB w) (hnn : hI hB 326 1 = n) :
    (sat (qX12_milesOf x1 x2 0 hB) fun y => fr [(335, 335)] hB y.2 ∧ y.1.toInt = D0 a b) ∧ (a ≠ 0 → b ≠ 0 → sat (qX12_milesOf x1 x2 1 hB) fun y => fr [(335, 335)] hB y.2 ∧ y.1.toInt = D1 a b) := by
  refine ⟨sat_mono (m_milesOf2 (lo := 0) hn (Nat.zero_le _) c1 c2 (by omega) e1 e2 (x3 := 0) rfl hr hnn) fun y hy => ?_, fun ha0 hb0 => sat_mono (m_milesOf2 (lo := 1) hn (by omega) c1 c2 (by omega) e1 e2 (x3 := 1) rfl hr hnn) fun y hy => ?_⟩
  · obtain ⟨y1, f, y2, y3, y4⟩ := hy
    refine ⟨y1, y4.trans ?_⟩
    rw [r_least (n := n) c5 (by omega) (by omega) y2 y3]
  · obtain ⟨y1, f, y2, y3, y4⟩ := hy
    refine ⟨y1, y4.trans ?_⟩
    rw [rOk_eq y2 (fw_end c7 a (by omega) (by omega)) (by omega) (by omega) y3 (c7.1 a b (by omega) (by omega))]
theorem MRoad.fr {h h' : ea_H} {w : Nat → Nat → Nat} {A : List (Nat × Nat)} {B : List ((Nat × Nat) × Nat × Nat)} (f : fq A B h h') (w1 : inB A 327 = false) (w2 : outP B 327 = true) (r : MRoad h w) : MRoad h' w := fun b c hb hc => (f.C 327 w1 w2 _).trans (r b c hb hc)
theorem m_isCross2 {w D0 D1 : Nat → Nat → Nat} (c1 : ∀ b c, w b c ≤ 999) (c2 : ∀ b c, n ≤ b ∨ n ≤ c → w b c = 0) (c5 : fwI 0 12 w D0) (c7 : fwI 1 12 w D1) (hn : n ≤ 12) (ha : a < n) (hb : b < n) {x1 x2 : Int32} (e1 : x1.toInt = a) (e2 : x2.toInt = b) (hr : MRoad hB w) (hnn : hI hB 326 1 = n) : sat (qX12_isCross x1 x2 hB) fun y => fq [(335, 335)] [] hB y.2 ∧ y.1 = crV D0 D1 a b := by
  have idle : ¬ (a ≠ 0 ∧ b ≠ 0 ∧ D0 a b < 1000000 ∧ D1 a b = D0 a b) → ∀ h2, fq [(335, 335)] [] hB h2 → fq [(335, 335)] [] hB h2 ∧ (0 : Int32) = crV D0 D1 a b := fun hc h2 f => ⟨f, (if_neg hc).symm⟩
  have dle := c5.1 a b (by omega) (by omega)
  unfold qX12_isCross BX12_isCross_0
  refine sat_ite (fun z => ?_) fun z => ?_
  · rw [n_eq, e1, l_0] at z
    exact sat_ret (idle (fun q => q.1 (by omega)) hB (fq_rfl _ _ _))
  rw [n_eq, e1, l_0] at z
  refine sat_ite (fun y => ?_) fun y => ?_
  · rw [n_eq, e2, l_0] at y
    exact sat_ret (idle (fun q => q.2.1 (by omega)) hB (fq_rfl _ _ _))
  rw [n_eq, e2, l_0] at y
  refine sat_bind (m_milesV (D1 := D1) c1 c2 c5 c7 hn ha hb e1 e2 hr hnn).1 fun u hu => ?_
  obtain ⟨u1, u2⟩ := hu
  have f1 : fq [(335, 335)] [] hB u.2 := u1.up rfl
  refine sat_ite (fun v => ?_) fun v => ?_
  · rw [n_eq, u2, l_1000000] at v
    exact sat_ret (idle (fun q => by have := q.2.2.1; omega) u.2 f1)
  rw [n_eq, u2, l_1000000] at v
  refine sat_bind ((m_milesV (D0 := D0) c1 c2 c5 c7 hn ha hb e1 e2 (MRoad.fr f1 rfl rfl hr) ((f1.C 326 rfl rfl 1).trans hnn)).2 (by omega) (by omega)) fun u' hu' => ?_
  obtain ⟨u3, u4⟩ := hu'
  have f2 : fq [(335, 335)] [] hB u'.2 := f1.tr (u3.up rfl)
  refine sat_ite (fun s => ?_) fun s => ?_
  · rw [n_eq, u4, u2] at s
    exact sat_ret ⟨f2, (if_pos ⟨by omega, by omega, by omega, by omega⟩).symm⟩
  · rw [n_eq, u4, u2] at s
    exact sat_ret (idle (fun q => s (by rw [q.2.2.2])) u'.2 f2)
theorem c_cross {D0 D1 : Nat → Nat → Nat} (ha : a < 12) (hb : b < 12) {x1 x2 : Int32} (e1 : x1.toInt = a) (e2 : x2.toInt = b) (v3 : hI h 3 (12 * a + b) = D0 a b) (v4 : hI h 4 (12 * a + b) = D1 a b) : qX7_isCross x1 x2 h = some (crV D0 D1 a b, h) ∧ ∃ v, qX7_between x1 x2 h = some (v, h) ∧ v.toInt = if D0 a b < 1000000 then (D0 a b : Int) else -1 := by
  have j0 : ((12 : Int32) * x1 + x2).toInt = 12 * (a : Int) + b := by simp (disch := omega) only [n_add, n_sub, n_mul, n_neg, n_bm, n_idx, n_if, hI_eq, l_m1000, l_m100, l_m60, l_m19, l_m18, l_m17, l_m16, l_m15, l_m14, l_m13, l_m12, l_m11, l_m10, l_m8, l_m1, l_0, l_1, l_2, l_3, l_4, l_5, l_6, l_7, l_8, l_9, l_10, l_11, l_12, l_13, l_14, l_15, l_16, l_17, l_18, l_19, l_20, l_21, l_24, l_25, l_32, l_40, l_41, l_42, l_43, l_45, l_47, l_48, l_57, l_59, l_60, l_61, l_62, l_63, l_64, l_65, l_70, l_80, l_90, l_97, l_99, l_100, l_120, l_122, l_127, l_144, l_150, l_201, l_202, l_203, l_204, l_205, l_206, l_207, l_255, l_300, l_364, l_480, l_560, l_600, l_601, l_620, l_840, l_900, l_980, l_999, l_1000, l_1023, l_1024, l_1220, l_1439, l_1440, l_2240, l_2400, l_3000, l_3600, l_4095, l_4096, l_7320, l_9999, l_10079, l_10080, l_12000, l_99999, l_120000, l_1000000, l_2147483647, e1, e2]
  have j1 : ((12 : Int32) * x1 + x2).toInt = ((12 * a + b : Nat) : Int) := by
    rw [j0]
    omega
  have ic : ((12 : Int32) * x1 + x2).toNatClampNeg = 12 * a + b := by
    rw [n_idx, j1]
    rfl
  have g := vp80 j1 (show 12 * a + b < 144 by omega)
  have w3 : (ea_i h 3 (12 * a + b)).toInt = D0 a b := v3
  have w4 : (ea_i h 4 (12 * a + b)).toInt = D1 a b := v4
  constructor
  · refine sat_at ?_
    have no : ¬ (a ≠ 0 ∧ b ≠ 0 ∧ D0 a b < 1000000 ∧ D1 a b = D0 a b) → (0 : Int32) = crV D0 D1 a b := fun hc => (if_neg hc).symm
    unfold qX7_isCross BX7_isCross_0
    rw [ic]
    refine sat_gd g (sat_sub (sat_ite (fun z => ?_) fun z => ?_))
    · rw [n_eq, e1, l_0] at z
      exact sat_ret (by rw [no fun q => q.1 (by omega)])
    rw [n_eq, e1, l_0] at z
    refine sat_ite (fun y => ?_) fun y => ?_
    · rw [n_eq, e2, l_0] at y
      exact sat_ret (by rw [no fun q => q.2.1 (by omega)])
    rw [n_eq, e2, l_0] at y
    refine sat_ite (fun v => ?_) fun v => ?_
    · rw [n_le, w3, l_1000000] at v
      exact sat_ret (by rw [no fun q => by have := q.2.2.1; omega])
    rw [n_le, w3, l_1000000] at v
    refine sat_gd g (sat_ite (fun s => ?_) fun s => ?_)
    · rw [n_eq, w4, w3] at s
      have e : crV D0 D1 a b = 1 := if_pos ⟨by omega, by omega, by omega, by omega⟩
      exact sat_ret (by rw [e])
    · rw [n_eq, w4, w3] at s
      exact sat_ret (by rw [no fun q => s (by rw [q.2.2.2])])
  · refine sat_ex ?_
    unfold qX7_between BX7_between_0
    rw [ic]
    refine sat_gd g (sat_sub (sat_ite (fun z => ?_) fun z => ?_))
    · rw [n_lt, w3, l_1000000] at z
      refine sat_ret ⟨rfl, ?_⟩
      rw [if_pos (by omega)]
      exact w3
    · rw [n_lt, w3, l_1000000] at z
      refine sat_ret ⟨rfl, ?_⟩
      rw [if_neg (by omega)]
      rfl
/-- a frank of that sender on that day -/
def fkP (h : ea_H) (who : Int) (day : Int32) (l : Nat) : Prop := hI h 364 l = 2 ∧ hI h 369 l = who ∧ ea_i h 370 l / (1440 : Int32) = day
theorem c_franks (hs : ShC h) (hB : ea_H) (hm : m < 120) (hc : hI h 52 0 = m) (sl : ∀ l, l < m → hI h (76 + 2 * l) 0 = hI hB 364 l ∧ hI h (76 + 2 * l) 5 = hI hB 369 l ∧ hI h (76 + 2 * l) 6 = hI hB 370 l) : ∃ v, qX11_franksAhead (some (76 + 2 * m)) h = some (v, h) ∧ v.toInt = cnt (fkP hB (hI h (76 + 2 * m) 5) (ea_i h (76 + 2 * m) 6 / (1440 : Int32))) m := by
  refine sat_ex ?_
  have km := (ltr_ref hs hm).2
  have H : ∀ (j l : Nat) (x2 x3 : Int32), l + j = m → x3.toInt = l → x2.toInt = cnt (fkP hB (hI h (76 + 2 * m) 5) (ea_i h (76 + 2 * m) 6 / (1440 : Int32))) l → sat (qX11_franksAhead_4 (some (76 + 2 * m)) x2 x3 h) fun y => y.2 = h ∧ y.1.toInt = cnt (fkP hB (hI h (76 + 2 * m) 5) (ea_i h (76 + 2 * m) 6 / (1440 : Int32))) m := by
    intro j
    induction j with
    | zero =>
      intro l x2 x3 hj e3 e2
      refine uqX11_franksAhead_4 ?_
      unfold BX11_franksAhead_4
      refine sat_pos (by rw [n_le, hI_eq, hc, e3]; omega) (sat_ret ⟨rfl, ?_⟩)
      rw [show m = l by omega] at e2 ⊢
      exact e2
    | succ j ih =>
      intro l x2 x3 hj e3 e2
      have hl : l < m := by omega
      obtain ⟨k1, k2⟩ := ltr_ref hs (show l < 120 by omega)
      obtain ⟨s0, s5, s6⟩ := sl l hl
      have ic : x3.toNatClampNeg = l := by
        rw [n_idx, e3]
        rfl
      have v0 : (ea_i h (76 + 2 * l) 0).toInt = hI hB 364 l := s0
      have v5 : (ea_i h (76 + 2 * l) 5).toInt = hI hB 369 l := s5
      have vm5 : (ea_i h (76 + 2 * m) 5).toInt = hI h (76 + 2 * m) 5 := rfl
      have v6 : ea_i h (76 + 2 * l) 6 = ea_i hB 370 l := n_eq.mpr s6
      have pd : qX5_dayOf (76 + 2 * l) h = some (ea_i hB 370 l / (1440 : Int32), h) := by
        unfold qX5_dayOf BX5_dayOf_0
        rw [gd_pos k2, v6]
      have pm : qX5_dayOf (76 + 2 * m) h = some (ea_i h (76 + 2 * m) 6 / (1440 : Int32), h) := by
        unfold qX5_dayOf BX5_dayOf_0
        rw [gd_pos km]
      have cb := cnt_b (fkP hB (hI h (76 + 2 * m) 5) (ea_i h (76 + 2 * m) 6 / (1440 : Int32))) l
      have no : ¬ fkP hB (hI h (76 + 2 * m) 5) (ea_i h (76 + 2 * m) 6 / (1440 : Int32)) l → sat (qX11_franksAhead_4 (some (76 + 2 * m)) x2 (x3 + 1) h) fun y => y.2 = h ∧ y.1.toInt = cnt (fkP hB (hI h (76 + 2 * m) 5) (ea_i h (76 + 2 * m) 6 / (1440 : Int32))) m := fun hn => ih (l + 1) x2 (x3 + 1) (by omega) (n_inc e3 (by omega)) (by rw [cnt_s, one_neg hn, Int.add_zero]; exact e2)
      refine uqX11_franksAhead_4 ?_
      unfold BX11_franksAhead_4
      rw [ic, k1]
      refine sat_neg (by rw [n_le, hI_eq, hc, e3]; omega) (sat_gd (vp80 e3 (by omega)) (sat_sub (sat_gd rfl (sat_gd k2 (sat_ite (fun z => ?_) fun z => ?_)))))
      · have z : ea_i h (76 + 2 * l) 0 = 2 := z
        rw [n_eq, v0, l_2] at z
        refine sat_gd rfl (sat_gd k2 (sat_gd rfl (sat_gd km (sat_ite (fun y => ?_) fun y => ?_))))
        · have y : ea_i h (76 + 2 * l) 5 = ea_i h (76 + 2 * m) 5 := y
          rw [n_eq, v5, vm5] at y
          refine sat_gd rfl (sat_gd k2 (sat_call pd (sat_gd rfl (sat_gd km (sat_call pm (sat_ite (fun u => ?_) fun u => ?_))))))
          · have u : ea_i hB 370 l / (1440 : Int32) = ea_i h (76 + 2 * m) 6 / (1440 : Int32) := u
            refine ih (l + 1) (x2 + 1) (x3 + 1) (by omega) (n_inc e3 (by omega)) ?_
            rw [cnt_s, one_pos ⟨z, y, u⟩, n_add, e2, l_1, n_bm (by omega) (by omega)]
          · have u : ¬ ea_i hB 370 l / (1440 : Int32) = ea_i h (76 + 2 * m) 6 / (1440 : Int32) := u
            exact no fun q => u q.2.2
        · have y : ¬ ea_i h (76 + 2 * l) 5 = ea_i h (76 + 2 * m) 5 := y
          rw [n_eq, v5, vm5] at y
          exact no fun q => y q.2.1
      · have z : ¬ ea_i h (76 + 2 * l) 0 = 2 := z
        rw [n_eq, v0, l_2] at z
        exact no fun q => z q.1
  unfold qX11_franksAhead
  refine uqX11_franksAhead_0 ?_
  unfold BX11_franksAhead_0
  exact H m 0 0 0 (by omega) rfl rfl
theorem m_franks (hm : m < 120) {x2 x6 x7 : Int32} (e7 : x7.toInt = m) {hA : ea_H} (h0 : hI hA 372 m = 0) {Q : Int32 × ea_H → Prop} (K : ∀ (H : ea_H) (x8 : Int32), fq [(372, 372)] [] hA H → (∀ j, j ≠ m → hI H 372 j = hI hA 372 j) → hI H 372 m = cnt (fkP hA x6.toInt (ea_i hA 326 0 / (1440 : Int32))) (m + 1) → x7 < x8 → sat (qX12_post_190 x2 x6 x7 x8 H) Q) : sat (qX12_post_190 x2 x6 x7 0 hA) Q := by
  have g7 := vp80 e7 hm
  have ic7 : x7.toNatClampNeg = m := by
    rw [n_idx, e7]
    rfl
  have H : ∀ (j l : Nat) (x8 : Int32) (h1 : ea_H), l + j = m + 1 → x8.toInt = l → fq [(372, 372)] [] hA h1 → (∀ j, j ≠ m → hI h1 372 j = hI hA 372 j) → hI h1 372 m = cnt (fkP hA x6.toInt (ea_i hA 326 0 / (1440 : Int32))) l → sat (qX12_post_190 x2 x6 x7 x8 h1) Q := by
    intro j
    induction j with
    | zero =>
      intro l x8 h1 hj e8 f o hv
      have el : l = m + 1 := by omega
      rw [el] at hv
      exact K h1 x8 f o hv (by rw [n_lt, e7, e8]; omega)
    | succ j ih =>
      intro l x8 h1 hj e8 f o hv
      have hl : l < 120 := by omega
      have g8 := vp80 e8 hl
      have ic8 : x8.toNatClampNeg = l := by
        rw [n_idx, e8]
        rfl
      have v0 : (ea_i h1 364 l).toInt = hI hA 364 l := f.C 364 rfl rfl l
      have v9 : (ea_i h1 369 l).toInt = hI hA 369 l := f.C 369 rfl rfl l
      have v70 : ea_i h1 370 l = ea_i hA 370 l := n_eq.mpr (f.C 370 rfl rfl l)
      have vn : ea_i h1 326 0 = ea_i hA 326 0 := n_eq.mpr (f.C 326 rfl rfl 0)
      have vc : (ea_i h1 372 m).toInt = cnt (fkP hA x6.toInt (ea_i hA 326 0 / (1440 : Int32))) l := hv
      have cb := cnt_b (fkP hA x6.toInt (ea_i hA 326 0 / (1440 : Int32))) l
      have yes : fkP hA x6.toInt (ea_i hA 326 0 / (1440 : Int32)) l → sat (qX12_post_190 x2 x6 x7 (x8 + 1) (ea_wi h1 372 m (ea_i h1 372 m + 1))) Q := fun hy => ih (l + 1) (x8 + 1) _ (by omega) (n_inc e8 (by omega)) (f.tr (fq_wi rfl)) (fun j hj => by rw [hI_nk hj]; exact o j hj) (by rw [hI_at, cnt_s, one_pos hy, n_add, vc, l_1, n_bm (by omega) (by omega)])
      have no : ¬ fkP hA x6.toInt (ea_i hA 326 0 / (1440 : Int32)) l → sat (qX12_post_190 x2 x6 x7 (x8 + 1) (ea_wi h1 372 m (ea_i h1 372 m + 0))) Q := fun hn => ih (l + 1) (x8 + 1) _ (by omega) (n_inc e8 (by omega)) (f.tr (fq_wi rfl)) (fun j hj => by rw [hI_nk hj]; exact o j hj) (by rw [hI_at, cnt_s, one_neg hn, n_add, vc, l_0, n_bm (by omega) (by omega)])
      refine uqX12_post_190 ?_
      unfold BX12_post_190
      rw [ic7, ic8]
      refine sat_neg (by rw [n_lt, e7, e8]; omega) (sat_gd g7 (sat_gd g8 (sat_ite (fun z => ?_) fun z => ?_)))
      · rw [n_eq, v0, l_2] at z
        refine sat_gd g8 (sat_ite (fun y => ?_) fun y => ?_)
        · rw [n_eq, v9] at y
          refine sat_gd g8 (sat_ite (fun u => ?_) fun u => ?_)
          · rw [v70, vn] at u
            exact sat_gd g7 (sat_sub (yes ⟨z, y, u⟩))
          · rw [v70, vn] at u
            exact sat_gd g7 (sat_sub (no fun q => u q.2.2))
        · rw [n_eq, v9] at y
          exact sat_gd g7 (sat_sub (no fun q => y q.2.1))
      · rw [n_eq, v0, l_2] at z
        exact sat_gd g7 (sat_sub (no fun q => z q.1))
  exact H (m + 1) 0 0 hA (by omega) rfl (fq_rfl _ _ _) (fun _ _ => rfl) h0
end PO
