/-! the class's best way from a town -/
theorem c_waycode {y1 : Int32} {m n l i r : Nat} {y2 y3 y4 y5 : Int32} (e1 : y1.toInt = m) (e2 : y2.toInt = n) (e3 : y3.toInt = l) (e4 : y4.toInt = i) (e5 : y5.toInt = r) (hm : m ≤ 10079) (hn : n ≤ 70) (hl : l < 8192) (hl2 : l % 64 = 0) (hi : i < 8) (hr : r < 8) :
    (((((((Int32.toInt64 y1) <<< (Int32.toInt64 21 &&& 63)) ||| (Int32.toInt64 (y2 <<< ((13 : Int32) &&& 31)))) ||| (Int32.toInt64 y3)) ||| (Int32.toInt64 (y4 <<< ((3 : Int32) &&& 31)))) ||| (Int32.toInt64 y5)) : Int64).toInt = ((m * 2097152 + n * 8192 + l + i * 8 + r : Nat) : Int) := by
  have a1 : ((Int32.toInt64 y1) <<< (Int32.toInt64 21 &&& 63)).toInt = (m : Int) * 2097152 := by
    rw [s_shlJ_21 (by rw [n_i2l, e1]; omega) (by rw [n_i2l, e1]; omega), n_i2l, e1]
  have a2 : (Int32.toInt64 (y2 <<< ((13 : Int32) &&& 31))).toInt = (n : Int) * 8192 := by
    rw [n_i2l, s_shl_13 (by rw [e2]; omega) (by rw [e2]; omega), e2]
  have a3 : (Int32.toInt64 y3).toInt = (l : Int) := by rw [n_i2l, e3]
  have a4 : (Int32.toInt64 (y4 <<< ((3 : Int32) &&& 31))).toInt = (i : Int) * 8 := by
    rw [n_i2l, s_shl_3 (by rw [e4]; omega) (by rw [e4]; omega), e4]
  have a5 : (Int32.toInt64 y5).toInt = (r : Int) := by rw [n_i2l, e5]
  have b1 : (((Int32.toInt64 y1) <<< (Int32.toInt64 21 &&& 63)) ||| (Int32.toInt64 (y2 <<< ((13 : Int32) &&& 31)))).toInt = (m : Int) * 2097152 + (n : Int) * 8192 := by
    rw [s_orJ 21 (by rw [a1]; omega) (by rw [a1]; show _ % (2097152 : Int) = 0; omega) (by rw [a2]; omega) (by rw [a2]; show _ < (2097152 : Int); omega), a1, a2]
  have b2 : ((((Int32.toInt64 y1) <<< (Int32.toInt64 21 &&& 63)) ||| (Int32.toInt64 (y2 <<< ((13 : Int32) &&& 31)))) ||| (Int32.toInt64 y3)).toInt = (m : Int) * 2097152 + (n : Int) * 8192 + l := by
    rw [s_orJ 13 (by rw [b1]; omega) (by rw [b1]; show _ % (8192 : Int) = 0; omega) (by rw [a3]; omega) (by rw [a3]; show _ < (8192 : Int); omega), b1, a3]
  have b3 : (((((Int32.toInt64 y1) <<< (Int32.toInt64 21 &&& 63)) ||| (Int32.toInt64 (y2 <<< ((13 : Int32) &&& 31)))) ||| (Int32.toInt64 y3)) ||| (Int32.toInt64 (y4 <<< ((3 : Int32) &&& 31)))).toInt = (m : Int) * 2097152 + (n : Int) * 8192 + l + (i : Int) * 8 := by
    rw [s_orJ 6 (by rw [b2]; omega) (by rw [b2]; show _ % (64 : Int) = 0; omega) (by rw [a4]; omega) (by rw [a4]; show _ < (64 : Int); omega), b2, a4]
  rw [s_orJ 3 (by rw [b3]; omega) (by rw [b3]; show _ % (8 : Int) = 0; omega) (by rw [a5]; omega) (by rw [a5]; show _ < (8 : Int); omega), b3, a5]
  omega
theorem w_pred {a b k : Nat} (h : a + 1 = b + (k + 1)) : a = b + k := by omega
theorem w_code {x M k z : Nat} (h1 : x / 512 % 16 = kT z) (h2 : x / 64 % 8 = kD z) (h3 : x / 8 % 8 = kI z) (g : x / 8192 = M * 256 + k) : M * 2097152 + (1 + k - 1) * 8192 + kLeg z + kI z * 8 + x % 8 = x := by
  unfold kLeg
  omega
theorem c_best20 {T : Nat → Nat → Nat → Nat} (ok : tOk T) {L : List Nat} (hL : tList T L) {to z0 l0 : Nat} (ht : to < 12) (hz0 : kT z0 < 10 ∧ kD z0 < 7) {x3 x4 : Int32} (e3 : x3.toInt = to) (e4 : x4.toInt = z0) {h : ea_H} (hT : CTab h T) (h1 : hI h 13 1 = L.length) (h2 : rowIs (hI h 14) L) (hv : cLeav (tGm T) (tW T) h L) (hl0 : wLv (tGm T) (tW T) L (kS z0) to = l0) (hl8 : l0 < 8) :
    ∀ (k : Nat) (z M n : Nat) (f : Nat → Nat) (x5 x6 : Int32), (z, f) ∈ wG (tW T) L → f to ≠ NOW → wLv (tGm T) (tW T) L (kS z) to = f to % 8 → x5.toInt = z → x6.toInt = n → f to / 8192 = M * 256 + k → k ≤ 70 → n + k ≤ 71 →
    sat (qX10_bestFrom_20 x3 x4 x5 x6 h) fun y => y.2 = h ∧ y.1.toInt = ((M * 2097152 + (n + k - 1) * 8192 + kLeg z0 + kI z0 * 8 + l0 : Nat) : Int) := by
  have hlen := t_len2 ok hL
  have hwL := t_wL ok hL
  intro k
  induction k with
  | zero =>
    intro z M n f x5 x6 hz hf hw e5 e6 hk hk1 hk2
    obtain ⟨m, k2, r1, r2, r3, r4⟩ := wRuns hwL (Nat.le_trans hlen (by decide)) hz hf
    omega
  | succ k ih =>
    intro z M n f x5 x6 hz hf hw e5 e6 hk hk1 hk2
    obtain ⟨c, c1, c2, c3, c4, c5, c6⟩ := wNext hwL hz hf
    have hzL := wG_in hz
    have hzb := (hwL.2.1 z hzL.1).1
    have hcb := hwL.2.1 c c1
    have hck := (hL.2 c).mp c1
    have hci : kI c < tS T (kT c) := by
      rcases hck.2.2.2 with ⟨_, _, q, _⟩ | ⟨q, _, _⟩
      · exact q
      · exact absurd q c2
    have hi8 : kI c < 8 := Nat.lt_of_lt_of_le hci (ok.2.1 _ hcb.1.1)
    have hcm := t_cm hL c c1 c2
    have hA : kA (tW T) c < 12 := (ok.2.2.2.1 _ _ hcb.1.1 hci).1
    rw [c3, c4] at hcm
    have hci2 : kI c < tS T (kT z) := c3 ▸ hci
    obtain ⟨v3, q3, r3⟩ := c_leftBehind (gm := tGm T) (tw := tW T) (L := L) e5 e3 ht hzb hv
    rw [hw, ← c5] at r3
    obtain ⟨v4, q4, r4⟩ := c_trainIn e5 h
    obtain ⟨v8, q8, r8⟩ := c_dayIn e5 h
    obtain ⟨v9, q9, r9⟩ := c_comesAt r4 r8 r3 hT ok hzb.1 hzb.2 hci2
    rw [hcm] at r9
    have i0 : ((8 : Int32) * v4 + v3).toInt = 8 * (kT z : Int) + kI c := by simp (disch := omega) only [n_add, n_sub, n_mul, n_neg, n_bm, n_idx, n_if, hI_eq, l_m1000, l_m100, l_m60, l_m19, l_m18, l_m17, l_m16, l_m15, l_m14, l_m13, l_m12, l_m11, l_m10, l_m8, l_m1, l_0, l_1, l_2, l_3, l_4, l_5, l_6, l_7, l_8, l_9, l_10, l_11, l_12, l_13, l_14, l_15, l_16, l_17, l_18, l_19, l_20, l_21, l_24, l_25, l_32, l_40, l_41, l_42, l_43, l_45, l_47, l_48, l_57, l_59, l_60, l_61, l_62, l_63, l_64, l_65, l_70, l_80, l_90, l_97, l_99, l_100, l_120, l_122, l_127, l_144, l_150, l_201, l_202, l_203, l_204, l_205, l_206, l_207, l_255, l_300, l_364, l_480, l_560, l_600, l_601, l_620, l_840, l_900, l_980, l_999, l_1000, l_1023, l_1024, l_1220, l_1439, l_1440, l_2240, l_2400, l_3000, l_3600, l_4095, l_4096, l_7320, l_9999, l_10079, l_10080, l_12000, l_99999, l_120000, l_1000000, l_2147483647, r4, r3]
    have i1 : ((8 : Int32) * v4 + v3).toInt = ((8 * kT z + kI c : Nat) : Int) := by
      rw [i0]
      omega
    have hb1 : 8 * kT z + kI c < 80 := by omega
    have hn70 : ¬ (70 : Int32) < x6 := by
      rw [n_lt, e6]
      show ¬ (70 : Int) < _
      omega
    have hn1 : ¬ x5 = (-1 : Int32) := by
      rw [n_eq, e5]
      show ¬ _ = (-1 : Int)
      omega
    have ht2 := c_town2 hT i1 hzb.1 hi8
    have hkA : tW T (kT z) (kI c) = kA (tW T) c := by
      unfold kA
      rw [c3]
    rw [hkA] at ht2
    refine uqX10_bestFrom_20 ?_
    unfold BX10_bestFrom_20
    refine sat_neg hn70 (sat_neg hn1 (sat_call q3 (sat_call q4 (sat_gd (vp80 i1 hb1) (sat_let fun v6 e6v => ?_)))))
    have r6 : v6.toInt = kA (tW T) c := by
      rw [e6v]
      exact ht2
    refine sat_call q4 (sat_call q8 (sat_call q9 ?_))
    rcases c6 with ⟨d1, d2⟩ | ⟨d1, d2, d3⟩
    · have hk0 : k = 0 ∧ M = kMin c := by omega
      have hif : v6 = x3 := by
        rw [n_eq, r6, e3, d1]
      obtain ⟨w11, q11, r11⟩ := c_legOf e4 h hz0.1 hz0.2
      obtain ⟨w12, q12, r12⟩ := c_stopIn e4 h
      obtain ⟨w13, q13, r13⟩ := c_leftBehind (gm := tGm T) (tw := tW T) (L := L) e4 e3 ht hz0 hv
      rw [hl0] at r13
      have hlg : kLeg z0 < 8192 ∧ kLeg z0 % 64 = 0 := by
        unfold kLeg
        omega
      have hi0 := kI_lt z0
      have hn : n ≤ 70 := by omega
      refine sat_pos hif (sat_call q11 (sat_call q12 (sat_call q13 (sat_ret ⟨rfl, ?_⟩))))
      refine (c_waycode r9 e6 r11 r12 r13 hcb.2 hn hlg.1 hlg.2 hi0 hl8).trans ?_
      rw [hk0.1, hk0.2]
      rfl
    · have hif : ¬ v6 = x3 := by
        rw [n_eq, r6, e3]
        omega
      refine sat_neg hif (sat_bind (c_firstTaken ok hL ht r6 r9 e3 hT h1 h2 hv) fun w hw2 => ?_)
      obtain ⟨w1, w2⟩ := hw2
      rcases w2 with ⟨b1, _⟩ | ⟨z2, f2, b1, b2, b3, b4, b5, b6, b7⟩
      · exact absurd b1 d2
      · obtain ⟨m2, k2, g1, g2, g3, g4⟩ := wRuns hwL (Nat.le_trans hlen (by decide)) b1 b5
        rw [← b4] at d3
        have hmk : f2 to / 8192 = M * 256 + k := w_pred (d3.symm.trans hk)
        have e61 : (x6 + 1).toInt = ((n + 1 : Nat) : Int) := by
          rw [n_add, e6, l_1, n_bm (by omega) (by omega)]
          omega
        rw [w1]
        have hnk : n + 1 + k - 1 = n + (k + 1) - 1 := by omega
        have hE := ih z2 M (n + 1) f2 w.1 (x6 + 1) b1 b5 b7 b6 e61 hmk (by omega) (by omega)
        rw [hnk] at hE
        exact hE
theorem c_bestFrom {T : Nat → Nat → Nat → Nat} (ok : tOk T) {a m to : Nat} (ht : to < 12) {x1 x2 x3 : Int32} (e1 : x1.toInt = a) (e2 : x2.toInt = m) (e3 : x3.toInt = to) {h : ea_H} (hs : ShC h) (hT : CTab h T) (hf : hI h 13 0 = 0 ∨ hI h 13 0 = 1 ∧ WaysC T h) {L : List Nat} (hL : tList T L) :
    sat (qX10_bestFrom x1 x2 x3 h) fun y => fr [(13, 17)] h y.2 ∧ hI y.2 13 0 = 1 ∧ WaysC T y.2 ∧ y.1.toInt = ((wRS (tW T) (wFrom L m)).2 a to : Int) := by
  have hlen := t_len2 ok hL
  have hwL := t_wL ok hL
  unfold qX10_bestFrom
  refine uqX10_bestFrom_0 ?_
  unfold BX10_bestFrom_0
  refine sat_bind (c_refresh ok hs hT hf) fun w hw => ?_
  obtain ⟨w1, w2, w3⟩ := hw
  have w3' := w3
  obtain ⟨L2, p1, p2, p3, p4⟩ := w3
  have hLL := t_uniq p1 hL
  subst hLL
  have hT2 : CTab w.2 T := CTab.fr w1 rfl rfl rfl rfl rfl rfl hT
  refine sat_bind (c_firstTaken ok hL ht e1 e2 e3 hT2 p2 p3 p4) fun v hv => ?_
  obtain ⟨v1, v2⟩ := hv
  rw [v1]
  rcases v2 with ⟨b1, b2⟩ | ⟨z, f, b1, b2, b3, b4, b5, b6, b7⟩
  · refine uqX10_bestFrom_20 ?_
    unfold BX10_bestFrom_20
    have hm1 : v.1 = (-1 : Int32) := by
      rw [n_eq, b2]
      rfl
    refine sat_neg (by decide) (sat_pos hm1 (sat_ret ⟨w1, w2, w3', ?_⟩))
    rw [b1]
    rfl
  · obtain ⟨M, k, g1, g2, g3, g4⟩ := wRuns hwL (Nat.le_trans hlen (by decide)) b1 b5
    have hzb := (hwL.2.1 z (wG_in b1).1).1
    have hE := c_best20 ok hL ht hzb e3 b6 hT2 p2 p3 p4 b7 (Nat.mod_lt _ (by decide)) k z M 1 f v.1 1 b1 b5 b7 b6 rfl g1 g4 (by omega)
    refine sat_mono hE fun y hy => ⟨by rw [hy.1]; exact w1, by rw [hy.1]; exact w2, by rw [hy.1]; exact w3', ?_⟩
    rw [hy.2]
    obtain ⟨t1, t2, t3, -⟩ := wF hwL b1 b5
    rw [← b4]
    exact congrArg (fun x : Nat => (x : Int)) (w_code t1 t2 t3 g1)
