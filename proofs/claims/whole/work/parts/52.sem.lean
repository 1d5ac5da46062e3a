/-! the class goes through its keys from the last to the first -/
theorem lg_eq0 {x y : Int64} : lg_cmp x y = 0 ↔ x = y := by
  unfold lg_cmp
  by_cases h1 : x > y
  · rw [if_pos h1]
    constructor
    · intro h
      exact absurd h (by decide)
    · intro h
      subst h
      exact absurd (n_ltJ.mp h1) (Int.lt_irrefl _)
  · rw [if_neg h1]
    by_cases h2 : x = y
    · rw [if_pos h2]
      exact ⟨fun _ => h2, fun _ => rfl⟩
    · rw [if_neg h2]
      exact ⟨fun h => absurd h (by decide), fun h => absurd h h2⟩
theorem lg_ge0 {x y : Int64} : (0 : Int32) ≤ lg_cmp x y ↔ y ≤ x := by
  unfold lg_cmp
  rw [n_leJ]
  by_cases h1 : x > y
  · rw [if_pos h1]
    have := n_ltJ.mp h1
    exact ⟨fun _ => by omega, fun _ => by decide⟩
  · rw [if_neg h1]
    have h3 : ¬ y.toInt < x.toInt := fun q => h1 (n_ltJ.mpr q)
    by_cases h2 : x = y
    · rw [if_pos h2, h2]
      exact ⟨fun _ => Int.le_refl _, fun _ => by decide⟩
    · rw [if_neg h2]
      have h4 : ¬ x.toInt = y.toInt := fun q => h2 (n_eqJ.mpr q)
      exact ⟨fun h => absurd h (by decide), fun h => by omega⟩
theorem c_fillJ {a len : Nat} {y1 : Int64} : ∀ (m k : Nat) (x3 x4 : Int32) (h : ea_H), len - k = m → k ≤ len → len < 2147483648 → x3.toInt = k → x4.toInt = len → a < ea_n h ∧ ea_c h a = 22 ∧ ea_l h a = len → (∀ j, j < k → hJ h a j = y1.toInt) →
    sat (qJ7_fill_d0a16_6 (some a) y1 x3 x4 h) fun y => fr [(a, a)] h y.2 ∧ ∀ j, j < len → hJ y.2 a j = y1.toInt := by
  intro m
  induction m with
  | zero =>
    intro k x3 x4 h hm hk hl e3 e4 hc hv
    refine uqJ7_fill_d0a16_6 ?_
    unfold BJ7_fill_d0a16_6
    exact sat_pos (by rw [n_le, e3, e4]; omega) (sat_ret ⟨fr_rfl _ _, fun j hj => hv j (by omega)⟩)
  | succ m ih =>
    intro k x3 x4 h hm hk hl e3 e4 hc hv
    refine uqJ7_fill_d0a16_6 ?_
    unfold BJ7_fill_d0a16_6
    simp only [Option.getD_some]
    refine sat_neg (by rw [n_le, e3, e4]; omega) (sat_gd trivial (sat_gd ⟨hc.1, hc.2.1⟩ (sat_gd (by rw [hc.2.2]; exact vp80 e3 (by omega)) (sat_let fun H eH => ?_))))
    have hi3 : x3.toNatClampNeg = k := by
      rw [n_idx, e3]
      omega
    have fH : fr [(a, a)] h H := by
      rw [eH]
      exact fr_wj (by simp [inB])
    obtain ⟨k1, k2, k3, k4⟩ := ea_core_eq fH.1
    refine sat_mono (ih (k + 1) (x3 + 1) x4 H (by omega) (by omega) hl (by rw [n_add, e3, l_1, n_bm (by omega) (by omega)]; omega) e4 (by rw [k1, k2, k3]; exact hc) fun j hj => ?_) fun y hy => ⟨fH.tr hy.1, hy.2⟩
    rw [eH, hJ_wj, hi3]
    by_cases hjk : j = k
    · rw [if_pos ⟨rfl, hjk⟩]
    · rw [if_neg fun q => hjk q.2]
      exact hv j (by omega)
theorem c_fill {a len : Nat} {y1 : Int64} {h : ea_H} (hl : len < 2147483648) (hc : a < ea_n h ∧ ea_c h a = 22 ∧ ea_l h a = len) : sat (qJ7_fill_d0a16 (some a) y1 h) fun y => fr [(a, a)] h y.2 ∧ ∀ j, j < len → hJ y.2 a j = y1.toInt := by
  unfold qJ7_fill_d0a16
  refine uqJ7_fill_d0a16_0 ?_
  unfold BJ7_fill_d0a16_0
  simp only [Option.getD_some]
  refine sat_gd trivial (sat_gd ⟨hc.1, hc.2.1⟩ (sat_sub ?_))
  refine c_fillJ len 0 0 _ h rfl (Nat.zero_le _) hl rfl ?_ hc fun j hj => absurd hj (Nat.not_lt_zero _)
  rw [hc.2.2, Int32.toInt_ofNat_of_lt (by omega)]
/-- the ways on: for those in a run, and in a town -/
def cRide (tw : Nat → Nat → Nat) (h : ea_H) (S : List Nat) : Prop := ∀ r to, r < 70 → to < 12 → hJ h 16 (12 * r + to) = (wRS tw S).1 r to
def cStay (tw : Nat → Nat → Nat) (h : ea_H) (S : List Nat) : Prop := ∀ a to, a < 12 → to < 12 → hJ h 17 (12 * a + to) = (wRS tw S).2 a to
theorem c_leave13 {tw : Nat → Nat → Nat} {S : List Nat} (hS : wL S) (hl : S.length ≤ 1000) {x : Nat} (hx : (kT x < 10 ∧ kD x < 7) ∧ kMin x ≤ 10079) (ha : kA tw x < 12) {x1 x2 x3 : Int32} (e1 : x1.toInt = x) (e2 : x2.toInt = kA tw x) (e3 : x3.toInt = ((kLeg x + kI x : Nat) : Int)) :
    ∀ (m to : Nat) (x4 : Int32) (h : ea_H), 12 - to = m → to ≤ 12 → x4.toInt = to → ShC h → cStay tw h S → (∀ r t, r < 70 → t < 12 → hJ h 16 (12 * r + t) = if r = kR x ∧ t < to then ((min ((wRS tw S).1 r t) (wOpt tw (wRS tw S).2 x t) : Nat) : Int) else (wRS tw S).1 r t) →
      sat (qX10_leaveRun_13 x1 x2 x3 x4 h) fun y => fr [(16, 16)] h y.2 ∧ ∀ r t, r < 70 → t < 12 → hJ y.2 16 (12 * r + t) = if r = kR x then ((min ((wRS tw S).1 r t) (wOpt tw (wRS tw S).2 x t) : Nat) : Int) else (wRS tw S).1 r t := by
  have hkr : kR x < 70 := by
    unfold kR
    omega
  have hleg := kLeg_lt x
  have hN := NOW_eq
  intro m
  induction m with
  | zero =>
    intro to x4 h hm hto e4 hs hst hr
    refine uqX10_leaveRun_13 ?_
    unfold BX10_leaveRun_13
    refine sat_pos (by rw [n_le, l_12, e4]; omega) (sat_ret ⟨fr_rfl _ _, fun r t h1 h2 => ?_⟩)
    rw [hr r t h1 h2]
    by_cases hc : r = kR x
    · rw [if_pos ⟨hc, by omega⟩, if_pos hc]
    · rw [if_neg fun q => hc q.1, if_neg hc]
  | succ m ih =>
    intro to x4 h hm hto e4 hs hst hr
    have i1 : ((12 : Int32) * x2 + x4).toInt = ((12 * kA tw x + to : Nat) : Int) := by
      rw [n_add, n_mul, l_12, e2, e4]; simp (disch := omega) only [n_bm]
      omega
    have hi1 : ((12 : Int32) * x2 + x4).toNatClampNeg = 12 * kA tw x + to := by
      rw [n_idx, i1]
      omega
    have hon : (ea_j h 17 ((12 : Int32) * x2 + x4).toNatClampNeg).toInt = (wRS tw S).2 (kA tw x) to := by
      rw [hJ_eq, hi1]
      exact hst _ _ ha (by omega)
    refine uqX10_leaveRun_13 ?_
    unfold BX10_leaveRun_13
    refine sat_neg (by rw [n_le, l_12, e4]; omega) (sat_gd (vp80 i1 (by omega)) (sat_let fun v5 hv5 => sat_sub ?_))
    rw [← hv5] at hon
    -- the option is compared with what stands
    have k89 : ∀ (y7 : Int64) , y7.toInt = wOpt tw (wRS tw S).2 x to → sat (qX10_leaveRun_89 x1 x2 x3 x4 y7 h) fun y => fr [(16, 16)] h y.2 ∧ ∀ r t, r < 70 → t < 12 → hJ y.2 16 (12 * r + t) = if r = kR x then ((min ((wRS tw S).1 r t) (wOpt tw (wRS tw S).2 x t) : Nat) : Int) else (wRS tw S).1 r t := by
      intro y7 hy7
      obtain ⟨vd, qd, rd⟩ := c_dayIn e1 h
      obtain ⟨vt, qt, rt⟩ := c_trainIn e1 h
      refine uqX10_leaveRun_89 ?_
      unfold BX10_leaveRun_89
      refine sat_call qd (sat_call qt (sat_let fun v15 hv15 => ?_))
      have i2 : v15.toInt = ((12 * kR x + to : Nat) : Int) := by
        rw [hv15]
        show ((12 : Int32) * ((10 : Int32) * vd + vt) + x4).toInt = _
        rw [n_add, n_mul, n_add, n_mul, l_12, l_10, rd, rt, e4]; simp (disch := omega) only [n_bm]
        unfold kR
        omega
      have hi2 : v15.toNatClampNeg = 12 * kR x + to := by
        rw [n_idx, i2]
        omega
      have hold : (ea_j h 16 v15.toNatClampNeg).toInt = (wRS tw S).1 (kR x) to := by
        rw [hJ_eq, hi2, hr _ _ hkr (by omega), if_neg (by omega)]
      refine sat_gd (vp80 i2 (by omega)) (sat_gd (vp80 i2 (by omega)) (sat_let fun H eH => ?_))
      have fH : fr [(16, 16)] h H := by
        rw [eH]
        exact fr_wj rfl
      refine sat_mono (ih (to + 1) (x4 + 1) H (by omega) (by omega) (by rw [n_add, e4, l_1, n_bm (by omega) (by omega)]; omega) (ShC_core fH.1 hs) (fun a t h1 h2 => by rw [fH.J 17 rfl]; exact hst a t h1 h2) fun r t h1 h2 => ?_) fun y hy => ⟨fH.tr hy.1, hy.2⟩
      rw [eH, hJ_wj, hi2]
      by_cases hc : 12 * r + t = 12 * kR x + to
      · have hrr : r = kR x := by omega
        have htt : t = to := by omega
        subst htt
        refine (if_pos ⟨rfl, hc⟩).trans (Eq.trans ?_ (if_pos ⟨hrr, by omega⟩).symm)
        rw [n_ifJ, hy7, hrr]
        rw [hi2] at hold
        split
        · rename_i hlt
          rw [n_ltJ, hy7] at hlt
          have hlt2 : (wOpt tw (wRS tw S).2 x t : Int) < (ea_j h 16 (12 * kR x + t)).toInt := hlt
          rw [hold] at hlt2
          omega
        · rename_i hlt
          rw [n_ltJ, hy7] at hlt
          have hlt2 : ¬ (wOpt tw (wRS tw S).2 x t : Int) < (ea_j h 16 (12 * kR x + t)).toInt := hlt
          rw [hold] at hlt2
          show (ea_j h 16 (12 * kR x + t)).toInt = _
          rw [hold]
          omega
      · rw [if_neg fun q => hc q.2]
        show hJ h 16 (12 * r + t) = _
        rw [hr r t h1 h2]
        by_cases hcc : r = kR x ∧ t < to
        · rw [if_pos hcc, if_pos ⟨hcc.1, by omega⟩]
        · rw [if_neg hcc, if_neg fun q => hcc ⟨q.1, by omega⟩]
    have hx3 : (Int32.toInt64 x3).toInt = ((kLeg x + kI x : Nat) : Int) := by rw [n_i2l, e3]
    by_cases ht : to = kA tw x
    · refine sat_pos (by rw [n_eq, e4, e2, ht]) ?_
      obtain ⟨vm, qm, rm⟩ := c_minuteIn e1 h
      refine sat_call qm (sat_let fun v10 hv10 => k89 v10 ?_)
      rw [hv10]
      show ((((Int32.toInt64 vm) <<< (Int32.toInt64 21 &&& 63)) ||| (8192 : Int64)) ||| (Int32.toInt64 x3)).toInt = _
      have b1 : ((Int32.toInt64 vm) <<< (Int32.toInt64 21 &&& 63)).toInt = kMin x * 2097152 := by rw [s_shlJ_21 (by rw [n_i2l]; omega) (by rw [n_i2l]; omega), n_i2l, rm]
      have b2 : (((Int32.toInt64 vm) <<< (Int32.toInt64 21 &&& 63)) ||| (8192 : Int64)).toInt = kMin x * 2097152 + 8192 := by
        rw [s_orJ 21 (by omega) (by rw [b1]; show ((kMin x : Int) * 2097152) % 2097152 = 0; omega) (by decide) (by decide), b1, lJ_8192]
      rw [s_orJ 13 (by omega) (by rw [b2]; show ((kMin x : Int) * 2097152 + 8192) % 8192 = 0; omega) (by omega) (by rw [hx3]; show _ < (8192 : Int); omega), b2, hx3]
      unfold wOpt
      rw [if_pos ht]
      omega
    · refine sat_neg (by rw [n_eq, e4, e2]; omega) ?_
      by_cases hno : (wRS tw S).2 (kA tw x) to = NOW
      · refine sat_pos (by rw [lg_eq0, n_eqJ, hon, lJ_max, hno]; rfl) (k89 _ ?_)
        unfold wOpt
        rw [if_neg ht, if_pos hno, lJ_max]
        rfl
      · have hb := NOW_S hS hl _ _ hno
        refine sat_neg (by rw [lg_eq0, n_eqJ, hon, lJ_max]; omega) (sat_let fun v7 hv7 => k89 v7 ?_)
        rw [hv7]
        have b1 : ((v5 >>> (Int32.toInt64 13 &&& 63)) + (1 : Int64)).toInt = ((wRS tw S).2 (kA tw x) to : Int) / 8192 + 1 := by
          rw [n_addJ, s_shrJ_13, hon, lJ_1, n_bmJ (by omega) (by omega)]
        have b2 : (((v5 >>> (Int32.toInt64 13 &&& 63)) + (1 : Int64)) <<< (Int32.toInt64 13 &&& 63)).toInt = (((wRS tw S).2 (kA tw x) to : Int) / 8192 + 1) * 8192 := by rw [s_shlJ_13 (by omega) (by omega), b1]
        rw [s_orJ 13 (by omega) (by rw [b2]; show ((((wRS tw S).2 (kA tw x) to : Int) / 8192 + 1) * 8192) % 8192 = 0; omega) (by omega) (by rw [hx3]; show _ < (8192 : Int); omega), b2, hx3]
        unfold wOpt
        rw [if_neg ht, if_neg hno]
        omega
theorem c_leaveRun {tw : Nat → Nat → Nat} {S : List Nat} (hS : wL S) (hl : S.length ≤ 1000) {x : Nat} (hg : kGo x ≠ 1) (hx : (kT x < 10 ∧ kD x < 7) ∧ kMin x ≤ 10079) (ha : kA tw x < 12) {x1 x2 : Int32} (e1 : x1.toInt = x) (e2 : x2.toInt = kA tw x) {h : ea_H} (hs : ShC h) (hr : cRide tw h S) (hst : cStay tw h S) :
    sat (qX10_leaveRun x1 x2 h) fun y => fr [(16, 16)] h y.2 ∧ cRide tw y.2 (x :: S) ∧ cStay tw y.2 (x :: S) := by
  obtain ⟨v1, q1, r1⟩ := c_legOf e1 h hx.1.1 hx.1.2
  obtain ⟨v2, q2, r2⟩ := c_stopIn e1 h
  have hi := kI_lt x
  have hleg := kLeg_lt x
  unfold qX10_leaveRun
  refine uqX10_leaveRun_0 ?_
  unfold BX10_leaveRun_0
  refine sat_call q1 (sat_call q2 (sat_let fun v3 hv3 => ?_))
  have e3 : v3.toInt = ((kLeg x + kI x : Nat) : Int) := by
    rw [hv3]
    show (v1 ||| v2).toInt = _
    rw [s_or 3 (by omega) (by rw [r1]; show ((kLeg x : Nat) : Int) % 8 = 0; unfold kLeg; omega) (by omega) (by rw [r2]; show (kI x : Int) < 8; omega), r1, r2]
    omega
  refine sat_mono (c_leave13 hS hl hx ha e1 e2 e3 12 0 0 h rfl (by omega) rfl hs hst fun r t h1 h2 => ?_) fun y hy => ⟨hy.1, fun r t h1 h2 => ?_, fun a t h1 h2 => ?_⟩
  · rw [if_neg (by omega)]
    exact hr r t h1 h2
  · rw [hy.2 r t h1 h2]
    conv => rhs; unfold wRS
    rw [if_neg hg]
    dsimp only
    split <;> rfl
  · rw [hy.1.J 17 rfl, hst a t h1 h2]
    conv => rhs; unfold wRS
    rw [if_neg hg]
