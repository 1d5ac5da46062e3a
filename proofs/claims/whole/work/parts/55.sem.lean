/-! the class takes a run, 2 -/
def cCond (gm : Nat → Nat → Nat → Nat) (cur x s : Nat) : Prop := cur ≠ NOW ∧ gm (cur / 512 % 16) (cur / 64 % 8) (cur / 8 % 8) = kMin x ∧ s = 8 * (10 * (cur / 64 % 8) + cur / 512 % 16) + cur / 8 % 8
theorem wLv_cons {gm : Nat → Nat → Nat → Nat} {tw : Nat → Nat → Nat} {x : Nat} {S : List Nat} (hx : kGo x = 1) (s to : Nat) : (wTak (wRS tw S).1 x to < (wRS tw S).2 (kA tw x) to → (s = kS x → wLv gm tw (x :: S) s to = wTak (wRS tw S).1 x to % 8) ∧ (s ≠ kS x → (cCond gm ((wRS tw S).2 (kA tw x) to) x s → wLv gm tw (x :: S) s to = 0) ∧ (¬ cCond gm ((wRS tw S).2 (kA tw x) to) x s → wLv gm tw (x :: S) s to = wLv gm tw S s to))) ∧ (¬ wTak (wRS tw S).1 x to < (wRS tw S).2 (kA tw x) to → wLv gm tw (x :: S) s to = wLv gm tw S s to) := by
  unfold cCond
  refine ⟨fun h => ⟨fun hs => ?_, fun hs => ⟨fun hc => ?_, fun hc => ?_⟩⟩, fun h => ?_⟩
  · conv => lhs; unfold wLv
    rw [if_pos ⟨hx, h⟩, if_pos hs]
  · conv => lhs; unfold wLv
    rw [if_pos ⟨hx, h⟩, if_neg hs, if_pos hc]
  · conv => lhs; unfold wLv
    rw [if_pos ⟨hx, h⟩, if_neg hs, if_neg hc]
  · conv => lhs; unfold wLv
    rw [if_neg fun q => h q.2]
def cTk (T : Nat → Nat → Nat → Nat) (S : List Nat) (x to : Nat) (h : ea_H) : Prop :=
  ShC h ∧ CTab h T ∧ cRide (tW T) h S ∧ (∀ a t, a < 12 → t < 12 → hJ h 17 (12 * a + t) = if a = kA (tW T) x ∧ t < to then ((min ((wRS (tW T) S).2 a t) (wTak (wRS (tW T) S).1 x t) : Nat) : Int) else (wRS (tW T) S).2 a t)
theorem c_take8 {T : Nat → Nat → Nat → Nat} (ok : tOk T) {L S : List Nat} (hL : tList T L) {x : Nat} (hsub : ∀ y ∈ x :: S, y ∈ L) (hxS : wL (x :: S)) (hl : S.length ≤ 999) (hg : kGo x = 1) (ha : kA (tW T) x < 12) {x1 x2 x3 : Int32} (e1 : x1.toInt = x) (e2 : x2.toInt = kA (tW T) x) (e3 : x3.toInt = kS x) :
    ∀ (m to : Nat) (x4 : Int32) (h : ea_H), 12 - to = m → to ≤ 12 → x4.toInt = to → cTk T S x to h → (∀ s, s < 560 → 0 ≤ hJ h 15 s ∧ hJ h 15 s < 68719476736 ∧ ∀ t, t < 12 → dg (hJ h 15 s) t = if t < to then wLv (tGm T) (tW T) (x :: S) s t else wLv (tGm T) (tW T) S s t) →
      sat (qX10_takeRun_8 x1 x2 x3 x4 h) fun y => fr [(15, 17)] h y.2 ∧ cTk T S x 12 y.2 ∧ cLeav (tGm T) (tW T) y.2 (x :: S) := by
  have hS : wL S := wL_tail (P := [x]) hxS
  have hxx := (hxS.2.1 x List.mem_cons_self)
  have hkr : kR x < 70 := by
    have := hxx.1
    unfold kR
    omega
  have hks := kS_lt hxx.1
  have hki := kI_lt x
  have hN := NOW_eq
  have hdiv : (x3 / (8 : Int32)).toInt = kR x := by
    rw [n_div0 (m := 8) (by omega) rfl (by omega), e3]
    unfold kS
    omega
  intro m
  induction m with
  | zero =>
    intro to x4 h hm hto e4 hc hv
    have : to = 12 := by omega
    subst this
    refine uqX10_takeRun_8 ?_
    unfold BX10_takeRun_8
    refine sat_pos (by rw [n_le, l_12, e4]; omega) (sat_ret ⟨fr_rfl _ _, hc, fun s hs => ⟨(hv s hs).1, (hv s hs).2.1, fun t ht => ?_⟩⟩)
    rw [(hv s hs).2.2 t ht, if_pos ht]
  | succ m ih =>
    intro to x4 h hm hto e4 hc hv
    obtain ⟨c1, c2, c3, c4⟩ := hc
    have i1 : ((12 : Int32) * (x3 / (8 : Int32)) + x4).toInt = ((12 * kR x + to : Nat) : Int) := by
      rw [n_add, n_mul, l_12, hdiv, e4]; simp (disch := omega) only [n_bm]
      omega
    have hi1 : ((12 : Int32) * (x3 / (8 : Int32)) + x4).toNatClampNeg = 12 * kR x + to := by
      rw [n_idx, i1]
      omega
    have hrd : (ea_j h 16 ((12 : Int32) * (x3 / (8 : Int32)) + x4).toNatClampNeg).toInt = (wRS (tW T) S).1 (kR x) to := by
      rw [hJ_eq, hi1]
      exact c3 _ _ hkr (by omega)
    have e5 : (x4 + 1).toInt = ((to + 1 : Nat) : Int) := by
      rw [n_add, e4, l_1, n_bm (by omega) (by omega)]
      omega
    -- with the way at hand
    have k53 : ∀ y5 : Int64, y5.toInt = wTak (wRS (tW T) S).1 x to → sat (qX10_takeRun_53 x1 x2 x3 x4 y5 h) fun y => fr [(15, 17)] h y.2 ∧ cTk T S x 12 y.2 ∧ cLeav (tGm T) (tW T) y.2 (x :: S) := by
      intro y5 hy5
      have i2 : ((12 : Int32) * x2 + x4).toInt = ((12 * kA (tW T) x + to : Nat) : Int) := by
        rw [n_add, n_mul, l_12, e2, e4]; simp (disch := omega) only [n_bm]
        omega
      have hb2 : 12 * kA (tW T) x + to < 144 := by omega
      have hto12 : to < 12 := by omega
      refine uqX10_takeRun_53 ?_
      unfold BX10_takeRun_53
      refine sat_let fun v8 hv8 => ?_
      rw [← hv8] at i2
      have hi2 : v8.toNatClampNeg = 12 * kA (tW T) x + to := by
        rw [n_idx, i2]
        omega
      have hcur : (ea_j h 17 v8.toNatClampNeg).toInt = (wRS (tW T) S).2 (kA (tW T) x) to := by
        rw [hJ_eq, hi2, c4 _ _ ha (by omega), if_neg (by omega)]
      refine sat_gd (vp80 i2 hb2) ?_
      by_cases hlt : wTak (wRS (tW T) S).1 x to < (wRS (tW T) S).2 (kA (tW T) x) to
      · refine sat_neg (by rw [lg_ge0, n_leJ, hcur, hy5]; omega) (sat_gd (vp80 i2 hb2) ?_)
        -- the rest: it is laid down
        have k123 : ∀ h1 : ea_H, fr [(15, 15)] h h1 → (∀ s, s < 560 → 0 ≤ hJ h1 15 s ∧ hJ h1 15 s < 68719476736 ∧ ∀ t, t < 12 → (t ≠ to → dg (hJ h1 15 s) t = dg (hJ h 15 s) t) ∧ (t = to → (cCond (tGm T) ((wRS (tW T) S).2 (kA (tW T) x) to) x s → dg (hJ h1 15 s) t = 0) ∧ (¬ cCond (tGm T) ((wRS (tW T) S).2 (kA (tW T) x) to) x s → dg (hJ h1 15 s) t = wLv (tGm T) (tW T) S s to))) →
            sat (qX10_takeRun_123 x1 x2 x3 x4 y5 v8 h1) fun y => fr [(15, 17)] h y.2 ∧ cTk T S x 12 y.2 ∧ cLeav (tGm T) (tW T) y.2 (x :: S) := by
          intro h1 f1 g1
          have hi3 : x3.toNatClampNeg = kS x := by
            rw [n_idx, e3]
            omega
          obtain ⟨a1, a2, a3⟩ := g1 (kS x) hks
          have hz : dg (hJ h1 15 (kS x)) to = 0 := by
            by_cases hcc : cCond (tGm T) ((wRS (tW T) S).2 (kA (tW T) x) to) x (kS x)
            · exact ((a3 to (by omega)).2 rfl).1 hcc
            · rw [((a3 to (by omega)).2 rfl).2 hcc]
              exact wLv_zero hxS hg to
          refine uqX10_takeRun_123 ?_
          unfold BX10_takeRun_123
          refine sat_gd (vp80 e3 hks) (sat_gd (vp80 e3 hks) (sat_let fun H eH => sat_gd (vp80 i2 hb2) (sat_let fun H2 eH2 => ?_)))
          rw [hi3] at eH
          rw [hi2] at eH2
          obtain ⟨b1, b2, b3⟩ := dg_set (v := ea_j h1 15 (kS x)) (y := y5) (x4 := x4) (to := to) a1 a2 e4 (by omega) hz
          have fH : fr [(15, 17)] h H2 := by
            refine fr.tr (h2 := h1) (f1.wid fun a q => ?_) (fr.tr (h2 := H) ?_ ?_)
            · simp [inB] at q ⊢
              omega
            · rw [eH]
              exact fr_wj rfl
            · rw [eH2]
              exact fr_wj rfl
          have hH17 : ∀ j, hJ H2 17 j = if j = 12 * kA (tW T) x + to then y5.toInt else hJ h 17 j := by
            intro j
            rw [eH2, hJ_wj]
            by_cases hj : j = 12 * kA (tW T) x + to
            · rw [if_pos ⟨rfl, hj⟩, if_pos hj]
            · rw [if_neg fun q => hj q.2, if_neg hj, eH, hJ_wj, if_neg (by omega), f1.J 17 rfl]
          have hH15 : ∀ j, hJ H2 15 j = if j = kS x then (ea_j h1 15 (kS x) ||| ((y5 &&& (7 : Int64)) <<< (Int32.toInt64 ((3 : Int32) * x4) &&& 63))).toInt else hJ h1 15 j := by
            intro j
            rw [eH2, hJ_wj, if_neg (by omega), eH, hJ_wj]
            by_cases hj : j = kS x
            · rw [if_pos ⟨rfl, hj⟩, if_pos hj]
            · rw [if_neg fun q => hj q.2, if_neg hj]
          have hH16 : ∀ j, hJ H2 16 j = hJ h 16 j := fun j => by rw [eH2, hJ_wj, if_neg (by omega), eH, hJ_wj, if_neg (by omega), f1.J 16 rfl]
          refine sat_mono (ih (to + 1) (x4 + 1) H2 (by omega) (by omega) e5 ⟨ShC_core fH.1 c1, c2.fr fH rfl rfl rfl rfl rfl rfl, fun r t r1 r2 => by rw [hH16]; exact c3 r t r1 r2, fun a t a1 a2 => ?_⟩ fun s hs => ?_) fun y hy => ⟨fH.tr hy.1, hy.2⟩
          · rw [hH17]
            by_cases hat : 12 * a + t = 12 * kA (tW T) x + to
            · have q1 : a = kA (tW T) x := by omega
              have q2 : t = to := by omega
              rw [if_pos hat, if_pos ⟨q1, by omega⟩, hy5, q1, q2]
              omega
            · rw [if_neg hat, c4 a t a1 a2]
              by_cases q : a = kA (tW T) x ∧ t < to
              · rw [if_pos q, if_pos ⟨q.1, by omega⟩]
              · rw [if_neg q, if_neg fun q2 => q ⟨q2.1, by omega⟩]
          · obtain ⟨g2, g3, g4⟩ := g1 s hs
            obtain ⟨w1, w2⟩ := wLv_cons (gm := tGm T) (tw := tW T) (x := x) (S := S) hg s to
            obtain ⟨w3, w4⟩ := w1 hlt
            rw [hH15]
            by_cases hsx : s = kS x
            · subst hsx
              rw [if_pos rfl]
              refine ⟨b1, b2, fun t ht => ?_⟩
              have b4 := b3 t ht
              by_cases htt : t = to
              · subst htt
                rw [if_pos rfl, hy5] at b4
                rw [if_pos (by omega), w3 rfl]
                omega
              · rw [if_neg htt] at b4
                have b5 : dg (ea_j h1 15 (kS x) ||| ((y5 &&& (7 : Int64)) <<< (Int32.toInt64 ((3 : Int32) * x4) &&& 63))).toInt t = dg (hJ h 15 (kS x)) t := by
                  rw [← (g4 t ht).1 htt]
                  exact Int.ofNat.inj b4
                rw [b5, (hv (kS x) hs).2.2 t ht]
                by_cases q : t < to
                · rw [if_pos q, if_pos (by omega)]
                · rw [if_neg q, if_neg (by omega)]
            · rw [if_neg hsx]
              refine ⟨g2, g3, fun t ht => ?_⟩
              by_cases htt : t = to
              · subst htt
                rw [if_pos (by omega)]
                obtain ⟨w5, w6⟩ := w4 hsx
                by_cases hcc : cCond (tGm T) ((wRS (tW T) S).2 (kA (tW T) x) t) x s
                · rw [w5 hcc]
                  exact ((g4 t ht).2 rfl).1 hcc
                · rw [w6 hcc]
                  exact ((g4 t ht).2 rfl).2 hcc
              · rw [(g4 t ht).1 htt, (hv s hs).2.2 t ht]
                by_cases q : t < to
                · rw [if_pos q, if_pos (by omega)]
                · rw [if_neg q, if_neg (by omega)]
        obtain ⟨w, qw, hw, hz⟩ := c_takenAt ok hL (fun y hy => hsub y (List.mem_cons_of_mem _ hy)) hS (by omega) c2 (a := kA (tW T) x) (to := to) hcur
        obtain ⟨vm, qm, rm⟩ := c_minuteIn e1 h
        refine sat_call qw (sat_call qm ?_)
        show sat (if w = vm then _ else _) _
        by_cases hcl : (wRS (tW T) S).2 (kA (tW T) x) to ≠ NOW ∧ tGm T ((wRS (tW T) S).2 (kA (tW T) x) to / 512 % 16) ((wRS (tW T) S).2 (kA (tW T) x) to / 64 % 8) ((wRS (tW T) S).2 (kA (tW T) x) to / 8 % 8) = kMin x
        · have hwm : w = vm := by
            rw [n_eq, rm]
            rcases hw with ⟨q, -⟩ | ⟨-, q⟩
            · exact absurd q hcl.1
            · rw [q, hcl.2]
          refine sat_pos hwm (sat_gd (vp80 i2 hb2) ?_)
          obtain ⟨z, f, z1, z2, z3, z4, z5⟩ := hz hcl.1
          have zL := hxS.2.1 z (List.mem_cons_of_mem _ (wG_in z1).1)
          have hzs := kS_lt zL.1
          obtain ⟨⟨v1, q1, r1⟩, ⟨v2, q2, r2⟩, ⟨v3, q3, r3⟩, -⟩ := c_ofs hcur h
          rw [z3] at r1
          rw [z4] at r2
          rw [z5] at r3
          have hzi := kI_lt z
          have qs : qX10_slotOf (ea_j h 17 v8.toNatClampNeg) h = some ((8 : Int32) * ((10 : Int32) * v2 + v1) + v3, h) := by
            unfold qX10_slotOf BX10_slotOf_0
            exact (bd_call q2).trans ((bd_call q1).trans (bd_call q3))
          have rs : ((8 : Int32) * ((10 : Int32) * v2 + v1) + v3).toInt = kS z := by
            have := zL.1
            rw [n_add, n_mul, n_add, n_mul, l_8, l_10, r1, r2, r3]; simp (disch := omega) only [n_bm]
            unfold kS kR
            omega
          refine sat_call qs (sat_gd (vp80 rs hzs) (sat_gd (vp80 rs hzs) (sat_let fun H eH => ?_)))
          have his : ((8 : Int32) * ((10 : Int32) * v2 + v1) + v3).toNatClampNeg = kS z := by
            rw [n_idx, rs]
            omega
          have eH2 : H = ea_wj h 15 (kS z) (ea_j h 15 (kS z) &&& (((7 : Int64) <<< (Int32.toInt64 ((3 : Int32) * x4) &&& 63)) ^^^ ((-1) : Int64))) := by
            rw [eH]
            show ea_wj h 15 (((8 : Int32) * ((10 : Int32) * v2 + v1) + v3).toNatClampNeg) _ = _
            rw [his]
          have hslot : 8 * (10 * ((wRS (tW T) S).2 (kA (tW T) x) to / 64 % 8) + (wRS (tW T) S).2 (kA (tW T) x) to / 512 % 16) + (wRS (tW T) S).2 (kA (tW T) x) to / 8 % 8 = kS z := by
            rw [z3, z4, z5]
            rfl
          refine k123 H (by rw [eH2]; exact fr_wj rfl) fun s hs => ?_
          obtain ⟨g2, g3, g4⟩ := hv s hs
          by_cases hsz : s = kS z
          · subst hsz
            obtain ⟨b1, b2, b3⟩ := dg_clear (v := ea_j h 15 (kS z)) (x4 := x4) (to := to) g2 g3 e4 hto12
            have hHs : hJ H 15 (kS z) = (ea_j h 15 (kS z) &&& (((7 : Int64) <<< (Int32.toInt64 ((3 : Int32) * x4) &&& 63)) ^^^ ((-1) : Int64))).toInt := by rw [eH2, hJ_wj, if_pos ⟨rfl, rfl⟩]
            rw [hHs]
            refine ⟨b1, b2, fun t ht => ⟨fun htt => ?_, fun htt => ⟨fun _ => ?_, fun q => absurd ⟨hcl.1, hcl.2, hslot.symm⟩ q⟩⟩⟩
            · rw [b3 t ht, if_neg htt]
              rfl
            · rw [b3 t ht, if_pos htt]
          · have hHs : hJ H 15 s = hJ h 15 s := by rw [eH2, hJ_wj, if_neg fun q => hsz q.2]
            rw [hHs]
            refine ⟨g2, g3, fun t ht => ⟨fun _ => rfl, fun htt => ⟨fun q => absurd (q.2.2.trans hslot) hsz, fun _ => ?_⟩⟩⟩
            rw [g4 t ht, if_neg (by omega), htt]
        · have hwm : ¬ w = vm := by
            rw [n_eq, rm]
            intro q
            rcases hw with ⟨-, q2⟩ | ⟨q1, q2⟩
            · omega
            · exact hcl ⟨q1, by omega⟩
          refine sat_neg hwm (k123 h (fr_rfl _ _) fun s hs => ?_)
          obtain ⟨g2, g3, g4⟩ := hv s hs
          refine ⟨g2, g3, fun t ht => ⟨fun _ => rfl, fun htt => ⟨fun q => absurd ⟨q.1, q.2.1⟩ hcl, fun _ => ?_⟩⟩⟩
          rw [g4 t ht, if_neg (by omega), htt]
      · refine sat_pos (by rw [lg_ge0, n_leJ, hcur, hy5]; omega) ?_
        refine ih (to + 1) (x4 + 1) h (by omega) (by omega) e5 ⟨c1, c2, c3, fun a t a1 a2 => ?_⟩ fun s hs => ⟨(hv s hs).1, (hv s hs).2.1, fun t ht => ?_⟩
        · rw [c4 a t a1 a2]
          by_cases q : a = kA (tW T) x ∧ t < to
          · rw [if_pos q, if_pos ⟨q.1, by omega⟩]
          · rw [if_neg q]
            by_cases q2 : a = kA (tW T) x ∧ t < to + 1
            · have q3 : t = to := by omega
              rw [if_pos q2, q2.1, q3]
              omega
            · rw [if_neg q2]
        · rw [(hv s hs).2.2 t ht]
          by_cases q : t < to
          · rw [if_pos q, if_pos (by omega)]
          · rw [if_neg q]
            by_cases q2 : t < to + 1
            · have q3 : t = to := by omega
              rw [if_pos q2, q3, (wLv_cons (gm := tGm T) (tw := tW T) (x := x) (S := S) hg s to).2 hlt]
            · rw [if_neg q2]
    refine uqX10_takeRun_8 ?_
    unfold BX10_takeRun_8
    refine sat_neg (by rw [n_le, l_12, e4]; omega) (sat_gd (vp80 i1 (by omega)) (sat_let fun v3 hv3 => ?_))
    rw [← hv3] at hrd
    by_cases hno : (wRS (tW T) S).1 (kR x) to = NOW
    · refine sat_pos (by rw [lg_eq0, n_eqJ, hrd, lJ_max, hno]; rfl) (k53 v3 ?_)
      unfold wTak
      rw [if_pos hno, hrd, hno]
    · have hb := NOW_R hS (by omega) _ _ hno
      refine sat_neg (by rw [lg_eq0, n_eqJ, hrd, lJ_max]; omega) ?_
      obtain ⟨vi, qi, ri⟩ := c_stopIn e1 h
      refine sat_call qi (sat_let fun v5 hv5 => k53 v5 ?_)
      rw [hv5]
      show (v3 + ((Int32.toInt64 vi) <<< (Int32.toInt64 3 &&& 63))).toInt = _
      rw [n_addJ, s_shlJ_3 (by rw [n_i2l]; omega) (by rw [n_i2l]; omega), n_i2l, ri, hrd, n_bmJ (by omega) (by omega)]
      unfold wTak
      rw [if_neg hno]
      omega
