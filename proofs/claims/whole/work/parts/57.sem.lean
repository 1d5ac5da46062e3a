/-! the class's best way: the first going of it -/
theorem c_leftBehind {gm : Nat → Nat → Nat → Nat} {tw : Nat → Nat → Nat} {L : List Nat} {x1 x2 : Int32} {x to : Nat} (e1 : x1.toInt = x) (e2 : x2.toInt = to) (ht : to < 12) (hx : kT x < 10 ∧ kD x < 7) {h : ea_H} (hv : cLeav gm tw h L) : ∃ v, qX10_leftBehind x1 x2 h = some (v, h) ∧ v.toInt = wLv gm tw L (kS x) to := by
  obtain ⟨v, q, r⟩ := c_slotIn e1 h hx.1 hx.2
  have hs := kS_lt hx
  obtain ⟨a1, a2, a3⟩ := hv (kS x) hs
  have hi : v.toNatClampNeg = kS x := by
    rw [n_idx, r]
    omega
  refine sat_ex ?_
  unfold qX10_leftBehind BX10_leftBehind_0
  refine sat_call q (sat_gd (vp80 r hs) (sat_ret ⟨rfl, ?_⟩))
  show (Int64.toInt32 (ea_j h 15 v.toNatClampNeg >>> (Int32.toInt64 ((3 : Int32) * x2) &&& 63)) &&& (7 : Int32)).toInt = _
  rw [hi, dg_get a1 e2 ht]
  have a4 := a3 to ht
  show ((dg (hJ h 15 (kS x)) to : Nat) : Int) = _
  rw [a4]
def cFst (gm : Nat → Nat → Nat → Nat) (tw : Nat → Nat → Nat) (L : List Nat) (a m to x : Nat) : Prop := kGo x = 1 ∧ m ≤ kMin x ∧ kA tw x = a ∧ wLv gm tw L (kS x) to ≠ 0
theorem c_first3 {T : Nat → Nat → Nat → Nat} (ok : tOk T) {L : List Nat} (hL : tList T L) {a m to : Nat} (ht : to < 12) {x1 x2 x3 : Int32} (e1 : x1.toInt = a) (e2 : x2.toInt = m) (e3 : x3.toInt = to) {h : ea_H} (hT : CTab h T) (h1 : hI h 13 1 = L.length) (h2 : rowIs (hI h 14) L) (hv : cLeav (tGm T) (tW T) h L) :
    ∀ (S P : List Nat) (x4 : Int32), L = P ++ S → x4.toInt = P.length → sat (qX10_firstTaken_3 x1 x2 x3 x4 h) fun y => y.2 = h ∧ ((y.1.toInt = -1 ∧ ∀ x ∈ S, ¬ cFst (tGm T) (tW T) L a m to x) ∨ ∃ z ∈ S, y.1.toInt = z ∧ cFst (tGm T) (tW T) L a m to z ∧ ∀ x ∈ S, x < z → ¬ cFst (tGm T) (tW T) L a m to x) := by
  have hlen := t_len2 ok hL
  have hwL := t_wL ok hL
  intro S
  induction S with
  | nil =>
    intro P x4 hP e4
    have hl : P.length = L.length := by rw [hP]; simp
    refine uqX10_firstTaken_3 ?_
    unfold BX10_firstTaken_3
    exact sat_pos (by rw [n_le, hI_eq, h1, e4]; omega) (sat_ret ⟨rfl, Or.inl ⟨rfl, fun x hx => (by cases hx)⟩⟩)
  | cons x S ih =>
    intro P x4 hP e4
    have hl : P.length + 1 + S.length = L.length := by
      rw [hP]
      simp
      omega
    have hP980 : P.length < 980 := by omega
    have hxL : x ∈ L := by rw [hP]; simp
    have hxw := (hwL.2.1 x hxL).1
    have hi : x4.toNatClampNeg = P.length := by
      rw [n_idx, e4]
      omega
    have hxv : (ea_i h 14 x4.toNatClampNeg).toInt = x := by
      rw [hI_eq, hi, h2 P.length (by omega), List.getD_eq_getElem?_getD, hP, List.getElem?_append_right (Nat.le_refl _)]
      simp
    have hgt : ∀ y ∈ S, x < y := wL_gt (hP ▸ hwL)
    have e5 : (x4 + 1).toInt = ((P ++ [x]).length : Int) := by
      rw [n_add, e4, l_1, n_bm (by omega) (by omega)]
      simp
    have hP2 : L = (P ++ [x]) ++ S := by
      rw [hP]
      simp
    have hle : ¬ hI h 13 1 ≤ x4.toInt := by
      rw [h1, e4]
      omega
    -- it isn't this one
    have next : ¬ cFst (tGm T) (tW T) L a m to x → sat (qX10_firstTaken_3 x1 x2 x3 (x4 + 1) h) fun y => y.2 = h ∧ ((y.1.toInt = -1 ∧ ∀ y ∈ x :: S, ¬ cFst (tGm T) (tW T) L a m to y) ∨ ∃ z ∈ x :: S, y.1.toInt = z ∧ cFst (tGm T) (tW T) L a m to z ∧ ∀ y ∈ x :: S, y < z → ¬ cFst (tGm T) (tW T) L a m to y) := by
      intro hno
      refine sat_mono (ih (P ++ [x]) (x4 + 1) hP2 e5) fun y hy => ⟨hy.1, ?_⟩
      rcases hy.2 with ⟨b1, b2⟩ | ⟨z, b1, b2, b3, b4⟩
      · refine Or.inl ⟨b1, fun w hw => ?_⟩
        rcases List.mem_cons.mp hw with rfl | hw
        · exact hno
        · exact b2 w hw
      · refine Or.inr ⟨z, List.mem_cons_of_mem _ b1, b2, b3, fun w hw hwz => ?_⟩
        rcases List.mem_cons.mp hw with rfl | hw
        · exact hno
        · exact b4 w hw hwz
    refine uqX10_firstTaken_3 ?_
    unfold BX10_firstTaken_3
    refine sat_neg (by rw [n_le, hI_eq]; exact hle) (sat_gd (vp80 e4 hP980) (sat_let fun v2 hv2 => ?_))
    rw [← hv2] at hxv
    obtain ⟨vg, qg, rg⟩ := c_isGoing hxv h
    refine sat_call qg ?_
    by_cases hg : kGo x = 1
    · refine sat_neg (by rw [n_eq, l_0]; show ¬ vg.toInt = 0; rw [rg, hg]; decide) ?_
      obtain ⟨vm, qm, rm⟩ := c_minuteIn hxv h
      refine sat_call qm ?_
      by_cases hm : m ≤ kMin x
      · refine sat_neg (by rw [n_lt]; show ¬ vm.toInt < x2.toInt; rw [rm, e2]; exact fun q => absurd (Int.ofNat_lt.mp q) (Nat.not_lt.mpr hm)) ?_
        obtain ⟨va, qa, ra⟩ := c_townIn hxv hT hxw.1
        refine sat_call qa ?_
        by_cases ha : kA (tW T) x = a
        · refine sat_pos (by rw [n_eq]; show va.toInt = x1.toInt; rw [ra, e1, ha]) ?_
          obtain ⟨vl, ql, rl⟩ := c_leftBehind hxv e3 ht hxw hv
          refine sat_call ql ?_
          by_cases hz : wLv (tGm T) (tW T) L (kS x) to = 0
          · refine sat_pos (by rw [n_le, l_0]; show vl.toInt ≤ 0; rw [rl, hz]; decide) (next fun q => q.2.2.2 hz)
          · refine sat_neg (by rw [n_le, l_0]; show ¬ vl.toInt ≤ 0; rw [rl]; exact fun q => hz (Nat.le_zero.mp (Int.ofNat_le.mp q))) (sat_ret ⟨rfl, Or.inr ⟨x, List.mem_cons_self, hxv, ⟨hg, hm, ha, hz⟩, fun y hy hyx => ?_⟩⟩)
            rcases List.mem_cons.mp hy with rfl | hy
            · exact absurd hyx (Nat.lt_irrefl _)
            · exact absurd (hgt y hy) (Nat.lt_asymm hyx)
        · refine sat_neg (by rw [n_eq]; show ¬ va.toInt = x1.toInt; rw [ra, e1]; exact fun q => ha (Int.ofNat.inj q)) (next fun q => ha q.2.2.1)
      · refine sat_pos (by rw [n_lt]; show vm.toInt < x2.toInt; rw [rm, e2]; exact Int.ofNat_lt.mpr (Nat.not_le.mp hm)) (next fun q => hm q.2.1)
    · refine sat_pos (by rw [n_eq, l_0]; show vg.toInt = 0; rw [rg]; have := kGo_lt x; have h0 : kGo x = 0 := (by omega); rw [h0]; rfl) (next fun q => hg q.1)
theorem c_firstTaken {T : Nat → Nat → Nat → Nat} (ok : tOk T) {L : List Nat} (hL : tList T L) {a m to : Nat} (ht : to < 12) {x1 x2 x3 : Int32} (e1 : x1.toInt = a) (e2 : x2.toInt = m) (e3 : x3.toInt = to) {h : ea_H} (hT : CTab h T) (h1 : hI h 13 1 = L.length) (h2 : rowIs (hI h 14) L) (hv : cLeav (tGm T) (tW T) h L) :
    sat (qX10_firstTaken x1 x2 x3 h) fun y => y.2 = h ∧ (((wRS (tW T) (wFrom L m)).2 a to = NOW ∧ y.1.toInt = -1) ∨ ∃ z f, (z, f) ∈ wG (tW T) L ∧ m ≤ kMin z ∧ kA (tW T) z = a ∧ f to = (wRS (tW T) (wFrom L m)).2 a to ∧ f to ≠ NOW ∧ y.1.toInt = z ∧ wLv (tGm T) (tW T) L (kS z) to = f to % 8) := by
  have hlen := t_len2 ok hL
  have hwL := t_wL ok hL
  unfold qX10_firstTaken
  refine uqX10_firstTaken_0 ?_
  unfold BX10_firstTaken_0
  refine sat_mono (c_first3 ok hL ht e1 e2 e3 hT h1 h2 hv L [] 0 rfl rfl) fun y hy => ⟨hy.1, ?_⟩
  rcases wFirst (tw := tW T) hwL (Nat.le_trans hlen (by decide)) (t_gm hL) a m to with ⟨w1, w2⟩ | ⟨z, f, w1, w2, w3, w4, w5, w6, w7, w8⟩
  · rcases hy.2 with ⟨b1, b2⟩ | ⟨z, b1, b2, b3, b4⟩
    · exact Or.inl ⟨w1, b1⟩
    · exact absurd (w2 z b1 b3.1 b3.2.1 b3.2.2.1) b3.2.2.2
  · have hzc : cFst (tGm T) (tW T) L a m to z := ⟨(wG_in w1).2, w2, w3, by rw [w6]; exact Nat.pos_iff_ne_zero.mp w7⟩
    rcases hy.2 with ⟨b1, b2⟩ | ⟨z2, b1, b2, b3, b4⟩
    · exact absurd hzc (b2 z (wG_in w1).1)
    · have hzz : z2 = z := by
        rcases Nat.lt_trichotomy z2 z with q | q | q
        · exact absurd (w8 z2 b1 b3.1 b3.2.1 b3.2.2.1 q) b3.2.2.2
        · exact q
        · exact absurd hzc (b4 z (wG_in w1).1 q)
      subst hzz
      exact Or.inr ⟨z2, f, w1, w2, w3, w4, w5, b2, w6⟩
