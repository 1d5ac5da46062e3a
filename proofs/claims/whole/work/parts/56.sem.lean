/-! the class's ways are made anew -/
theorem c_takeRun {T : Nat → Nat → Nat → Nat} (ok : tOk T) {L S : List Nat} (hL : tList T L) {x : Nat} (hsub : ∀ y ∈ x :: S, y ∈ L) (hxS : wL (x :: S)) (hl : S.length ≤ 999) (hg : kGo x = 1) (ha : kA (tW T) x < 12) {x1 x2 : Int32} (e1 : x1.toInt = x) (e2 : x2.toInt = kA (tW T) x) {h : ea_H} (hs : ShC h) (hT : CTab h T) (hr : cRide (tW T) h S) (hst : cStay (tW T) h S) (hv : cLeav (tGm T) (tW T) h S) :
    sat (qX10_takeRun x1 x2 h) fun y => fr [(15, 17)] h y.2 ∧ cRide (tW T) y.2 (x :: S) ∧ cStay (tW T) y.2 (x :: S) ∧ cLeav (tGm T) (tW T) y.2 (x :: S) := by
  have hxx := (hxS.2.1 x List.mem_cons_self).1
  obtain ⟨v, q, r⟩ := c_slotIn e1 h hxx.1 hxx.2
  unfold qX10_takeRun
  refine uqX10_takeRun_0 ?_
  unfold BX10_takeRun_0
  refine sat_call q ?_
  refine sat_mono (c_take8 ok hL hsub hxS hl hg ha e1 e2 r 12 0 0 h rfl (by omega) rfl ⟨hs, hT, hr, fun a t a1 a2 => ?_⟩ fun s hs => ⟨(hv s hs).1, (hv s hs).2.1, fun t ht => ?_⟩) fun y hy => ⟨hy.1, fun a t a1 a2 => ?_, fun a t a1 a2 => ?_, hy.2.2⟩
  · rw [if_neg (by omega)]
    exact hst a t a1 a2
  · rw [if_neg (by omega)]
    exact (hv s hs).2.2 t ht
  · rw [hy.2.1.2.2.1 a t a1 a2]
    conv => rhs; unfold wRS
    rw [if_pos hg]
  · rw [hy.2.1.2.2.2 a t a1 a2]
    conv => rhs; unfold wRS
    rw [if_pos hg]
    dsimp only
    by_cases q : a = kA (tW T) x
    · rw [if_pos ⟨q, a2⟩, if_pos q]
    · rw [if_neg fun q2 => q q2.1, if_neg q]
def cTr (T : Nat → Nat → Nat → Nat) (L S : List Nat) (h : ea_H) : Prop := ShC h ∧ CTab h T ∧ hI h 13 1 = L.length ∧ rowIs (hI h 14) L ∧ cRide (tW T) h S ∧ cStay (tW T) h S ∧ cLeav (tGm T) (tW T) h S
theorem t_town {T : Nat → Nat → Nat → Nat} (ok : tOk T) {x : Nat} (hx : tKey T x) : kA (tW T) x < 12 := by
  obtain ⟨x1, x2, x3, x4⟩ := hx
  have := ok.1
  exact (ok.2.2.2.1 (kT x) (kI x) (by omega) (by omega)).1
theorem c_trace35 {T : Nat → Nat → Nat → Nat} (ok : tOk T) {L : List Nat} (hL : tList T L) :
    ∀ (R S : List Nat) (x1 : Int32) (h : ea_H), L = R.reverse ++ S → x1.toInt = (R.length : Int) - 1 → cTr T L S h → sat (qX10_trace_35 x1 h) fun y => fr [(15, 17)] h y.2 ∧ cTr T L L y.2 := by
  have hwL := t_wL ok hL
  have hlen := t_len2 ok hL
  intro R
  induction R with
  | nil =>
    intro S x1 h hS e1 c
    have hSL : S = L := by
      rw [hS]
      rfl
    subst hSL
    refine uqX10_trace_35 ?_
    unfold BX10_trace_35
    refine sat_pos (by rw [n_lt, e1, l_0]; simp) (sat_ret ⟨fr_rfl _ _, c⟩)
  | cons x R ih =>
    intro S x1 h hS e1 c
    obtain ⟨c1, c2, c3, c4, c5, c6, c7⟩ := c
    have hS2 : L = R.reverse ++ x :: S := by
      rw [hS]
      simp
    have hRl : R.length + 1 + S.length = L.length := by
      rw [hS2]
      simp
      omega
    have hl999 : S.length ≤ 999 := by omega
    have hl1000 : S.length ≤ 1000 := by omega
    have e1' : x1.toInt = R.length := by
      rw [e1]
      simp
    have hi : x1.toNatClampNeg = R.length := by
      rw [n_idx, e1']
      omega
    have hxv : (ea_i h 14 x1.toNatClampNeg).toInt = x := by
      rw [hI_eq, hi, c4 R.length (by omega), List.getD_eq_getElem?_getD, hS2, List.getElem?_append_right (by simp)]
      simp
    have hxS : wL (x :: S) := wL_tail (P := R.reverse) (hS2 ▸ hwL)
    have hsub : ∀ y ∈ x :: S, y ∈ L := fun y hy => by rw [hS2]; exact List.mem_append_right _ hy
    have hkey := (hL.2 x).mp (hsub x List.mem_cons_self)
    have ha := t_town ok hkey
    have hn10 := ok.1
    have htT : kT x < 10 := (hxS.2.1 x List.mem_cons_self).1.1
    refine uqX10_trace_35 ?_
    unfold BX10_trace_35
    refine sat_neg (by rw [n_lt, e1', l_0]; omega) (sat_gd (vp80 e1' (by omega)) (sat_let fun v6 hv6 => ?_))
    rw [← hv6] at hxv
    obtain ⟨vg, qg, rg⟩ := c_isGoing hxv h
    refine sat_call qg ?_
    obtain ⟨va, qa, ra⟩ := c_townIn hxv c2 htT
    have e2 : (x1 + (-1 : Int32)).toInt = (R.length : Int) - 1 := by
      rw [n_add, e1', l_m1, n_bm (by omega) (by omega)]
      omega
    by_cases hg : kGo x = 1
    · refine sat_neg (by rw [n_eq, l_0]; show ¬ vg.toInt = 0; omega) (sat_call qa ?_)
      refine sat_bind (c_takeRun ok hL hsub hxS hl999 hg ha hxv ra c1 c2 c5 c6 c7) fun y hy => ?_
      obtain ⟨f1, g1, g2, g3⟩ := hy
      refine sat_mono (ih (x :: S) _ y.2 hS2 e2 ⟨ShC_core f1.1 c1, c2.fr f1 rfl rfl rfl rfl rfl rfl, by rw [f1.I 13 rfl]; exact c3, fun e he => by rw [f1.I 14 rfl]; exact c4 e he, g1, g2, g3⟩) fun z hz => ⟨f1.tr hz.1, hz.2⟩
    · have hg0 : kGo x = 0 := by
        unfold kGo at hg ⊢
        omega
      refine sat_pos (by rw [n_eq, l_0]; show vg.toInt = 0; omega) (sat_call qa ?_)
      refine sat_bind (c_leaveRun (wL_tail (P := [x]) hxS) hl1000 hg (hxS.2.1 x List.mem_cons_self) ha hxv ra c1 c5 c6) fun y hy => ?_
      obtain ⟨f0, g1, g2⟩ := hy
      have f1 : fr [(15, 17)] h y.2 := f0.wid fun a q => by
        simp [inB] at q ⊢
        omega
      refine sat_mono (ih (x :: S) _ y.2 hS2 e2 ⟨ShC_core f1.1 c1, c2.fr f1 rfl rfl rfl rfl rfl rfl, by rw [f1.I 13 rfl]; exact c3, fun e he => by rw [f1.I 14 rfl]; exact c4 e he, g1, g2, fun s hs => ?_⟩) fun z hz => ⟨f1.tr hz.1, hz.2⟩
      rw [f0.J 15 rfl]
      refine ⟨(c7 s hs).1, (c7 s hs).2.1, fun t ht => ?_⟩
      rw [(c7 s hs).2.2 t ht]
      conv => rhs; unfold wLv
      rw [if_neg fun q => hg q.1]
theorem c_trace {T : Nat → Nat → Nat → Nat} (ok : tOk T) {L : List Nat} (hL : tList T L) {h : ea_H} (hs : ShC h) (hT : CTab h T) (h1 : hI h 13 1 = L.length) (h2 : rowIs (hI h 14) L) : sat (qX10_trace h) fun y => fr [(15, 17)] h y.2 ∧ cTr T L L y.2 := by
  unfold qX10_trace
  refine uqX10_trace_0 ?_
  unfold BX10_trace_0
  refine sat_bind (c_fill (a := 15) (len := 560) (by decide) (hs.1 15 (by decide))) fun y1 hy1 => ?_
  have s1 := ShC_core hy1.1.1 hs
  refine sat_bind (c_fill (a := 16) (len := 840) (by decide) (s1.1 16 (by decide))) fun y2 hy2 => ?_
  have s2 := ShC_core hy2.1.1 s1
  refine sat_bind (c_fill (a := 17) (len := 144) (by decide) (s2.1 17 (by decide))) fun y3 hy3 => ?_
  have s3 := ShC_core hy3.1.1 s2
  have fw : ∀ {a : Nat} {u v : ea_H}, 15 ≤ a → a ≤ 17 → fr [(a, a)] u v → fr [(15, 17)] u v := fun {a u v} a1 a2 f => f.wid fun b q => by
    simp [inB] at q ⊢
    omega
  have f3 : fr [(15, 17)] h y3.2 := (fw (by omega) (by omega) hy1.1).tr ((fw (by omega) (by omega) hy2.1).tr (fw (by omega) (by omega) hy3.1))
  have hlen := t_len2 ok hL
  refine sat_sub ?_
  refine sat_mono (c_trace35 ok hL L.reverse [] _ y3.2 (by simp) ?_ ⟨s3, hT.fr f3 rfl rfl rfl rfl rfl rfl, by rw [f3.I 13 rfl]; exact h1, fun e he => by rw [f3.I 14 rfl]; exact h2 e he, fun r t r1 r2 => ?_, fun a t a1 a2 => ?_, fun s hs9 => ?_⟩) fun z hz => ⟨f3.tr hz.1, hz.2⟩
  · rw [n_sub, hI_eq, f3.I 13 rfl, h1, l_1, n_bm (by omega) (by omega), List.length_reverse]
  · rw [hy3.1.J 16 rfl, hy2.2 _ (by omega)]
    rfl
  · rw [hy3.2 _ (by omega)]
    rfl
  · rw [hy3.1.J 15 rfl, hy2.1.J 15 rfl, hy1.2 s hs9]
    refine ⟨by decide, by decide, fun t ht => ?_⟩
    show 0 / 8 ^ t % 8 = 0
    simp
/-- the ways as they are when they are fresh -/
def WaysC (T : Nat → Nat → Nat → Nat) (h : ea_H) : Prop := ∃ L, tList T L ∧ hI h 13 1 = L.length ∧ rowIs (hI h 14) L ∧ cLeav (tGm T) (tW T) h L
theorem pm_of {S : Nat → Prop} {K : List Nat} {f : Nat → Int} (h1 : rowIs f K) (h2 : K.Nodup) (h3 : ∀ x, x ∈ K ↔ S x) : pmS S K.length f := by
  refine ⟨fun e he => ?_, fun x hx => ?_, fun e g he hg heg => ?_⟩
  · refine ⟨K.getD e 0, h1 e he, (h3 _).mp ?_⟩
    rw [List.getD_eq_getElem?_getD, List.getElem?_eq_getElem he]
    exact List.getElem_mem he
  · obtain ⟨e, he, hx2⟩ := List.getElem_of_mem ((h3 x).mpr hx)
    refine ⟨e, he, ?_⟩
    rw [h1 e he, List.getD_eq_getElem?_getD, List.getElem?_eq_getElem he]
    show ((K[e] : Nat) : Int) = x
    rw [hx2]
  · rw [h1 e he, h1 g hg, List.getD_eq_getElem?_getD, List.getD_eq_getElem?_getD, List.getElem?_eq_getElem he, List.getElem?_eq_getElem hg] at heg
    have h4 : K[e] = K[g] := Int.ofNat.inj heg
    exact (List.getElem_inj h2).mp h4
theorem pm_list {S : Nat → Prop} {n : Nat} {f : Nat → Int} (h : pmS S n f) (hs : ∀ i j, i < j → j < n → f i < f j) : ∃ L : List Nat, L.length = n ∧ rowIs f L ∧ L.Pairwise (· < ·) ∧ ∀ x, x ∈ L ↔ S x := by
  have hg : ∀ e, e < n → ((((List.range n).map fun e => (f e).toNat).getD e 0 : Nat) : Int) = f e := by
    intro e he
    obtain ⟨x, hx, -⟩ := h.1 e he
    rw [List.getD_eq_getElem?_getD, List.getElem?_map, List.getElem?_range he]
    show (((f e).toNat : Nat) : Int) = f e
    rw [hx]
    omega
  refine ⟨(List.range n).map fun e => (f e).toNat, by simp, fun e he => (hg e (by simpa using he)).symm, ?_, fun x => ⟨fun hx => ?_, fun hx => ?_⟩⟩
  · rw [List.pairwise_map]
    refine List.Pairwise.imp_of_mem (fun {a b} ha hb hab => ?_) (List.pairwise_lt_range (n := n))
    have hb2 := List.mem_range.mp hb
    obtain ⟨x, hx, -⟩ := h.1 a (by omega)
    obtain ⟨y, hy, -⟩ := h.1 b hb2
    have := hs a b hab hb2
    omega
  · obtain ⟨e, he, hx2⟩ := List.mem_map.mp hx
    obtain ⟨y, hy, hS⟩ := h.1 e (List.mem_range.mp he)
    have : x = y := by omega
    rw [this]
    exact hS
  · obtain ⟨e, he, hx2⟩ := h.2.1 x hx
    exact List.mem_map.mpr ⟨e, List.mem_range.mpr he, by omega⟩
theorem c_refresh {T : Nat → Nat → Nat → Nat} (ok : tOk T) {h : ea_H} (hs : ShC h) (hT : CTab h T) (hf : hI h 13 0 = 0 ∨ hI h 13 0 = 1 ∧ WaysC T h) : sat (qX10_refresh h) fun y => fr [(13, 17)] h y.2 ∧ hI y.2 13 0 = 1 ∧ WaysC T y.2 := by
  unfold qX10_refresh BX10_refresh_0
  rcases hf with hf | ⟨hf, hw⟩
  · refine sat_pos (by rw [n_eq, hI_eq, hf, l_0]) ?_
    have fw : ∀ {a b : Nat} {u v : ea_H}, 13 ≤ a → b ≤ 17 → fr [(a, b)] u v → fr [(13, 17)] u v := fun {a b u v} a1 a2 f => f.wid fun c q => by
      simp [inB] at q ⊢
      omega
    refine sat_bind (c_collect ok hs hT) fun y1 hy1 => ?_
    obtain ⟨f1, K, ⟨k1, k2⟩, k3, k4⟩ := hy1
    have s1 := ShC_core f1.1 hs
    have hK := t_len ok k3 fun x hx => (k4 x).mp hx
    refine sat_bind (c_sortKeys hK s1 k1 (pm_of k2 k3 k4)) fun y2 hy2 => ?_
    obtain ⟨f2, p2, s2'⟩ := hy2
    obtain ⟨L, l1, l2, l3, l4⟩ := pm_list p2 s2'
    have f12 := (fw (by omega) (by omega) f1).tr (fw (by omega) (by omega) f2)
    have hL : tList T L := ⟨l3, l4⟩
    refine sat_bind (c_trace ok hL (ShC_core f2.1 s1) (hT.fr f12 rfl rfl rfl rfl rfl rfl) (by rw [f2.I 13 rfl, k1, l1]) l2) fun y3 hy3 => ?_
    obtain ⟨f3, g1, g2, g3, g4, g5, g6, g7⟩ := hy3
    refine sat_let fun H eH => sat_ret ⟨?_, ?_, L, hL, ?_, fun e he => ?_, fun s hs9 => ?_⟩
    · refine f12.tr ((fw (by omega) (by omega) f3).tr ?_)
      rw [eH]
      exact fr_wi rfl
    · rw [eH, hI_wi, if_pos ⟨rfl, rfl⟩]
      rfl
    · rw [eH, hI_wi, if_neg (by omega)]
      exact g3
    · rw [eH, hI_wi, if_neg (by omega)]
      exact g4 e he
    · rw [eH, hJ_wi]
      exact g7 s hs9
  · refine sat_neg (by rw [n_eq, hI_eq, hf, l_0]; decide) (sat_ret ⟨fr_rfl _ _, hf, hw⟩)
