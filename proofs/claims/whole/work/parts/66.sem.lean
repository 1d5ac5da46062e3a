/-! the reference's table: the happenings in their order -/
theorem i_ne {h : ea_H} {a k b j : Nat} {x : Int32} (hb : b ≠ a) : ea_i (ea_wi h a k x) b j = ea_i h b j := by
  show (if b = a ∧ j = k then x else ea_i h b j) = _
  exact if_neg fun q => hb q.1
theorem i_nk {h : ea_H} {a k b j : Nat} {x : Int32} (hb : j ≠ k) : ea_i (ea_wi h a k x) b j = ea_i h b j := by
  show (if b = a ∧ j = k then x else ea_i h b j) = _
  exact if_neg fun q => hb q.2
theorem i_eq {h : ea_H} {a k : Nat} {x : Int32} : ea_i (ea_wi h a k x) a k = x := by
  show (if a = a ∧ k = k then x else ea_i h a k) = _
  exact if_pos ⟨rfl, rfl⟩
theorem hI_ne {h : ea_H} {a k b j : Nat} {x : Int32} (hb : b ≠ a) : hI (ea_wi h a k x) b j = hI h b j := congrArg Int32.toInt (i_ne hb)
theorem hI_nk {h : ea_H} {a k b j : Nat} {x : Int32} (hb : j ≠ k) : hI (ea_wi h a k x) b j = hI h b j := congrArg Int32.toInt (i_nk hb)
theorem hI_at {h : ea_H} {a k : Nat} {x : Int32} : hI (ea_wi h a k x) a k = x.toInt := congrArg Int32.toInt i_eq
theorem hI_row {h : ea_H} {a k j : Nat} {x : Int32} : hI (ea_wi h a k x) a j = if j = k then x.toInt else hI h a j := by
  rw [hI_wi]
  by_cases q : j = k
  · rw [if_pos ⟨rfl, q⟩, if_pos q]
  · rw [if_neg (fun z => q z.2), if_neg q]
theorem getD_app1 {E : List Nat} {y e : Nat} (h : e < E.length) : (E ++ [y]).getD e 0 = E.getD e 0 := by
  rw [List.getD_eq_getElem?_getD, List.getD_eq_getElem?_getD, List.getElem?_append_left h]
theorem getD_app2 {E : List Nat} {y : Nat} : (E ++ [y]).getD E.length 0 = y := by
  rw [List.getD_eq_getElem?_getD, List.getElem?_concat_length]
  rfl
section TB
variable {T : Nat → Nat → Nat → Nat}
def selOk (T : Nat → Nat → Nat → Nat) (nx : Nat → Nat) (o : Nat) (r : Int) : Prop := (r = -1 ∧ ∀ t d, t < tN T → d < 7 → 7 * t + d < o → ¬ tMore T t d (nx (7 * t + d))) ∨ ∃ t d, r = ((7 * t + d : Nat) : Int) ∧ t < tN T ∧ d < 7 ∧ tMore T t d (nx (7 * t + d)) ∧ ∀ t2 d2, t2 < tN T → d2 < 7 → 7 * t2 + d2 < o → tMore T t2 d2 (nx (7 * t2 + d2)) → ¬ tAh T nx t2 d2 t d
theorem m_sel (ok : tOk T) {nx : Nat → Nat} {P : Unit × ea_H → Prop} {h : ea_H} (hT : MTab h T) (hx : ∀ r, r < 70 → hI h 340 r = nx r) :
    ∀ (j o : Nat) (x1 x2 : Int32), o + j = 7 * tN T → x2.toInt = o → selOk T nx o x1.toInt →
      (∀ x1 x2 : Int32, x2.toInt = ((7 * tN T : Nat) : Int) → selOk T nx (7 * tN T) x1.toInt → sat (qX12_table_45 x1 x2 h) P) → sat (qX12_table_45 x1 x2 h) P := by
  intro j
  induction j with
  | zero =>
    intro o x1 x2 hj e2 hs K
    have ho : o = 7 * tN T := by omega
    exact K x1 x2 (ho ▸ e2) (ho ▸ hs)
  | succ j ih =>
    intro o x1 x2 hj e2 hs K
    have hn := ok.1
    obtain ⟨t, d, rfl, hd⟩ : ∃ t d, o = 7 * t + d ∧ d < 7 := ⟨o / 7, o % 7, by omega, by omega⟩
    have ht : t < tN T := by omega
    have hb : 7 * t + d < 70 := by omega
    have h7 : ((7 : Int32) * ea_i h 326 2).toInt = 7 * (tN T : Int) := by
      rw [n_mul, hI_eq, hT.1, l_7, n_bm (by omega) (by omega)]
    have e21 : (x2 + 1).toInt = ((7 * t + d + 1 : Nat) : Int) := by
      rw [n_add, e2, l_1, n_bm (by omega) (by omega)]
      omega
    obtain ⟨v, p, r⟩ := m_isMore e2 hT ok (by omega) hd (hx _ hb)
    refine uqX12_table_45 ?_
    unfold BX12_table_45
    refine sat_neg (by rw [n_le, h7, e2]; omega) (sat_call p ?_)
    have same : ∀ t2 d2, d2 < 7 → ¬ 7 * t2 + d2 < 7 * t + d → 7 * t2 + d2 < 7 * t + d + 1 → t2 = t ∧ d2 = d := by
      intro t2 d2 _ _ _
      omega
    rcases r with ⟨rfl, m⟩ | ⟨rfl, m⟩
    · refine sat_neg i1_ne_0 ?_
      rcases hs with ⟨e1, hno⟩ | ⟨t1, d1, e1, ht1, hd1, hm1, hmin⟩
      · have x1e : x1 = -1 := n_eq.mpr (by rw [e1]; rfl)
        refine sat_pos x1e (ih (7 * t + d + 1) x2 (x2 + 1) (by omega) e21 (Or.inr ⟨t, d, e2, ht, hd, m, fun t2 d2 a1 a2 a3 a4 => ?_⟩) K)
        by_cases q : 7 * t2 + d2 < 7 * t + d
        · exact absurd a4 (hno t2 d2 a1 a2 q)
        · obtain ⟨q1, q2⟩ := same t2 d2 a2 q a3
          rw [q1, q2]
          unfold tAh
          omega
      · have x1n : ¬ x1 = -1 := fun q => by
          rw [q] at e1
          have : (-1 : Int) = ((7 * t1 + d1 : Nat) : Int) := e1
          omega
        refine sat_neg x1n (sat_bind (m_isAheadOf e2 e1 hT ok (by omega) hd (by omega) hd1 (hx _ hb) (hx _ (by omega)) m hm1) fun y hy => ?_)
        obtain ⟨v2, h2⟩ := y
        obtain ⟨hy1, hy2⟩ := hy
        have hy1 : h2 = h := hy1
        subst hy1
        rcases hy2 with ⟨hv, hq⟩ | ⟨hv, hq⟩
        · have hv : v2 = 1 := hv
          subst hv
          refine sat_neg i1_ne_0 (ih (7 * t + d + 1) x2 (x2 + 1) (by omega) e21 (Or.inr ⟨t, d, e2, ht, hd, m, fun t2 d2 a1 a2 a3 a4 => ?_⟩) K)
          by_cases q : 7 * t2 + d2 < 7 * t + d
          · have := hmin t2 d2 a1 a2 q a4
            unfold tAh at this ⊢
            omega
          · obtain ⟨q1, q2⟩ := same t2 d2 a2 q a3
            rw [q1, q2]
            unfold tAh
            omega
        · have hv : v2 = 0 := hv
          subst hv
          refine sat_pos rfl (ih (7 * t + d + 1) x1 (x2 + 1) (by omega) e21 (Or.inr ⟨t1, d1, e1, ht1, hd1, hm1, fun t2 d2 a1 a2 a3 a4 => ?_⟩) K)
          by_cases q : 7 * t2 + d2 < 7 * t + d
          · exact hmin t2 d2 a1 a2 q a4
          · obtain ⟨q1, q2⟩ := same t2 d2 a2 q a3
            rw [q1, q2]
            exact hq
    · refine sat_pos rfl (ih (7 * t + d + 1) x1 (x2 + 1) (by omega) e21 ?_ K)
      rcases hs with ⟨e1, hno⟩ | ⟨t1, d1, e1, ht1, hd1, hm1, hmin⟩
      · refine Or.inl ⟨e1, fun t2 d2 a1 a2 a3 => ?_⟩
        by_cases q : 7 * t2 + d2 < 7 * t + d
        · exact hno t2 d2 a1 a2 q
        · obtain ⟨q1, q2⟩ := same t2 d2 a2 q a3
          rw [q1, q2]
          exact m
      · refine Or.inr ⟨t1, d1, e1, ht1, hd1, hm1, fun t2 d2 a1 a2 a3 a4 => ?_⟩
        by_cases q : 7 * t2 + d2 < 7 * t + d
        · exact hmin t2 d2 a1 a2 q a4
        · obtain ⟨q1, q2⟩ := same t2 d2 a2 q a3
          rw [q1, q2] at a4
          exact absurd a4 m
theorem m_tab41 (ok : tOk T) {P : Unit × ea_H → Prop} {h0 : ea_H} (K : ∀ h E, fq [(336, 340)] [((326, 326), 13, 13)] h0 h → MTab h T → mEv h E → tList T E → sat (qX12_table_188 (-1) h) P) :
    ∀ (n : Nat) (h : ea_H) (E : List Nat) (nx : Nat → Nat), E.length + n = 981 → sInv T h E nx → fq [(336, 340)] [((326, 326), 13, 13)] h0 h → sat (qX12_table_41 h) P := by
  intro n
  induction n with
  | zero =>
    intro h E nx hn s f
    have := t_len ok (t_nodup s.2.2.2.2.1) fun x hx => ((s.2.2.2.2.2.1 x).mp hx).1
    omega
  | succ n ih =>
    intro h E nx hn s f
    have hn10 := ok.1
    obtain ⟨s1, s2, s3, s4, s5, s6, s7⟩ := s
    have hlen := t_len ok (t_nodup s5) fun x hx => ((s6 x).mp hx).1
    refine uqX12_table_41 ?_
    unfold BX12_table_41
    refine m_sel ok s1 s3 (7 * tN T) 0 (-1) 0 (by omega) rfl (Or.inl ⟨rfl, fun t d _ _ q => absurd q (Nat.not_lt_zero _)⟩) fun x1 x2 e2 hsel => ?_
    have h7 : ((7 : Int32) * ea_i h 326 2).toInt = 7 * (tN T : Int) := by
      rw [n_mul, hI_eq, s1.1, l_7, n_bm (by omega) (by omega)]
    refine uqX12_table_45 ?_
    unfold BX12_table_45
    refine sat_pos (by rw [n_le, h7, e2]; omega) ?_
    rcases hsel with ⟨e1, hno⟩ | ⟨t, d, e1, ht, hd, hm, hmin⟩
    · have x1e : x1 = -1 := n_eq.mpr (by rw [e1]; rfl)
      refine sat_pos x1e ?_
      rw [x1e]
      refine K h E f s1 s2 ⟨s5, fun x => ⟨fun hx => ((s6 x).mp hx).1, fun hx => ?_⟩⟩
      by_cases q : kNo x < nx (7 * kT x + kD x)
      · exact (s6 x).mpr ⟨hx, q⟩
      · have h1 := (h_head ok hx (Nat.not_lt.mp q)).1
        have hx1 := hx.1
        have hx2 := hx.2.1
        exact absurd h1 (hno (kT x) (kD x) hx1 hx2 (by omega))
    · have x1n : ¬ x1 = -1 := fun q => by
        rw [q] at e1
        have : (-1 : Int) = ((7 * t + d : Nat) : Int) := e1
        omega
      refine sat_neg x1n ?_
      have hb : 7 * t + d < 70 := by omega
      have ic : x1.toNatClampNeg = 7 * t + d := by
        rw [n_idx, e1]
        rfl
      have kv : (ea_i h 340 x1.toNatClampNeg).toInt = nx (7 * t + d) := by
        rw [hI_eq, ic]
        exact s3 _ hb
      have hs := ok.2.1 t (by omega)
      have hm1 := hm.1
      obtain ⟨v, p, r⟩ := m_minuteOf e1 kv s1 ok (by omega) hd (Nat.lt_of_lt_of_le hm.1 (Nat.le_add_right _ _))
      have cv : (ea_i h 326 13).toInt = E.length := s2.1
      have cn : (ea_i h 326 13).toNatClampNeg = E.length := by
        rw [n_idx, cv]
        rfl
      refine sat_gd (vp80 e1 hb) (sat_call p (sat_gd (vp80 cv (by omega)) (sat_let fun H10 e10 => sat_gd (vp80 e1 hb) ?_)))
      have e10 : H10 = ea_wi h 336 E.length v := by
        rw [e10, cn]
      have key138 : ∀ s0 : Int32, s0.toInt = ((1 - nx (7 * t + d) % 2 : Nat) : Int) → sat (qX12_table_138 x1 s0 (ea_i H10 326 13) H10) P := by
        intro s0 hs0
        have c10 : ea_i H10 326 13 = ea_i h 326 13 := by
          rw [e10]
          exact i_ne (by decide)
        have k10 : ea_i H10 340 x1.toNatClampNeg = ea_i h 340 x1.toNatClampNeg := by
          rw [e10]
          exact i_ne (by decide)
        refine uqX12_table_138 ?_
        unfold BX12_table_138
        rw [c10]
        refine sat_gd (vp80 cv (by omega)) (sat_let fun H21 e21 => ?_)
        rw [cn] at e21
        have c21 : ea_i H21 326 13 = ea_i h 326 13 := by
          rw [e21]
          exact (i_ne (by decide)).trans c10
        have k21 : ea_i H21 340 x1.toNatClampNeg = ea_i h 340 x1.toNatClampNeg := by
          rw [e21]
          exact (i_ne (by decide)).trans k10
        rw [c21]
        refine sat_gd (vp80 cv (by omega)) (sat_let fun H23 e23 => ?_)
        rw [cn] at e23
        have c23 : ea_i H23 326 13 = ea_i h 326 13 := by
          rw [e23]
          exact (i_ne (by decide)).trans c21
        have k23 : ea_i H23 340 x1.toNatClampNeg = ea_i h 340 x1.toNatClampNeg := by
          rw [e23]
          exact (i_ne (by decide)).trans k21
        rw [c23, k23]
        refine sat_gd (vp80 e1 hb) (sat_gd (vp80 cv (by omega)) (sat_let fun H26 e26 => ?_))
        rw [cn] at e26
        have c26 : ea_i H26 326 13 = ea_i h 326 13 := by
          rw [e26]
          exact (i_ne (by decide)).trans c23
        have k26 : ea_i H26 340 x1.toNatClampNeg = ea_i h 340 x1.toNatClampNeg := by
          rw [e26]
          exact (i_ne (by decide)).trans k23
        rw [c26]
        refine sat_let fun H27 e27 => ?_
        have k27 : ea_i H27 340 x1.toNatClampNeg = ea_i h 340 x1.toNatClampNeg := by
          rw [e27]
          exact (i_ne (by decide)).trans k26
        rw [k27]
        refine sat_gd (vp80 e1 hb) (sat_gd (vp80 e1 hb) (sat_let fun H30 e30 => ?_))
        rw [ic] at e30
        have f10 : fq [(336, 340)] [((326, 326), 13, 13)] h H10 := by
          rw [e10]
          exact fq_wi rfl
        have f21 : fq [(336, 340)] [((326, 326), 13, 13)] H10 H21 := by
          rw [e21]
          exact fq_wi rfl
        have f23 : fq [(336, 340)] [((326, 326), 13, 13)] H21 H23 := by
          rw [e23]
          exact fq_wi rfl
        have f26 : fq [(336, 340)] [((326, 326), 13, 13)] H23 H26 := by
          rw [e26]
          exact fq_wi rfl
        have f27 : fq [(336, 340)] [((326, 326), 13, 13)] H26 H27 := by
          rw [e27]
          exact fq_wf rfl
        have f30 : fq [(336, 340)] [((326, 326), 13, 13)] H27 H30 := by
          rw [e30]
          exact fq_wi rfl
        have fA := f10.tr (f21.tr (f23.tr (f26.tr (f27.tr f30))))
        have i336 : ∀ e, hI H30 336 e = if e = E.length then v.toInt else hI h 336 e := by
          intro e
          rw [e30, hI_ne (by decide), e27, hI_ne (by decide), e26, hI_ne (by decide), e23, hI_ne (by decide), e21, hI_ne (by decide), e10, hI_row]
        have i337 : ∀ e, hI H30 337 e = if e = E.length then s0.toInt else hI h 337 e := by
          intro e
          rw [e30, hI_ne (by decide), e27, hI_ne (by decide), e26, hI_ne (by decide), e23, hI_ne (by decide), e21, hI_row, e10, hI_ne (by decide)]
        have i338 : ∀ e, hI H30 338 e = if e = E.length then x1.toInt else hI h 338 e := by
          intro e
          rw [e30, hI_ne (by decide), e27, hI_ne (by decide), e26, hI_ne (by decide), e23, hI_row, e21, hI_ne (by decide), e10, hI_ne (by decide)]
        have i339 : ∀ e, hI H30 339 e = if e = E.length then ((ea_i h 340 x1.toNatClampNeg + 1) / (2 : Int32)).toInt else hI h 339 e := by
          intro e
          rw [e30, hI_ne (by decide), e27, hI_ne (by decide), e26, hI_row, e23, hI_ne (by decide), e21, hI_ne (by decide), e10, hI_ne (by decide)]
        have i340 : ∀ e, hI H30 340 e = if e = 7 * t + d then (ea_i h 340 x1.toNatClampNeg + 1).toInt else hI h 340 e := by
          intro e
          rw [e30, hI_row, e27, hI_ne (by decide), e26, hI_ne (by decide), e23, hI_ne (by decide), e21, hI_ne (by decide), e10, hI_ne (by decide), ic]
        have i13 : hI H30 326 13 = (ea_i h 326 13 + 1).toInt := by
          rw [e30, hI_ne (by decide), e27, hI_at]
        have kv1 : (ea_i h 340 x1.toNatClampNeg + 1).toInt = ((nx (7 * t + d) + 1 : Nat) : Int) := by
          rw [n_add, kv, l_1, n_bm (by omega) (by omega)]
          omega
        obtain ⟨a1, a2, a3, a4, a5⟩ := h_of (T := T) (t := t) (d := d) (k := nx (7 * t + d)) (by omega) hd (by omega)
        obtain ⟨b1, b2⟩ := h_key ok ht hd hm
        have hnE : hKey T t d (nx (7 * t + d)) ∉ E := fun q => by
          have := ((s6 _).mp q).2
          rw [a3, a4, b2] at this
          exact absurd this (Nat.lt_irrefl _)
        refine uqX12_table_188 ?_
        unfold BX12_table_188
        refine sat_neg x1n (ih H30 (E ++ [hKey T t d (nx (7 * t + d))]) (fun r => if r = 7 * t + d then nx r + 1 else nx r) (by rw [List.length_append, List.length_singleton]; omega) ⟨?_, ⟨?_, ?_⟩, ?_, ?_, ?_, ?_, ?_⟩ (f.tr fA))
        · exact s1.fq fA rfl rfl ⟨rfl, rfl⟩ ⟨rfl, rfl⟩ ⟨rfl, rfl⟩ ⟨rfl, rfl⟩ ⟨rfl, rfl⟩
        · rw [i13, n_add, cv, l_1, n_bm (by omega) (by omega), List.length_append, List.length_singleton]
          omega
        · intro e he
          rw [List.length_append, List.length_singleton] at he
          by_cases q : e < E.length
          · rw [getD_app1 q, i336, i337, i338, i339, if_neg (by omega), if_neg (by omega), if_neg (by omega), if_neg (by omega)]
            exact s2.2 e q
          · have qe : e = E.length := by omega
            rw [qe, getD_app2, i336, i337, i338, i339, if_pos rfl, if_pos rfl, if_pos rfl, if_pos rfl, a1, a2, a3, a4, a5]
            refine ⟨r, hs0, e1, ?_⟩
            rw [n_div2 (by omega), kv1]
            omega
        · intro r hr
          rw [i340]
          show _ = ((if r = 7 * t + d then nx r + 1 else nx r : Nat) : Int)
          by_cases q : r = 7 * t + d
          · rw [if_pos q, if_pos q, kv1, q]
          · rw [if_neg q, if_neg q]
            exact s3 r hr
        · intro r
          show (if r = 7 * t + d then nx r + 1 else nx r) ≤ 14
          have := s4 r
          split
          · rename_i q
            rw [q]
            omega
          · exact this
        · refine List.pairwise_append.mpr ⟨s5, List.pairwise_singleton _ _, fun x hx y hy => ?_⟩
          rw [List.mem_singleton.mp hy]
          exact s7 x hx _ b1 hnE
        · intro x
          show _ ↔ tKey T x ∧ kNo x < (if 7 * kT x + kD x = 7 * t + d then nx (7 * kT x + kD x) + 1 else nx (7 * kT x + kD x))
          rw [List.mem_append, List.mem_singleton]
          constructor
          · rintro (q | q)
            · obtain ⟨q1, q2⟩ := (s6 x).mp q
              refine ⟨q1, ?_⟩
              split <;> omega
            · rw [q, a3, a4, b2, if_pos rfl]
              exact ⟨b1, Nat.lt_succ_self _⟩
          · rintro ⟨q1, q2⟩
            by_cases z : kNo x < nx (7 * kT x + kD x)
            · exact Or.inl ((s6 x).mpr ⟨q1, z⟩)
            · right
              by_cases w : 7 * kT x + kD x = 7 * t + d
              · rw [if_pos w] at q2
                have x2 := q1.2.1
                have w1 : kT x = t := by omega
                have w2 : kD x = d := by omega
                have w3 : kNo x = nx (7 * t + d) := by
                  rw [← w]
                  omega
                rw [(h_num q1).1, w1, w2, w3]
              · rw [if_neg w] at q2
                exact absurd q2 z
        · intro x hx y hy hyE
          rw [List.mem_append, not_or, List.mem_singleton] at hyE
          rcases List.mem_append.mp hx with q | q
          · exact s7 x q y hy hyE.1
          · rw [List.mem_singleton.mp q]
            have z : ¬ kNo y < nx (7 * kT y + kD y) := fun z => hyE.1 ((s6 y).mpr ⟨hy, z⟩)
            obtain ⟨w1, w2⟩ := h_head ok hy (Nat.not_lt.mp z)
            have hy1 := hy.1
            have hy2 := hy.2.1
            have w3 := h_ord ok ht hy1 hd hy2 hm w1 (hmin (kT y) (kD y) hy1 hy2 (by omega) w1)
            exact Nat.lt_of_le_of_ne (Nat.le_trans w3 w2) fun z => hyE.2 z.symm
      have k10 : ea_i H10 340 x1.toNatClampNeg = ea_i h 340 x1.toNatClampNeg := by
        rw [e10]
        exact i_ne (by decide)
      have m1 : (ea_i h 340 x1.toNatClampNeg - ea_i h 340 x1.toNatClampNeg / (2 : Int32) * (2 : Int32)).toInt = (nx (7 * t + d) : Int) % 2 := by
        rw [n_mod2 (by omega), kv]
      rw [k10]
      by_cases q : nx (7 * t + d) % 2 = 0
      · exact sat_pos (n_eq.mpr (by rw [m1, l_0]; omega)) (key138 1 (by rw [l_1]; omega))
      · exact sat_neg (fun z => q (by have := n_eq.mp z; rw [m1, l_0] at this; omega)) (key138 0 (by rw [l_0]; omega))
end TB
