/-! robberies: what is known of them; the call robbery -/
def rbP (h : ea_H) (X : Nat → Nat → Int) (i l : Nat) : Prop := X 0 l = 4 ∧ hI h 75 l = i
/-- what the letters of P owe -/
noncomputable def owS (h : ea_H) (P : Nat → Prop) : Nat → Int32
  | 0 => 0
  | l + 1 => @ite _ (P l) (Classical.propDecidable _) (owS h P l + owI h l) (owS h P l)
def SRb (h : ea_H) (m : Nat) (X : Nat → Nat → Int) : Prop := ∃ k : Nat, (hI h 0 13 = k ∧ hI h 326 100 = k ∧ k ≤ 20) ∧ (∀ l, l < m → X 0 l = 4 → 0 ≤ hI h 75 l ∧ hI h 75 l < k) ∧
  (∀ i, i < k → hI h 73 i = hI h 399 i ∧ hI h 74 i = hI h 400 i ∧ hI h 401 i = cnt (rbP h X i) m ∧ hI h 402 i = (owS h (rbP h X i) m).toInt ∧ ∀ j : Nat, (j : Int) < cnt (rbP h X i) m → hI h 403 (120 * i + j) = acN (rbP h X i) j m) ∧ ∀ i, k ≤ i → i < 20 → hI h 401 i = 0 ∧ hI h 402 i = 0
section RBS
variable {T : Nat → Nat → Nat → Nat} {m n : Nat} {X Y G : Nat → Nat → Int} {h h' : ea_H} {P Q : Nat → Prop}
theorem owS_cg : ∀ j, (∀ l, l < j → (P l ↔ Q l) ∧ owI h' l = owI h l) → owS h' P j = owS h Q j := by
  intro j
  induction j with
  | zero => exact fun _ => rfl
  | succ j ih =>
    intro e
    have e1 := e j (Nat.lt_succ_self j)
    show @ite _ (P j) (Classical.propDecidable _) (owS h' P j + owI h' j) (owS h' P j) = @ite _ (Q j) (Classical.propDecidable _) (owS h Q j + owI h j) (owS h Q j)
    rw [ih fun l hl => e l (by omega), e1.2]
    by_cases q : Q j
    · rw [if_pos q, if_pos (e1.1.mpr q)]
    · rw [if_neg q, if_neg (fun z => q (e1.1.mp z))]
theorem acN_cg {k : Int} : ∀ j, (∀ l, l < j → (P l ↔ Q l)) → acN P k j = acN Q k j := by
  intro j
  induction j with
  | zero => exact fun _ => rfl
  | succ j ih =>
    intro e
    have e1 := e j (Nat.lt_succ_self j)
    have e2 : cnt P j = cnt Q j := cnt_eq fun l hl => e l (by omega)
    show @ite _ (P j ∧ cnt P j = k) (Classical.propDecidable _) (j : Int) (acN P k j) = @ite _ (Q j ∧ cnt Q j = k) (Classical.propDecidable _) (j : Int) (acN Q k j)
    rw [ih fun l hl => e l (by omega), e2]
    by_cases q : Q j ∧ cnt Q j = k
    · rw [if_pos q, if_pos ⟨e1.mpr q.1, q.2⟩]
    · rw [if_neg q, if_neg (fun z => q ⟨e1.mp z.1, z.2⟩)]
theorem acN_none {k : Int} : ∀ j, cnt P j ≤ k → acN P k j = -1 := by
  intro j
  induction j with
  | zero => exact fun _ => rfl
  | succ j ih =>
    intro hk
    rw [cnt_s] at hk
    have b := one_b (P j)
    refine (if_neg fun z => ?_).trans (ih (by omega))
    rw [one_pos z.1] at hk
    omega
theorem SRb.re (s : keq [(73, 75), (399, 403)] [((0, 0), 13, 13), ((326, 326), 100, 100)] h h') (ow : ∀ l, l < m → owI h' l = owI h l) (e : rb4 m X Y) (c : SRb h m X) : SRb h' m Y := by
  obtain ⟨k, ⟨c1, c2, c3⟩, c4, c5, c6⟩ := c
  have iff : ∀ i l, l < m → (rbP h' Y i l ↔ rbP h X i l) := fun i l hl => by
    unfold rbP
    rw [s.W 75 rfl, e l hl]
  refine ⟨k, ⟨(s.V 0 13 rfl).trans c1, (s.V 326 100 rfl).trans c2, c3⟩, fun l hl z => ?_, fun i hi => ?_, fun i hi hi2 => ?_⟩
  · rw [s.W 75 rfl]
    exact c4 l hl ((e l hl).mp z)
  · obtain ⟨d1, d2, d3, d4, d5⟩ := c5 i hi
    have ce : cnt (rbP h' Y i) m = cnt (rbP h X i) m := cnt_eq fun l hl => iff i l hl
    rw [s.W 73 rfl, s.W 399 rfl, s.W 74 rfl, s.W 400 rfl, s.W 401 rfl, s.W 402 rfl, ce, owS_cg (h := h) (Q := rbP h X i) m fun l hl => ⟨iff i l hl, ow l hl⟩]
    refine ⟨d1, d2, d3, d4, fun j hj => ?_⟩
    rw [s.W 403 rfl, acN_cg (Q := rbP h X i) m fun l hl => iff i l hl]
    exact d5 j hj
  · rw [s.W 401 rfl, s.W 402 rfl]
    exact c6 i hi hi2
theorem owI_kq (s : keq [(364, 364), (374, 374)] [] h h') (l : Nat) : owI h' l = owI h l := by
  unfold owI
  have a : ea_i h' 374 l = ea_i h 374 l := n_eq.mpr (s.W 374 rfl l)
  rw [s.W 364 rfl, a]
theorem SRb.kq (s : keq [(73, 75), (364, 364), (374, 374), (399, 403)] [((0, 0), 13, 13), ((326, 326), 100, 100)] h h') (e : rb4 m X Y) (c : SRb h m X) : SRb h' m Y := SRb.re (s.sub rfl rfl) (fun l _ => owI_kq (s.sub rfl rfl) l) e c
theorem SRb.suc (c : SRb h m X) (h4 : X 0 m ≠ 4) : SRb h (m + 1) X := by
  obtain ⟨k, c1, c4, c5, c6⟩ := c
  have no : ∀ i, ¬ rbP h X i m := fun i z => h4 z.1
  refine ⟨k, c1, fun l hl z => c4 l ?_ z, fun i hi => ?_, c6⟩
  · apply Nat.lt_of_le_of_ne (by omega)
    intro q
    rw [q] at z
    exact h4 z
  · obtain ⟨d1, d2, d3, d4, d5⟩ := c5 i hi
    have ce : cnt (rbP h X i) (m + 1) = cnt (rbP h X i) m := by rw [cnt_s, one_neg (no i), Int.add_zero]
    refine ⟨d1, d2, d3.trans ce.symm, d4.trans ?_, fun j hj => ?_⟩
    · exact congrArg Int32.toInt (if_neg (no i)).symm
    · rw [ce] at hj
      exact (d5 j hj).trans (if_neg fun z => no i z.1).symm
noncomputable def rbF (h : ea_H) (X : Nat → Nat → Int) (m i : Nat) (w : Int) : Int :=
  if w = 0 then hI h 399 i else if w = 1 then hI h 400 i else if w = 2 then cnt (rbP h X i) m else if w = 3 then (owS h (rbP h X i) m).toInt else if 10 ≤ w then acN (rbP h X i) (w - 10) m else -1
theorem c_isTaken (rc : RC52 m X h) {x1 x2 : Int32} {l i : Nat} (e1 : x1.toInt = l) (e2 : x2.toInt = i) (hl : l < m) : ∃ v, qX11_isTaken x1 x2 h = some (v, h) ∧ ((v = 1 ∧ rbP h X i l) ∨ (v = 0 ∧ ¬ rbP h X i l)) := by
  have hm := rc.1.2
  have g1 := vp80 e1 (show l < 120 by omega)
  have ic : x1.toNatClampNeg = l := by
    rw [n_idx, e1]
    rfl
  have v53 : (ea_i h 53 l).toInt = X 0 l := (rc.2.1 l hl).1
  have v75 : (ea_i h 75 l).toInt = hI h 75 l := rfl
  have H : sat (qX11_isTaken x1 x2 h) fun y => y.2 = h ∧ ((y.1 = 1 ∧ rbP h X i l) ∨ (y.1 = 0 ∧ ¬ rbP h X i l)) := by
    unfold qX11_isTaken BX11_isTaken_0
    rw [ic]
    refine sat_gd g1 (sat_ite (fun z => ?_) fun z => ?_)
    · rw [n_eq, v53, l_4] at z
      refine sat_gd g1 (sat_ite (fun w => ?_) fun w => ?_)
      · rw [n_eq, v75, e2] at w
        exact sat_ret ⟨rfl, Or.inl ⟨rfl, z, w⟩⟩
      · rw [n_eq, v75, e2] at w
        exact sat_ret ⟨rfl, Or.inr ⟨rfl, fun k => w k.2⟩⟩
    · rw [n_eq, v53, l_4] at z
      exact sat_ret ⟨rfl, Or.inr ⟨rfl, fun k => z k.1⟩⟩
  obtain ⟨⟨v, h2⟩, q1, q2, q3⟩ := H
  have q2 : h2 = h := q2
  subst q2
  exact ⟨v, q1, q3⟩
theorem c_taken (rc : RC52 m X h) {x1 : Int32} {i : Nat} (e1 : x1.toInt = i) : sat (qX11_taken x1 h) fun y => y.2 = h ∧ y.1.toInt = cnt (rbP h X i) m := by
  have r0 := rc.1.1
  have r1 := rc.1.2
  have H : ∀ (j e : Nat) (x2 x3 : Int32), e + j = m → x3.toInt = e → x2.toInt = cnt (rbP h X i) e → sat (qX11_taken_4 x1 x2 x3 h) fun y => y.2 = h ∧ y.1.toInt = cnt (rbP h X i) m := by
    intro j
    induction j with
    | zero =>
      intro e x2 x3 he e3 e2
      refine uqX11_taken_4 ?_
      unfold BX11_taken_4
      refine sat_pos (by rw [n_le, hI_eq, r0, e3]; omega) (sat_ret ⟨rfl, ?_⟩)
      rw [show m = e by omega]
      exact e2
    | succ j ih =>
      intro e x2 x3 he e3 e2
      obtain ⟨v, p, q⟩ := c_isTaken rc e3 e1 (show e < m by omega)
      have cb := cnt_b (rbP h X i) e
      refine uqX11_taken_4 ?_
      unfold BX11_taken_4
      refine sat_neg (by rw [n_le, hI_eq, r0, e3]; omega) (sat_call p ?_)
      rcases q with ⟨q1, q2⟩ | ⟨q1, q2⟩
      · refine sat_neg (by rw [q1]; exact i1_ne_0) (ih (e + 1) (x2 + 1) (x3 + 1) (by omega) (n_inc e3 (by omega)) ?_)
        rw [cnt_s, one_pos q2, n_add, e2, l_1, n_bm (by omega) (by omega)]
      · refine sat_pos q1 (ih (e + 1) x2 (x3 + 1) (by omega) (n_inc e3 (by omega)) ?_)
        rw [cnt_s, one_neg q2, e2]
        omega
  unfold qX11_taken
  refine uqX11_taken_0 ?_
  unfold BX11_taken_0
  exact H m 0 0 0 (by omega) rfl rfl
theorem c_owedOfTaken (hs : ShC h) (rc : RC52 m X h) (s : SLs h m) (sc : SLc h m) {x1 : Int32} {i : Nat} (e1 : x1.toInt = i) : sat (qX11_owedOfTaken x1 h) fun y => y.2 = h ∧ y.1 = owS h (rbP h X i) m := by
  have r0 := rc.1.1
  have r1 := rc.1.2
  have H : ∀ (j e : Nat) (x2 x3 : Int32), e + j = m → x3.toInt = e → x2 = owS h (rbP h X i) e → sat (qX11_owedOfTaken_4 x1 x2 x3 h) fun y => y.2 = h ∧ y.1 = owS h (rbP h X i) m := by
    intro j
    induction j with
    | zero =>
      intro e x2 x3 he e3 e2
      refine uqX11_owedOfTaken_4 ?_
      unfold BX11_owedOfTaken_4
      refine sat_pos (by rw [n_le, hI_eq, r0, e3]; omega) (sat_ret ⟨rfl, ?_⟩)
      rw [show m = e by omega]
      exact e2
    | succ j ih =>
      intro e x2 x3 he e3 e2
      have he' : e < m := by omega
      obtain ⟨v, p, q⟩ := c_isTaken rc e3 e1 he'
      obtain ⟨k1, k2⟩ := ltr_ref hs (show e < 120 by omega)
      have ic : x3.toNatClampNeg = e := by
        rw [n_idx, e3]
        rfl
      refine uqX11_owedOfTaken_4 ?_
      unfold BX11_owedOfTaken_4
      refine sat_neg (by rw [n_le, hI_eq, r0, e3]; omega) (sat_call p ?_)
      rcases q with ⟨q1, q2⟩ | ⟨q1, q2⟩
      · dsimp only
        rw [ic, k1]
        refine sat_neg (by rw [q1]; exact i1_ne_0) (sat_gd (vp80 e3 (by omega)) (sat_gd rfl (sat_gd k2 (sat_call (c_owed hs s sc he' r1) (ih (e + 1) _ (x3 + 1) (by omega) (n_inc e3 (by omega)) ?_)))))
        show x2 + owI h e = _
        rw [e2]
        exact (if_pos q2).symm
      · refine sat_pos q1 (ih (e + 1) x2 (x3 + 1) (by omega) (n_inc e3 (by omega)) ?_)
        rw [e2]
        exact (if_neg q2).symm
  unfold qX11_owedOfTaken
  refine uqX11_owedOfTaken_0 ?_
  unfold BX11_owedOfTaken_0
  exact H m 0 0 0 (by omega) rfl rfl
theorem c_takenLetter (rc : RC52 m X h) {x1 x2 : Int32} {i : Nat} {k : Int} (e1 : x1.toInt = i) (e2 : x2.toInt = k) : sat (qX11_takenLetter x1 x2 h) fun y => y.2 = h ∧ y.1.toInt = acN (rbP h X i) k m := by
  have r0 := rc.1.1
  have r1 := rc.1.2
  have H : ∀ (j e : Nat) (x3 x4 : Int32), e + j = m → x4.toInt = e → x3.toInt = cnt (rbP h X i) e → acN (rbP h X i) k e = -1 → sat (qX11_takenLetter_5 x1 x2 x3 x4 h) fun y => y.2 = h ∧ y.1.toInt = acN (rbP h X i) k m := by
    intro j
    induction j with
    | zero =>
      intro e x3 x4 he e4 e3 en
      refine uqX11_takenLetter_5 ?_
      unfold BX11_takenLetter_5
      refine sat_pos (by rw [n_le, hI_eq, r0, e4]; omega) (sat_ret ⟨rfl, ?_⟩)
      rw [show m = e by omega]
      exact en.symm
    | succ j ih =>
      intro e x3 x4 he e4 e3 en
      obtain ⟨v, p, q⟩ := c_isTaken rc e4 e1 (show e < m by omega)
      have cb := cnt_b (rbP h X i) e
      refine uqX11_takenLetter_5 ?_
      unfold BX11_takenLetter_5
      refine sat_neg (by rw [n_le, hI_eq, r0, e4]; omega) (sat_call p ?_)
      rcases q with ⟨q1, q2⟩ | ⟨q1, q2⟩
      · refine sat_neg (by rw [q1]; exact i1_ne_0) (sat_ite (fun z => ?_) fun z => ?_)
        · rw [n_eq, e3, e2] at z
          refine sat_ret ⟨rfl, e4.trans ?_⟩
          have := (acN_at q2 z j).1
          rw [show e + 1 + j = m by omega] at this
          exact this.symm
        · rw [n_eq, e3, e2] at z
          refine ih (e + 1) (x3 + 1) (x4 + 1) (by omega) (n_inc e4 (by omega)) ?_ ((if_neg fun u => z u.2).trans en)
          rw [cnt_s, one_pos q2, n_add, e3, l_1, n_bm (by omega) (by omega)]
      · refine sat_pos q1 (ih (e + 1) x3 (x4 + 1) (by omega) (n_inc e4 (by omega)) ?_ ((if_neg fun u => q2 u.1).trans en))
        rw [cnt_s, one_neg q2, e3]
        omega
  unfold qX11_takenLetter
  refine uqX11_takenLetter_0 ?_
  unfold BX11_takenLetter_0
  exact H m 0 0 0 (by omega) rfl rfl rfl
theorem call_robbery (hs : ShC h) (rc : RC52 m X h) (s : SLs h m) (sc : SLc h m) (rb : SRb h m X) (x1 x2 : Int32) : tw (qX11_robbery x1 x2 h) (qX12_robbery x1 x2) fun h' => h' = h := by
  obtain ⟨k, ⟨c1, c2, c3⟩, c4, c5, c6⟩ := rb
  have hm := rc.1.2
  have no : ¬ (0 ≤ x1.toInt ∧ x1.toInt < k) → sat (some ((-1 : Int32), h)) fun y => sat (qX12_robbery x1 x2 y.2) fun z => y.1 = z.1 ∧ z.2 = h := by
    intro hc
    refine sat_ret ?_
    show sat (qX12_robbery x1 x2 h) _
    have v100 : (ea_i h 326 100).toInt = k := c2
    unfold qX12_robbery BX12_robbery_0
    obtain ⟨v, p, q⟩ := m_isIn x1 0 (ea_i h 326 100 - 1) h
    rw [l_0, n_pred (by omega), v100] at q
    refine sat_call p ?_
    rcases q with ⟨q1, q2⟩ | ⟨q1, q2⟩
    · exact sat_pos q1 (sat_ret ⟨rfl, rfl⟩)
    · omega
  have v13 : (ea_i h 0 13).toInt = k := c1
  unfold tw qX11_robbery BX11_robbery_0
  refine sat_ite (fun z => ?_) fun z => ?_
  · rw [n_lt, l_0] at z
    exact no (by omega)
  rw [n_lt, l_0] at z
  refine sat_eti (fun w => ?_) fun w => ?_
  · rw [n_lt, v13] at w
    exact no (by omega)
  rw [n_lt, v13] at w
  obtain ⟨i, e1⟩ : ∃ i : Nat, x1.toInt = i := ⟨x1.toInt.toNat, by omega⟩
  have hi : i < k := by omega
  have g1 := vp80 e1 (show i < 20 by omega)
  have ic : x1.toNatClampNeg = i := by
    rw [n_idx, e1]
    rfl
  obtain ⟨d1, d2, d3, d4, d5⟩ := c5 i hi
  have cb := cnt_b (rbP h X i) m
  have ref : sat (qX12_robbery x1 x2 h) fun z => z.2 = h ∧ z.1.toInt = rbF h X m i x2.toInt := by
    have v100 : (ea_i h 326 100).toInt = k := c2
    have v401 : (ea_i h 401 i).toInt = cnt (rbP h X i) m := d3
    unfold qX12_robbery BX12_robbery_0
    rw [ic]
    obtain ⟨v, p, q⟩ := m_isIn x1 0 (ea_i h 326 100 - 1) h
    rw [l_0, n_pred (by omega), v100] at q
    refine sat_call p ?_
    rcases q with ⟨q1, q2⟩ | ⟨q1, q2⟩
    · omega
    refine sat_neg (by rw [q1]; exact i1_ne_0) ?_
    unfold rbF
    refine sat_ite (fun u => ?_) fun u0 => ?_
    · rw [if_pos u]
      exact sat_gd g1 (sat_ret ⟨rfl, rfl⟩)
    rw [if_neg u0]
    refine sat_ite (fun u => ?_) fun u1 => ?_
    · rw [if_pos u]
      exact sat_gd g1 (sat_ret ⟨rfl, rfl⟩)
    rw [if_neg u1]
    refine sat_ite (fun u => ?_) fun u2 => ?_
    · rw [if_pos u]
      exact sat_gd g1 (sat_ret ⟨rfl, d3⟩)
    rw [if_neg u2]
    refine sat_ite (fun u => ?_) fun u3 => ?_
    · rw [if_pos u]
      exact sat_gd g1 (sat_ret ⟨rfl, d4⟩)
    rw [if_neg u3]
    have v9 : ((9 : Int32) + ea_i h 401 i).toInt = 9 + cnt (rbP h X i) m := by rw [n_add, v401, l_9, n_bm (by omega) (by omega)]
    obtain ⟨v3, p3, q3⟩ := m_isIn x2 10 ((9 : Int32) + ea_i h 401 i) h
    rw [l_10, v9] at q3
    refine sat_gd g1 (sat_call p3 ?_)
    rcases q3 with ⟨r1, r2⟩ | ⟨r1, r2⟩
    · refine sat_pos r1 (sat_ret ⟨rfl, ?_⟩)
      by_cases u : 10 ≤ x2.toInt
      · rw [if_pos u, acN_none m (by omega)]
        rfl
      · rw [if_neg u]
        rfl
    · have e2 : ((120 : Int32) * x1 + x2 - (10 : Int32)).toInt = ((120 * i + (x2.toInt - 10).toNat : Nat) : Int) := by
        rw [n_sub, n_add, n_mul, e1, l_120, l_10, n_bm (z := 120 * (i : Int)) (by omega) (by omega), n_bm (z := 120 * (i : Int) + x2.toInt) (by omega) (by omega), n_bm (by omega) (by omega)]
        omega
      have ic2 : ((120 : Int32) * x1 + x2 - (10 : Int32)).toNatClampNeg = 120 * i + (x2.toInt - 10).toNat := by
        rw [n_idx, e2]
        rfl
      refine sat_neg (by rw [r1]; exact i1_ne_0) (sat_gd (vp80 e2 (by omega)) (sat_ret ⟨rfl, ?_⟩))
      show (ea_i h 403 (((120 : Int32) * x1 + x2 - (10 : Int32)).toNatClampNeg)).toInt = _
      rw [if_pos (by omega), ic2]
      have := d5 (x2.toInt - 10).toNat (by omega)
      rw [show (((x2.toInt - 10).toNat : Nat) : Int) = x2.toInt - 10 by omega] at this
      exact this
  have fin : ∀ (A : Option (Int32 × ea_H)), sat A (fun y => y.2 = h ∧ y.1.toInt = rbF h X m i x2.toInt) → sat A fun y => sat (qX12_robbery x1 x2 y.2) fun z => y.1 = z.1 ∧ z.2 = h := fun A hA => by
    refine sat_mono hA fun y hy => ?_
    rw [hy.1]
    exact sat_mono ref fun z hz => ⟨n_eq.mpr (hy.2.trans hz.2.symm), hz.1⟩
  refine fin _ ?_
  rw [ic]
  unfold rbF
  refine sat_ite (fun u => ?_) fun u0 => ?_
  · rw [if_pos u]
    exact sat_gd g1 (sat_ret ⟨rfl, d1⟩)
  rw [if_neg u0]
  refine sat_ite (fun u => ?_) fun u1 => ?_
  · rw [if_pos u]
    exact sat_gd g1 (sat_ret ⟨rfl, d2⟩)
  rw [if_neg u1]
  refine sat_ite (fun u => ?_) fun u2 => ?_
  · rw [if_pos u]
    exact sat_bind (c_taken rc e1) fun y hy => sat_ret hy
  rw [if_neg u2]
  refine sat_ite (fun u => ?_) fun u3 => ?_
  · rw [if_pos u]
    exact sat_bind (c_owedOfTaken hs rc s sc e1) fun y hy => sat_ret ⟨hy.1, congrArg Int32.toInt hy.2⟩
  rw [if_neg u3]
  refine sat_ite (fun u => ?_) fun u => ?_
  · rw [n_le, l_10] at u
    rw [if_pos u]
    exact sat_bind (c_takenLetter rc e1 (k := x2.toInt - 10) (by rw [n_sub, l_10, n_bm (by have := n_hi x2; omega) (by have := n_hi x2; omega)])) fun y hy => sat_ret hy
  · rw [n_le, l_10] at u
    rw [if_neg u]
    exact sat_ret ⟨rfl, rfl⟩
end RBS
