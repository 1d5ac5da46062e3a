/-! the class: the walk over the keys, whole -/
section ST
variable {T : Nat → Nat → Nat → Nat} {L : List Nat} {G : Nat → Nat → Int} {m : Nat}
def noMv (m : Nat) (X : Nat → Nat → Int) : Prop := ∀ l, l < m → ¬ (X 0 l = 0 ∨ X 0 l = 1)
theorem evX_still (hG : G 7 0 = m) {x : Nat} {X : Nat → Nat → Int} (h : noMv m X) : evX T L G x X = X := by
  have hm2 : (G 7 0).toNat = m := by omega
  have c1 := cmF_none (T := T) (G := G) (x := x) (m := m) (X := X) (fun l hl w => h l hl (Or.inr w.1)) m (Nat.le_refl _)
  have c2 := bdF_none (T := T) (L := L) (G := G) (x := x) (m := m) (X := X) (fun l hl w => h l hl (Or.inl w.1)) m (Nat.le_refl _)
  unfold evX
  split
  · unfold goX
    rw [hm2, c2]
    have e : (if G 3 (8 * kR x + kI x) = 0 then X else X) = X := by split <;> rfl
    rw [e, soK_none (m := m) hG (fun l hl w => h l hl (Or.inr w.1))]
  · unfold coX
    rw [hm2, c1]
    split <;> rfl
theorem brF_still {day : Nat} {X : Nat → Nat → Int} (h : noMv m X) : ∀ j, noMv m (brF G day X j) := by
  intro j
  induction j with
  | zero => exact h
  | succ j ih =>
    show noMv m (brL G day (brF G day X j) j)
    unfold brL
    split
    · intro l hl
      rw [mvX_0]
      split
      · omega
      · exact ih l hl
    · exact ih
theorem brN_still : ∀ (n day : Nat) (X : Nat → Nat → Int), noMv m X → noMv m (brN G n day X) := by
  intro n
  induction n with
  | zero => exact fun _ _ h => h
  | succ n ih => exact fun day X h => ih (day + 1) _ (brF_still h _)
theorem brN_add : ∀ (a b day : Nat) (X : Nat → Nat → Int), brN G (a + b) day X = brN G b (day + a) (brN G a day X) := by
  intro a
  induction a with
  | zero => exact fun b day X => by rw [Nat.zero_add]; rfl
  | succ a ih =>
    intro b day X
    rw [show a + 1 + b = (a + b) + 1 by omega]
    show brN G (a + b) (day + 1) (brF G day X (G 7 0).toNat) = brN G b (day + (a + 1)) (brN G a (day + 1) (brF G day X (G 7 0).toNat))
    rw [ih b (day + 1), show day + 1 + a = day + (a + 1) by omega]
theorem caX_still (hG : G 7 0 = m) {up : Nat} : ∀ (S : List Nat) (cur : Nat) (X : Nat → Nat → Int), noMv m X → (∀ x ∈ S, cur ≤ kMin x) → S.Pairwise (· < ·) → caX T L G up S cur X = brN G (up / 1440 - cur / 1440) (cur / 1440 + 1) X := by
  intro S
  induction S with
  | nil => exact fun _ _ _ _ _ => rfl
  | cons x S ih =>
    intro cur X h hc hp
    show (if kMin x ≤ up then caX T L G up S (kMin x) (evX T L G x (brN G (kMin x / 1440 - cur / 1440) (cur / 1440 + 1) X)) else brN G (up / 1440 - cur / 1440) (cur / 1440 + 1) X) = _
    by_cases c : kMin x ≤ up
    · have h1 := brN_still (G := G) (m := m) (kMin x / 1440 - cur / 1440) (cur / 1440 + 1) X h
      obtain ⟨p1, p2⟩ := List.pairwise_cons.mp hp
      have d1 : cur / 1440 ≤ kMin x / 1440 := Nat.div_le_div_right (hc x List.mem_cons_self)
      have d2 : kMin x / 1440 ≤ up / 1440 := Nat.div_le_div_right c
      rw [if_pos c, evX_still hG h1, ih (kMin x) _ h1 (fun y hy => k_min_le (Nat.le_of_lt (p1 y hy))) p2, show up / 1440 - cur / 1440 = (kMin x / 1440 - cur / 1440) + (up / 1440 - kMin x / 1440) by omega, brN_add, show cur / 1440 + 1 + (kMin x / 1440 - cur / 1440) = kMin x / 1440 + 1 by omega]
    · rw [if_neg c]
end ST
section CA52
variable {T : Nat → Nat → Nat → Nat} {L : List Nat} {G : Nat → Nat → Int} {m : Nat}
theorem c_car11852 (hG : G 7 0 = m) {b : Int} (hb : b ≤ 1000) {up : Nat} (hup : up ≤ 10079) {x2 : Int32} (e2 : x2.toInt = up) {h0 : ea_H} {I : ea_H → (Nat → Nat → Int) → Prop} {d0 : Nat} (hIb : ∀ day X h h', d0 ≤ day → day ≤ 6 → I h X → fq [(53, 61)] [((52, 52), 10, 10), ((76, 315), 16, 17)] h h' → I h' (brF G day X m)) :
    ∀ (k day : Nat) (X : Nat → Nat → Int) (h : ea_H) (x3 : Int32), 1 ≤ day → d0 ≤ day → day + k = up / 1440 + 1 → x3.toInt = day → gCx T L G h → XOk T m (fun _ => b) X → RC52 m X h → RN m X h → I h X → fq [(22, 22), (51, 51), (53, 61)] [((52, 52), 10, 10), ((76, 315), 16, 17)] h0 h → sat (qX1_carry_at52_118 x2 x3 h) fun y => fq [(22, 22), (51, 51), (53, 61)] [((52, 52), 10, 10), ((76, 315), 16, 17)] h0 y.2 ∧ gCx T L G y.2 ∧ RC52 m (brN G k day X) y.2 ∧ RN m (brN G k day X) y.2 ∧ I y.2 (brN G k day X) := by
  intro k
  induction k with
  | zero =>
    intro day X h x3 hd hd0 hk e3 g hX rc rn hI f
    have p0 : (x3 * (1440 : Int32)).toInt = 1440 * (day : Int) := by
      rw [n_mul, e3, l_1440, n_bm (by omega) (by omega)]
      omega
    refine uqX1_carry_at52_118 ?_
    unfold BX1_carry_at52_118
    exact sat_pos (by rw [n_lt, e2, p0]; omega) (sat_ret ⟨f, g, rc, rn, hI⟩)
  | succ k ih =>
    intro day X h x3 hd hd0 hk e3 g hX rc rn hI f
    have hm2 : (G 7 0).toNat = m := by omega
    have p0 : (x3 * (1440 : Int32)).toInt = 1440 * (day : Int) := by
      rw [n_mul, e3, l_1440, n_bm (by omega) (by omega)]
      omega
    have e : brN G (k + 1) day X = brN G k (day + 1) (brF G day X m) := by
      show brN G k (day + 1) (brF G day X (G 7 0).toNat) = _
      rw [hm2]
    refine uqX1_carry_at52_118 ?_
    unfold BX1_carry_at52_118
    refine sat_neg (by rw [n_lt, e2, p0]; omega) (sat_bind (c_burn52 hG hd (by omega) hX hb e3 g rc rn) fun y hy => ?_)
    obtain ⟨y1, y2, y3, y4⟩ := hy
    rw [e]
    exact ih (day + 1) _ y.2 (x3 + 1) (by omega) (by omega) (by omega) (n_inc e3 (by omega)) y2 (brF_ok (by omega) hX m) y3 y4 (hIb day X h y.2 hd0 (by omega) hI y1) (f.tr (y1.up rfl rfl))
theorem c_car6452 (hG : G 7 0 = m) {mi : Nat} {b : Int} (hb : b ≤ 1000) (hmi : mi ≤ 10079) {x2 x4 x5 x6 : Int32} (e6 : x6.toInt = mi) {h0 : ea_H} {P : Unit × ea_H → Prop} {Z : Nat → Nat → Int} {I : ea_H → (Nat → Nat → Int) → Prop} {d0 : Nat} (hIb : ∀ day X h h', d0 ≤ day → day ≤ 6 → I h X → fq [(53, 61)] [((52, 52), 10, 10), ((76, 315), 16, 17)] h h' → I h' (brF G day X m))
    (K : ∀ (h : ea_H) (x3 : Int32), x3.toInt = ((mi / 1440 + 1 : Nat) : Int) → fq [(22, 22), (51, 51), (53, 61)] [((52, 52), 10, 10), ((76, 315), 16, 17)] h0 h → gCx T L G h → RC52 m Z h → RN m Z h → I h Z → sat (Option.bind (qX10_isGoing x5 h) fun w8 => if w8.1 = (0 : Int32) then Option.bind (qX1_comes_at52 x5 x6 w8.2) fun w9 => qX1_carry_at52_18 x2 x3 (x4 + (1 : Int32)) w9.2 else Option.bind (qX1_goes_at52 x5 x6 w8.2) fun w10 => qX1_carry_at52_18 x2 x3 (x4 + (1 : Int32)) w10.2) P) :
    ∀ (k day : Nat) (X : Nat → Nat → Int) (h : ea_H) (x3 : Int32), 1 ≤ day → d0 ≤ day → day + k = mi / 1440 + 1 → x3.toInt = day → gCx T L G h → XOk T m (fun _ => b) X → RC52 m X h → RN m X h → I h X → brN G k day X = Z → fq [(22, 22), (51, 51), (53, 61)] [((52, 52), 10, 10), ((76, 315), 16, 17)] h0 h → sat (qX1_carry_at52_64 x2 x3 x4 x5 x6 h) P := by
  intro k
  induction k with
  | zero =>
    intro day X h x3 hd hd0 hk e3 g hX rc rn hI hZ f
    have p0 : (x3 * (1440 : Int32)).toInt = 1440 * (day : Int) := by
      rw [n_mul, e3, l_1440, n_bm (by omega) (by omega)]
      omega
    have hZ : X = Z := hZ
    subst hZ
    refine uqX1_carry_at52_64 ?_
    unfold BX1_carry_at52_64
    exact sat_pos (by rw [n_lt, e6, p0]; omega) (K h x3 (by rw [e3]; omega) f g rc rn hI)
  | succ k ih =>
    intro day X h x3 hd hd0 hk e3 g hX rc rn hI hZ f
    have hm2 : (G 7 0).toNat = m := by omega
    have p0 : (x3 * (1440 : Int32)).toInt = 1440 * (day : Int) := by
      rw [n_mul, e3, l_1440, n_bm (by omega) (by omega)]
      omega
    have e : brN G (k + 1) day X = brN G k (day + 1) (brF G day X m) := by
      show brN G k (day + 1) (brF G day X (G 7 0).toNat) = _
      rw [hm2]
    refine uqX1_carry_at52_64 ?_
    unfold BX1_carry_at52_64
    refine sat_neg (by rw [n_lt, e6, p0]; omega) (sat_bind (c_burn52 hG hd (by omega) hX hb e3 g rc rn) fun y hy => ?_)
    obtain ⟨y1, y2, y3, y4⟩ := hy
    exact ih (day + 1) _ y.2 (x3 + 1) (by omega) (by omega) (by omega) (n_inc e3 (by omega)) y2 (brF_ok (by omega) hX m) y3 y4 (hIb day X h y.2 hd0 (by omega) hI y1) (e.symm.trans hZ) (f.tr (y1.up rfl rfl))
theorem c_car1852 (ok : tOk T) (hL : tList T L) (hG : G 7 0 = m) {bg up : Nat} (hup : up ≤ 10079) {x2 : Int32} (e2 : x2.toInt = up) {h0 : ea_H} {I : Nat → ea_H → (Nat → Nat → Int) → Prop} (hIb : ∀ e day X h h', (∀ j, j < e → j < L.length → kMin (L.getD j 0) < 1440 * day) → day ≤ 6 → I e h X → fq [(53, 61)] [((52, 52), 10, 10), ((76, 315), 16, 17)] h h' → I e h' (brF G day X m)) (hIe : ∀ e X h h', e < L.length → bg < kMin (L.getD e 0) → kMin (L.getD e 0) ≤ up → I e h X → fq [(22, 22), (51, 51), (53, 61)] [((52, 52), 10, 10), ((76, 315), 16, 17)] h h' → MkR m X (kC (L.getD e 0)) h (evX T L G (L.getD e 0) X) h' → I (e + 1) h' (evX T L G (L.getD e 0) X)) :
    ∀ (k e cur : Nat) (b : Int) (X : Nat → Nat → Int) (h : ea_H) (x3 x4 : Int32), e + k = L.length → x4.toInt = e → (∀ j, e ≤ j → j < L.length → cur ≤ kMin (L.getD j 0)) → cur ≤ up → x3.toInt = ((cur / 1440 + 1 : Nat) : Int) → b + k ≤ 1000 → gCx T L G h → XOk T m (fun _ => b) X → RC52 m X h → RN m X h → I e h X → (∀ j, j < e → j < L.length → kMin (L.getD j 0) ≤ cur) → (∀ j, e ≤ j → j < L.length → bg < kMin (L.getD j 0)) → fq [(22, 22), (51, 51), (53, 61)] [((52, 52), 10, 10), ((76, 315), 16, 17)] h0 h →
      sat (qX1_carry_at52_18 x2 x3 x4 h) fun y => fq [(22, 22), (51, 51), (53, 61)] [((52, 52), 10, 10), ((76, 315), 16, 17)] h0 y.2 ∧ gCx T L G y.2 ∧ RC52 m (caX T L G up (L.drop e) cur X) y.2 ∧ RN m (caX T L G up (L.drop e) cur X) y.2 ∧ ∃ q, I q y.2 (caX T L G up (L.drop e) cur X) ∧ q ≤ L.length ∧ (∀ j, j < q → kMin (L.getD j 0) ≤ up) ∧ ((q = L.length ∨ up < kMin (L.getD q 0)) ∨ noMv m (caX T L G up (L.drop e) cur X)) := by
  have h9 := t_len2 ok hL
  intro k
  induction k with
  | zero =>
    intro e cur b X h x3 x4 hk e4 hcur hcu e3 hb g hX rc rn hI hcl hbg f
    have he : e = L.length := by omega
    have ec : caX T L G up (L.drop e) cur X = brN G (up / 1440 - cur / 1440) (cur / 1440 + 1) X := by
      rw [List.drop_of_length_le (by omega)]
      rfl
    rw [ec]
    refine uqX1_carry_at52_18 ?_
    unfold BX1_carry_at52_18
    refine sat_pos (by rw [n_le, hI_eq, g.2.2.2.1.1, e4]; omega) ?_
    refine sat_mono (c_car11852 (I := I e) (d0 := cur / 1440 + 1) hG (by omega : b ≤ 1000) hup e2 (fun day X h h' hd hd6 => hIb e day X h h' (fun j hj hj2 => by have := hcl j hj hj2; omega) hd6) (up / 1440 - cur / 1440) (cur / 1440 + 1) X h x3 (by omega) (Nat.le_refl _) (by omega) e3 g hX rc rn hI f) fun y hy => ?_
    exact ⟨hy.1, hy.2.1, hy.2.2.1, hy.2.2.2.1, e, hy.2.2.2.2, by omega, fun j hj => Nat.le_trans (hcl j hj (by omega)) hcu, Or.inl (Or.inl he)⟩
  | succ k ih =>
    intro e cur b X h x3 x4 hk e4 hcur hcu e3 hb g hX rc rn hI hcl hbg f
    have he : e < L.length := by omega
    have hxL := getD_mem he
    have hxk := (hL.2 _).mp hxL
    obtain ⟨t1, t2, t3, t4, t5, t6, t7, t8⟩ := t_bounds ok hxk
    have c2 := hcur e (Nat.le_refl _) he
    have ed : L.drop e = L.getD e 0 :: L.drop (e + 1) := drop_cons he
    have stop : caX T L G up (L.drop e) cur X = brN G (up / 1440 - cur / 1440) (cur / 1440 + 1) X → (up < kMin (L.getD e 0) ∨ noMv m X) → sat (qX1_carry_at52_118 x2 x3 h) fun y => fq [(22, 22), (51, 51), (53, 61)] [((52, 52), 10, 10), ((76, 315), 16, 17)] h0 y.2 ∧ gCx T L G y.2 ∧ RC52 m (caX T L G up (L.drop e) cur X) y.2 ∧ RN m (caX T L G up (L.drop e) cur X) y.2 ∧ ∃ q, I q y.2 (caX T L G up (L.drop e) cur X) ∧ q ≤ L.length ∧ (∀ j, j < q → kMin (L.getD j 0) ≤ up) ∧ ((q = L.length ∨ up < kMin (L.getD q 0)) ∨ noMv m (caX T L G up (L.drop e) cur X)) := by
      intro ec hq
      rw [ec]
      refine sat_mono (c_car11852 (I := I e) (d0 := cur / 1440 + 1) hG (by omega : b ≤ 1000) hup e2 (fun day X h h' hd hd6 => hIb e day X h h' (fun j hj hj2 => by have := hcl j hj hj2; omega) hd6) (up / 1440 - cur / 1440) (cur / 1440 + 1) X h x3 (by omega) (Nat.le_refl _) (by have : cur / 1440 ≤ up / 1440 := Nat.div_le_div_right hcu; omega) e3 g hX rc rn hI f) fun y hy => ?_
      refine ⟨hy.1, hy.2.1, hy.2.2.1, hy.2.2.2.1, e, hy.2.2.2.2, by omega, fun j hj => Nat.le_trans (hcl j hj (by omega)) hcu, ?_⟩
      rcases hq with w | w
      · exact Or.inl (Or.inr w)
      · exact Or.inr (brN_still _ _ _ w)
    refine uqX1_carry_at52_18 ?_
    unfold BX1_carry_at52_18
    refine sat_neg (by rw [n_le, hI_eq, g.2.2.2.1.1, e4]; omega) (sat_ite (fun c => ?_) fun c => ?_)
    · rw [n_le, hI_eq, rc.2.2.2.2.2.1, l_0] at c
      have hno : noMv m X := fun l hl => cnt_zero (P := fun q => X 0 q = 0 ∨ X 0 q = 1) c l hl
      refine stop (caX_still hG _ _ _ hno (fun y hy => ?_) ?_) (Or.inr hno)
      · obtain ⟨q, q1, q2⟩ := List.getElem_of_mem hy
        rw [List.getElem_drop] at q2
        rw [List.length_drop] at q1
        have := hcur (e + q) (by omega) (by omega)
        rw [List.getD_eq_getElem?_getD, List.getElem?_eq_getElem (by omega)] at this
        rw [← q2]
        exact this
      · have := List.pairwise_append.mp (by rw [List.take_append_drop]; exact hL.1 : (L.take e ++ L.drop e).Pairwise (· < ·))
        exact this.2.1
    obtain ⟨v, p, r⟩ := c_keyAt h9 e4 he g.2.2.2.1
    obtain ⟨w, p2, r2⟩ := c_minuteIn r h
    refine sat_call p (sat_call p2 ?_)
    by_cases cu : kMin (L.getD e 0) ≤ up
    case neg =>
      refine sat_neg (by rw [n_le, r2, e2]; omega) (stop ?_ (Or.inl (by omega)))
      rw [ed]
      show (if kMin (L.getD e 0) ≤ up then _ else _) = _
      rw [if_neg cu]
    have ec : caX T L G up (L.drop e) cur X = caX T L G up (L.drop (e + 1)) (kMin (L.getD e 0)) (evX T L G (L.getD e 0) (brN G (kMin (L.getD e 0) / 1440 - cur / 1440) (cur / 1440 + 1) X)) := by
      rw [ed]
      show (if kMin (L.getD e 0) ≤ up then _ else _) = _
      rw [if_pos cu]
    rw [ec]
    have hdiv : cur / 1440 ≤ kMin (L.getD e 0) / 1440 := Nat.div_le_div_right c2
    have XB := brN_ok (G := G) (T := T) (m := m) (B := fun _ => b) (kMin (L.getD e 0) / 1440 - cur / 1440) (cur / 1440 + 1) X (by omega) hX
    refine sat_pos (by rw [n_le, r2, e2]; omega) ?_
    refine c_car6452 (b := b) (mi := kMin (L.getD e 0)) (h0 := h0) (I := I e) (d0 := cur / 1440 + 1) hG (by omega) t6 r2 (fun day X h h' hd hd6 => hIb e day X h h' (fun j hj hj2 => by have := hcl j hj hj2; omega) hd6) (fun h2 x3' e3' f2 g2 rc2 rn2 hI2 => ?_) (kMin (L.getD e 0) / 1440 - cur / 1440) (cur / 1440 + 1) X h x3 (by omega) (Nat.le_refl _) (by omega) e3 g hX rc rn hI rfl f
    obtain ⟨vg, pg, rg⟩ := c_isGoing r h2
    have nxt : ∀ (h3 : ea_H), fq [(22, 22), (51, 51), (53, 61)] [((52, 52), 10, 10), ((76, 315), 16, 17)] h2 h3 → RC52 m (evX T L G (L.getD e 0) (brN G (kMin (L.getD e 0) / 1440 - cur / 1440) (cur / 1440 + 1) X)) h3 → RN m (evX T L G (L.getD e 0) (brN G (kMin (L.getD e 0) / 1440 - cur / 1440) (cur / 1440 + 1) X)) h3 → MkR m (brN G (kMin (L.getD e 0) / 1440 - cur / 1440) (cur / 1440 + 1) X) (kC (L.getD e 0)) h2 (evX T L G (L.getD e 0) (brN G (kMin (L.getD e 0) / 1440 - cur / 1440) (cur / 1440 + 1) X)) h3 → sat (qX1_carry_at52_18 x2 x3' (x4 + 1) h3) fun y => fq [(22, 22), (51, 51), (53, 61)] [((52, 52), 10, 10), ((76, 315), 16, 17)] h0 y.2 ∧ gCx T L G y.2 ∧ RC52 m (caX T L G up (L.drop (e + 1)) (kMin (L.getD e 0)) (evX T L G (L.getD e 0) (brN G (kMin (L.getD e 0) / 1440 - cur / 1440) (cur / 1440 + 1) X))) y.2 ∧ RN m (caX T L G up (L.drop (e + 1)) (kMin (L.getD e 0)) (evX T L G (L.getD e 0) (brN G (kMin (L.getD e 0) / 1440 - cur / 1440) (cur / 1440 + 1) X))) y.2 ∧ ∃ q, I q y.2 (caX T L G up (L.drop (e + 1)) (kMin (L.getD e 0)) (evX T L G (L.getD e 0) (brN G (kMin (L.getD e 0) / 1440 - cur / 1440) (cur / 1440 + 1) X))) ∧ q ≤ L.length ∧ (∀ j, j < q → kMin (L.getD j 0) ≤ up) ∧ ((q = L.length ∨ up < kMin (L.getD q 0)) ∨ noMv m (caX T L G up (L.drop (e + 1)) (kMin (L.getD e 0)) (evX T L G (L.getD e 0) (brN G (kMin (L.getD e 0) / 1440 - cur / 1440) (cur / 1440 + 1) X)))) := by
      intro h3 f3 rc3 rn3 mk3
      refine ih (e + 1) (kMin (L.getD e 0)) (b + 1) _ h3 x3' (x4 + 1) (by omega) (n_inc e4 (by omega)) (fun j hj hj2 => ?_) cu e3' (by omega) (gCx_fq f3 rfl rfl rfl g2) (evX_ok ok hL hxL hG XB) rc3 rn3 (hIe e _ h2 h3 he (hbg e (Nat.le_refl _) he) cu hI2 f3 mk3) (fun j hj hj2 => ?_) (fun j hj hj2 => hbg j (by omega) hj2) (f2.tr f3)
      · exact k_min_le (Nat.le_of_lt (getD_lt hL.1 (by omega) hj2))
      · by_cases z : j = e
        · rw [z]
          exact Nat.le_refl _
        · exact k_min_le (Nat.le_of_lt (getD_lt hL.1 (by omega) he))
    have gl := kGo_lt (L.getD e 0)
    refine sat_call pg (sat_ite (fun c => ?_) fun c => ?_)
    · rw [n_eq, rg, l_0] at c
      refine sat_bind (c_comes52 ok hxk (by omega) L hG XB (by omega) r r2 g2.1 g2.2.1 g2.2.2.1 rc2 rn2) fun w hw => ?_
      obtain ⟨w1, w2, w3, w4⟩ := hw
      exact nxt w.2 (w1.up rfl rfl) w2 w3 w4
    · rw [n_eq, rg, l_0] at c
      refine sat_bind (c_goes52 ok hL hxL (by omega) hG XB (by omega) r r2 g2 rc2 rn2) fun w hw => ?_
      obtain ⟨w1, w2, w3, w4⟩ := hw
      exact nxt w.2 w1 w2 w3 w4
theorem c_carry52 (ok : tOk T) (hL : tList T L) (hG : G 7 0 = m) {bg up p : Nat} (hbu : bg ≤ up) (hup : up ≤ 10079) (hp : fstB L bg p) {x1 x2 : Int32} (e1 : x1.toInt = bg) (e2 : x2.toInt = up) {b : Int} {X : Nat → Nat → Int} (hb : b + ((L.length - p : Nat) : Int) ≤ 1000) {h : ea_H} (hX : XOk T m (fun _ => b) X) (g : gCx T L G h) (rc : RC52 m X h) (rn : RN m X h) {I : Nat → ea_H → (Nat → Nat → Int) → Prop} (hIb : ∀ e day X h h', (∀ j, j < e → j < L.length → kMin (L.getD j 0) < 1440 * day) → day ≤ 6 → I e h X → fq [(53, 61)] [((52, 52), 10, 10), ((76, 315), 16, 17)] h h' → I e h' (brF G day X m)) (hIe : ∀ e X h h', e < L.length → bg < kMin (L.getD e 0) → kMin (L.getD e 0) ≤ up → I e h X → fq [(22, 22), (51, 51), (53, 61)] [((52, 52), 10, 10), ((76, 315), 16, 17)] h h' → MkR m X (kC (L.getD e 0)) h (evX T L G (L.getD e 0) X) h' → I (e + 1) h' (evX T L G (L.getD e 0) X)) (hI : I p h X) :
    sat (qX1_carry_at52 x1 x2 h) fun y => fq [(22, 22), (51, 51), (53, 61)] [((52, 52), 10, 10), ((76, 315), 16, 17)] h y.2 ∧ gCx T L G y.2 ∧ RC52 m (caX T L G up (L.drop p) bg X) y.2 ∧ RN m (caX T L G up (L.drop p) bg X) y.2 ∧ ∃ q, I q y.2 (caX T L G up (L.drop p) bg X) ∧ q ≤ L.length ∧ (∀ j, j < q → kMin (L.getD j 0) ≤ up) ∧ ((q = L.length ∨ up < kMin (L.getD q 0)) ∨ noMv m (caX T L G up (L.drop p) bg X)) := by
  have h9 := t_len2 ok hL
  obtain ⟨v, p2, q1, q2, q3⟩ := c_firstBehind h9 hL.1 e1 g.2.2.2.1
  have hpp : p2 = p := by
    have a := hp.2
    have c := q3.2
    have a1 := hp.1
    have c1 := q3.1
    rcases Nat.lt_trichotomy p2 p with w | w | w
    · have := (c p2 (by omega)).mpr ((a p2 (by omega)).mp w)
      omega
    · exact w
    · have := (a p (by omega)).mpr ((c p (by omega)).mp w)
      omega
  rw [hpp] at q2
  have v2 : (x1 / (1440 : Int32) + 1).toInt = ((bg / 1440 + 1 : Nat) : Int) := by
    have := n_div0 (x := x1) (y := (1440 : Int32)) (m := 1440) (by omega) l_1440 (by decide)
    rw [n_add, this, e1, l_1, n_bm (by omega) (by omega)]
    omega
  unfold qX1_carry_at52
  refine uqX1_carry_at52_0 ?_
  unfold BX1_carry_at52_0
  refine sat_sub (sat_call q1 ?_)
  exact c_car1852 (h0 := h) (I := I) ok hL hG hup e2 hIb hIe (L.length - p) p bg b X h _ v (by have := hp.1; omega) q2 (fun j hj hj2 => by have := hp.2 j hj2; omega) hbu v2 hb g hX rc rn hI (fun j hj hj2 => by have := hp.2 j hj2; omega) (fun j hj hj2 => by have := hp.2 j hj2; omega) (fq_rfl _ _ _)
end CA52
section CA62
variable {T : Nat → Nat → Nat → Nat} {L : List Nat} {G : Nat → Nat → Int} {m : Nat}
theorem c_car11862 (hG : G 7 0 = m) {b : Int} (hb : b ≤ 1000) {up : Nat} (hup : up ≤ 10079) {x2 : Int32} (e2 : x2.toInt = up) {h0 : ea_H} :
    ∀ (k day : Nat) (X : Nat → Nat → Int) (h : ea_H) (x3 : Int32), 1 ≤ day → day + k = up / 1440 + 1 → x3.toInt = day → gCx T L G h → XOk T m (fun _ => b) X → RC62 m X h → fq [(22, 22), (63, 71)] [((62, 62), 10, 10)] h0 h → sat (qX1_carry_at62_118 x2 x3 h) fun y => fq [(22, 22), (63, 71)] [((62, 62), 10, 10)] h0 y.2 ∧ gCx T L G y.2 ∧ RC62 m (brN G k day X) y.2 := by
  intro k
  induction k with
  | zero =>
    intro day X h x3 hd hk e3 g hX rc f
    have p0 : (x3 * (1440 : Int32)).toInt = 1440 * (day : Int) := by
      rw [n_mul, e3, l_1440, n_bm (by omega) (by omega)]
      omega
    refine uqX1_carry_at62_118 ?_
    unfold BX1_carry_at62_118
    exact sat_pos (by rw [n_lt, e2, p0]; omega) (sat_ret ⟨f, g, rc⟩)
  | succ k ih =>
    intro day X h x3 hd hk e3 g hX rc f
    have hm2 : (G 7 0).toNat = m := by omega
    have p0 : (x3 * (1440 : Int32)).toInt = 1440 * (day : Int) := by
      rw [n_mul, e3, l_1440, n_bm (by omega) (by omega)]
      omega
    have e : brN G (k + 1) day X = brN G k (day + 1) (brF G day X m) := by
      show brN G k (day + 1) (brF G day X (G 7 0).toNat) = _
      rw [hm2]
    refine uqX1_carry_at62_118 ?_
    unfold BX1_carry_at62_118
    refine sat_neg (by rw [n_lt, e2, p0]; omega) (sat_bind (c_burn62 hG hd (by omega) hX hb e3 g rc) fun y hy => ?_)
    obtain ⟨y1, y2, y3⟩ := hy
    rw [e]
    exact ih (day + 1) _ y.2 (x3 + 1) (by omega) (by omega) (n_inc e3 (by omega)) y2 (brF_ok (by omega) hX m) y3 (f.tr (y1.up rfl rfl))
theorem c_car6462 (hG : G 7 0 = m) {mi : Nat} {b : Int} (hb : b ≤ 1000) (hmi : mi ≤ 10079) {x2 x4 x5 x6 : Int32} (e6 : x6.toInt = mi) {h0 : ea_H} {P : Unit × ea_H → Prop} {Z : Nat → Nat → Int}
    (K : ∀ (h : ea_H) (x3 : Int32), x3.toInt = ((mi / 1440 + 1 : Nat) : Int) → fq [(22, 22), (63, 71)] [((62, 62), 10, 10)] h0 h → gCx T L G h → RC62 m Z h → sat (Option.bind (qX10_isGoing x5 h) fun w8 => if w8.1 = (0 : Int32) then Option.bind (qX1_comes_at62 x5 x6 w8.2) fun w9 => qX1_carry_at62_18 x2 x3 (x4 + (1 : Int32)) w9.2 else Option.bind (qX1_goes_at62 x5 x6 w8.2) fun w10 => qX1_carry_at62_18 x2 x3 (x4 + (1 : Int32)) w10.2) P) :
    ∀ (k day : Nat) (X : Nat → Nat → Int) (h : ea_H) (x3 : Int32), 1 ≤ day → day + k = mi / 1440 + 1 → x3.toInt = day → gCx T L G h → XOk T m (fun _ => b) X → RC62 m X h → brN G k day X = Z → fq [(22, 22), (63, 71)] [((62, 62), 10, 10)] h0 h → sat (qX1_carry_at62_64 x2 x3 x4 x5 x6 h) P := by
  intro k
  induction k with
  | zero =>
    intro day X h x3 hd hk e3 g hX rc hZ f
    have p0 : (x3 * (1440 : Int32)).toInt = 1440 * (day : Int) := by
      rw [n_mul, e3, l_1440, n_bm (by omega) (by omega)]
      omega
    have hZ : X = Z := hZ
    subst hZ
    refine uqX1_carry_at62_64 ?_
    unfold BX1_carry_at62_64
    exact sat_pos (by rw [n_lt, e6, p0]; omega) (K h x3 (by rw [e3]; omega) f g rc)
  | succ k ih =>
    intro day X h x3 hd hk e3 g hX rc hZ f
    have hm2 : (G 7 0).toNat = m := by omega
    have p0 : (x3 * (1440 : Int32)).toInt = 1440 * (day : Int) := by
      rw [n_mul, e3, l_1440, n_bm (by omega) (by omega)]
      omega
    have e : brN G (k + 1) day X = brN G k (day + 1) (brF G day X m) := by
      show brN G k (day + 1) (brF G day X (G 7 0).toNat) = _
      rw [hm2]
    refine uqX1_carry_at62_64 ?_
    unfold BX1_carry_at62_64
    refine sat_neg (by rw [n_lt, e6, p0]; omega) (sat_bind (c_burn62 hG hd (by omega) hX hb e3 g rc) fun y hy => ?_)
    obtain ⟨y1, y2, y3⟩ := hy
    exact ih (day + 1) _ y.2 (x3 + 1) (by omega) (by omega) (n_inc e3 (by omega)) y2 (brF_ok (by omega) hX m) y3 (e.symm.trans hZ) (f.tr (y1.up rfl rfl))
theorem c_car1862 (ok : tOk T) (hL : tList T L) (hG : G 7 0 = m) {up : Nat} (hup : up ≤ 10079) {x2 : Int32} (e2 : x2.toInt = up) {h0 : ea_H} :
    ∀ (k e cur : Nat) (b : Int) (X : Nat → Nat → Int) (h : ea_H) (x3 x4 : Int32), e + k = L.length → x4.toInt = e → (∀ j, e ≤ j → j < L.length → cur ≤ kMin (L.getD j 0)) → cur ≤ up → x3.toInt = ((cur / 1440 + 1 : Nat) : Int) → b + k ≤ 1000 → gCx T L G h → XOk T m (fun _ => b) X → RC62 m X h → fq [(22, 22), (63, 71)] [((62, 62), 10, 10)] h0 h →
      sat (qX1_carry_at62_18 x2 x3 x4 h) fun y => fq [(22, 22), (63, 71)] [((62, 62), 10, 10)] h0 y.2 ∧ gCx T L G y.2 ∧ RC62 m (caX T L G up (L.drop e) cur X) y.2 := by
  have h9 := t_len2 ok hL
  intro k
  induction k with
  | zero =>
    intro e cur b X h x3 x4 hk e4 hcur hcu e3 hb g hX rc f
    have he : e = L.length := by omega
    have ec : caX T L G up (L.drop e) cur X = brN G (up / 1440 - cur / 1440) (cur / 1440 + 1) X := by
      rw [List.drop_of_length_le (by omega)]
      rfl
    rw [ec]
    refine uqX1_carry_at62_18 ?_
    unfold BX1_carry_at62_18
    refine sat_pos (by rw [n_le, hI_eq, g.2.2.2.1.1, e4]; omega) ?_
    exact c_car11862 hG (by omega : b ≤ 1000) hup e2 (up / 1440 - cur / 1440) (cur / 1440 + 1) X h x3 (by omega) (by omega) e3 g hX rc f
  | succ k ih =>
    intro e cur b X h x3 x4 hk e4 hcur hcu e3 hb g hX rc f
    have he : e < L.length := by omega
    have hxL := getD_mem he
    have hxk := (hL.2 _).mp hxL
    obtain ⟨t1, t2, t3, t4, t5, t6, t7, t8⟩ := t_bounds ok hxk
    have c2 := hcur e (Nat.le_refl _) he
    have ed : L.drop e = L.getD e 0 :: L.drop (e + 1) := drop_cons he
    have stop : caX T L G up (L.drop e) cur X = brN G (up / 1440 - cur / 1440) (cur / 1440 + 1) X → sat (qX1_carry_at62_118 x2 x3 h) fun y => fq [(22, 22), (63, 71)] [((62, 62), 10, 10)] h0 y.2 ∧ gCx T L G y.2 ∧ RC62 m (caX T L G up (L.drop e) cur X) y.2 := by
      intro ec
      rw [ec]
      exact c_car11862 hG (by omega : b ≤ 1000) hup e2 (up / 1440 - cur / 1440) (cur / 1440 + 1) X h x3 (by omega) (by have : cur / 1440 ≤ up / 1440 := Nat.div_le_div_right hcu; omega) e3 g hX rc f
    refine uqX1_carry_at62_18 ?_
    unfold BX1_carry_at62_18
    refine sat_neg (by rw [n_le, hI_eq, g.2.2.2.1.1, e4]; omega) (sat_ite (fun c => ?_) fun c => ?_)
    · rw [n_le, hI_eq, rc.2.2.2.2.2.1, l_0] at c
      have hno : noMv m X := fun l hl => cnt_zero (P := fun q => X 0 q = 0 ∨ X 0 q = 1) c l hl
      refine stop (caX_still hG _ _ _ hno (fun y hy => ?_) ?_)
      · obtain ⟨q, q1, q2⟩ := List.getElem_of_mem hy
        rw [List.getElem_drop] at q2
        rw [List.length_drop] at q1
        have := hcur (e + q) (by omega) (by omega)
        rw [List.getD_eq_getElem?_getD, List.getElem?_eq_getElem (by omega)] at this
        rw [← q2]
        exact this
      · have := List.pairwise_append.mp (by rw [List.take_append_drop]; exact hL.1 : (L.take e ++ L.drop e).Pairwise (· < ·))
        exact this.2.1
    obtain ⟨v, p, r⟩ := c_keyAt h9 e4 he g.2.2.2.1
    obtain ⟨w, p2, r2⟩ := c_minuteIn r h
    refine sat_call p (sat_call p2 ?_)
    by_cases cu : kMin (L.getD e 0) ≤ up
    case neg =>
      refine sat_neg (by rw [n_le, r2, e2]; omega) (stop ?_)
      rw [ed]
      show (if kMin (L.getD e 0) ≤ up then _ else _) = _
      rw [if_neg cu]
    have ec : caX T L G up (L.drop e) cur X = caX T L G up (L.drop (e + 1)) (kMin (L.getD e 0)) (evX T L G (L.getD e 0) (brN G (kMin (L.getD e 0) / 1440 - cur / 1440) (cur / 1440 + 1) X)) := by
      rw [ed]
      show (if kMin (L.getD e 0) ≤ up then _ else _) = _
      rw [if_pos cu]
    rw [ec]
    have hdiv : cur / 1440 ≤ kMin (L.getD e 0) / 1440 := Nat.div_le_div_right c2
    have XB := brN_ok (G := G) (T := T) (m := m) (B := fun _ => b) (kMin (L.getD e 0) / 1440 - cur / 1440) (cur / 1440 + 1) X (by omega) hX
    refine sat_pos (by rw [n_le, r2, e2]; omega) ?_
    refine c_car6462 (b := b) (mi := kMin (L.getD e 0)) (h0 := h0) hG (by omega) t6 r2 (fun h2 x3' e3' f2 g2 rc2 => ?_) (kMin (L.getD e 0) / 1440 - cur / 1440) (cur / 1440 + 1) X h x3 (by omega) (by omega) e3 g hX rc rfl f
    obtain ⟨vg, pg, rg⟩ := c_isGoing r h2
    have nxt : ∀ (h3 : ea_H), fq [(22, 22), (63, 71)] [((62, 62), 10, 10)] h2 h3 → RC62 m (evX T L G (L.getD e 0) (brN G (kMin (L.getD e 0) / 1440 - cur / 1440) (cur / 1440 + 1) X)) h3 → sat (qX1_carry_at62_18 x2 x3' (x4 + 1) h3) fun y => fq [(22, 22), (63, 71)] [((62, 62), 10, 10)] h0 y.2 ∧ gCx T L G y.2 ∧ RC62 m (caX T L G up (L.drop (e + 1)) (kMin (L.getD e 0)) (evX T L G (L.getD e 0) (brN G (kMin (L.getD e 0) / 1440 - cur / 1440) (cur / 1440 + 1) X))) y.2 := by
      intro h3 f3 rc3
      refine ih (e + 1) (kMin (L.getD e 0)) (b + 1) _ h3 x3' (x4 + 1) (by omega) (n_inc e4 (by omega)) (fun j hj hj2 => ?_) cu e3' (by omega) (gCx_fq f3 rfl rfl rfl g2) (evX_ok ok hL hxL hG XB) rc3 (f2.tr f3)
      · exact k_min_le (Nat.le_of_lt (getD_lt hL.1 (by omega) hj2))
    have gl := kGo_lt (L.getD e 0)
    refine sat_call pg (sat_ite (fun c => ?_) fun c => ?_)
    · rw [n_eq, rg, l_0] at c
      refine sat_bind (c_comes62 ok hxk (by omega) L hG XB (by omega) r r2 g2.1 g2.2.1 g2.2.2.1 rc2) fun w hw => ?_
      obtain ⟨w1, w2⟩ := hw
      exact nxt w.2 (w1.up rfl rfl) w2
    · rw [n_eq, rg, l_0] at c
      refine sat_bind (c_goes62 ok hL hxL (by omega) hG XB (by omega) r r2 g2 rc2) fun w hw => ?_
      obtain ⟨w1, w2⟩ := hw
      exact nxt w.2 w1 w2
theorem c_carry62 (ok : tOk T) (hL : tList T L) (hG : G 7 0 = m) {bg up p : Nat} (hbu : bg ≤ up) (hup : up ≤ 10079) (hp : fstB L bg p) {x1 x2 : Int32} (e1 : x1.toInt = bg) (e2 : x2.toInt = up) {b : Int} {X : Nat → Nat → Int} (hb : b + ((L.length - p : Nat) : Int) ≤ 1000) {h : ea_H} (hX : XOk T m (fun _ => b) X) (g : gCx T L G h) (rc : RC62 m X h) :
    sat (qX1_carry_at62 x1 x2 h) fun y => fq [(22, 22), (63, 71)] [((62, 62), 10, 10)] h y.2 ∧ gCx T L G y.2 ∧ RC62 m (caX T L G up (L.drop p) bg X) y.2 := by
  have h9 := t_len2 ok hL
  obtain ⟨v, p2, q1, q2, q3⟩ := c_firstBehind h9 hL.1 e1 g.2.2.2.1
  have hpp : p2 = p := by
    have a := hp.2
    have c := q3.2
    have a1 := hp.1
    have c1 := q3.1
    rcases Nat.lt_trichotomy p2 p with w | w | w
    · have := (c p2 (by omega)).mpr ((a p2 (by omega)).mp w)
      omega
    · exact w
    · have := (a p (by omega)).mpr ((c p (by omega)).mp w)
      omega
  rw [hpp] at q2
  have v2 : (x1 / (1440 : Int32) + 1).toInt = ((bg / 1440 + 1 : Nat) : Int) := by
    have := n_div0 (x := x1) (y := (1440 : Int32)) (m := 1440) (by omega) l_1440 (by decide)
    rw [n_add, this, e1, l_1, n_bm (by omega) (by omega)]
    omega
  unfold qX1_carry_at62
  refine uqX1_carry_at62_0 ?_
  unfold BX1_carry_at62_0
  refine sat_sub (sat_call q1 ?_)
  exact c_car1862 (h0 := h) ok hL hG hup e2 (L.length - p) p bg b X h _ v (by have := hp.1; omega) q2 (fun j hj hj2 => by have := hp.2 j hj2; omega) hbu v2 hb g hX rc (fq_rfl _ _ _)
end CA62
