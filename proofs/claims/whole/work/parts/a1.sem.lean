/-! codes run, by the class: the codes p .. q - 1 push F -/
def jn (x a b : Int32) : Int32 := if x.toInt = -19 then a ||| b else if x.toInt = -18 then a &&& b else if x.toInt = -17 then 0 else if x.toInt = -16 then (if a ≤ b then 0 else 1) else if x.toInt = -15 then (if a = b then 1 else 0) else if x.toInt = -14 then (if b ≤ a then 0 else 1) else if x.toInt = -13 then (if b = 0 then 0 else a / b) else if x.toInt = -12 then a * b else if x.toInt = -11 then a - b else if x.toInt = -10 then a + b else 0
theorem c_joined (x a b : Int32) (h : ea_H) : qX8_joined x a b h = some (jn x a b, h) := by
  refine sat_at ?_
  unfold qX8_joined BX8_joined_0 jn
  refine sat_ite (fun c => ?_) fun c => ?_
  · rw [if_pos c]
    exact sat_ret rfl
  rw [if_neg c]
  refine sat_ite (fun c => ?_) fun c => ?_
  · rw [if_pos c]
    exact sat_ret rfl
  rw [if_neg c]
  refine sat_ite (fun c => ?_) fun c => ?_
  · rw [if_pos c]
    exact sat_ret rfl
  rw [if_neg c]
  refine sat_ite (fun c => ?_) fun c => ?_
  · rw [if_pos c]
    refine sat_ite (fun d => ?_) fun d => ?_
    · rw [if_pos d]
      exact sat_ret rfl
    · rw [if_neg d]
      exact sat_ret rfl
  rw [if_neg c]
  refine sat_ite (fun c => ?_) fun c => ?_
  · rw [if_pos c]
    refine sat_ite (fun d => ?_) fun d => ?_
    · rw [if_pos d]
      exact sat_ret rfl
    · rw [if_neg d]
      exact sat_ret rfl
  rw [if_neg c]
  refine sat_ite (fun c => ?_) fun c => ?_
  · rw [if_pos c]
    refine sat_ite (fun d => ?_) fun d => ?_
    · rw [if_pos d]
      exact sat_ret rfl
    · rw [if_neg d]
      exact sat_ret rfl
  rw [if_neg c]
  refine sat_ite (fun c => ?_) fun c => ?_
  · rw [if_pos c]
    refine sat_ite (fun d => ?_) fun d => ?_
    · rw [if_pos d]
      exact sat_ret rfl
    · rw [if_neg d]
      exact sat_gd d (sat_ret rfl)
  rw [if_neg c]
  refine sat_ite (fun c => ?_) fun c => ?_
  · rw [if_pos c]
    exact sat_ret rfl
  rw [if_neg c]
  refine sat_ite (fun c => ?_) fun c => ?_
  · rw [if_pos c]
    exact sat_ret rfl
  rw [if_neg c]
  refine sat_ite (fun c => ?_) fun c => ?_
  · rw [if_pos c]
    exact sat_ret rfl
  rw [if_neg c]
  exact sat_ret rfl
def cB (C : Nat → Int32) (p q d : Nat) (F : (Nat → Int32) → Int32) : Prop := p ≤ q ∧ q ≤ 3600 ∧ 1 ≤ d ∧ ∀ (h : ea_H) (t : Nat) (x2 x3 : Int32) (P : Int32 × ea_H → Prop), (∀ j, p ≤ j → j < q → cd h j = C j) → t + d ≤ 64 → x2.toInt = t → x3.toInt = p →
  (∀ (h2 : ea_H) (y2 y3 : Int32), fq [(30, 30)] [] h h2 → y2.toInt = ((t + 1 : Nat) : Int) → y3.toInt = q → ea_i h2 30 t = F (ea_i h 29) → (∀ i, i < t → ea_i h2 30 i = ea_i h 30 i) → sat (qX8_worth_4 y2 y3 h2) P) → sat (qX8_worth_4 x2 x3 h) P
section CB
variable {C C' : Nat → Int32} {p q r d d1 d2 : Nat} {F G : (Nat → Int32) → Int32}
theorem cd_fq {A : List (Nat × Nat)} {B : List ((Nat × Nat) × Nat × Nat)} {h h' : ea_H} (f : fq A B h h') (w : inB A 27 = false) (j : Nat) : cd h' j = cd h j := by
  unfold cd
  have : ea_j h' 27 (j / 4) = ea_j h 27 (j / 4) := n_eqJ.mpr (f.J 27 w _)
  rw [this]
theorem i_row {A : List (Nat × Nat)} {B : List ((Nat × Nat) × Nat × Nat)} {h h' : ea_H} (f : fq A B h h') {a : Nat} (w : inB A a = false) (w2 : outP B a = true) : ea_i h' a = ea_i h a := funext fun k => n_eq.mpr (f.C a w w2 k)
theorem cB.cg (e : ∀ j, p ≤ j → j < q → C' j = C j) (b : cB C p q d F) : cB C' p q d F := by
  obtain ⟨b1, b2, b3, b4⟩ := b
  exact ⟨b1, b2, b3, fun h t x2 x3 P hc => b4 h t x2 x3 P fun j h1 h2 => (hc j h1 h2).trans (e j h1 h2)⟩
theorem cB.mono (hd : d ≤ d1) (b : cB C p q d F) : cB C p q d1 F := by
  obtain ⟨b1, b2, b3, b4⟩ := b
  exact ⟨b1, b2, by omega, fun h t x2 x3 P hc ht => b4 h t x2 x3 P hc (by omega)⟩
theorem cB.ext (e : ∀ f, G f = F f) (b : cB C p q d F) : cB C p q d G := by
  rw [show G = F from funext e]
  exact b
theorem cB_num (hp : p < 3600) (h1 : 0 ≤ (C p).toInt) : cB C p (p + 1) 1 (fun _ => C p) := by
  refine ⟨by omega, by omega, Nat.le_refl _, fun h t x2 x3 P hc ht e2 e3 K => ?_⟩
  have hcp := hc p (Nat.le_refl _) (by omega)
  have pc := c_codeAt e3 hp h
  rw [hcp] at pc
  have ic : x2.toNatClampNeg = t := by
    rw [n_idx, e2]
    rfl
  refine uqX8_worth_4 ?_
  unfold BX8_worth_4
  have v7 : ((-1 : Int32) - C p).toInt = -1 - (C p).toInt := by
    have := n_hi (C p)
    rw [n_sub, l_m1, n_bm (by omega) (by omega)]
  refine sat_neg (by rw [n_le, e3, l_3600]; omega) (sat_call pc (sat_neg (fun z => ?_) (sat_call pc (sat_neg (fun z => ?_) (sat_neg (by rw [n_le, e2, l_64]; omega) (sat_pos ?_ (sat_neg (fun z => ?_) ?_)))))))
  · have z : C p = -100 := z
    rw [n_eq, l_m100] at z
    omega
  · have z : C p ≤ -10 := z
    rw [n_le, l_m10] at z
    omega
  · show (-1 : Int32) - C p < 7
    rw [n_lt, v7, l_7]
    omega
  · have z : C p < 0 := z
    rw [n_lt, l_0] at z
    omega
  · rw [ic]
    refine sat_gd (vp80 e2 (by omega)) (sat_let fun H12 q12 => ?_)
    have q12 : H12 = ea_wi h 30 t (C p) := q12
    refine K H12 (x2 + 1) (x3 + 1) (q12 ▸ fq_wi rfl) (n_inc e2 (by omega)) (n_inc e3 (by omega)) (by rw [q12, i_eq]) fun i hi => ?_
    rw [q12, i_nk (by omega)]
theorem cB_fact {k : Nat} (hp : p < 3600) (hk : k < 7) (h1 : (C p).toInt = -1 - (k : Int)) : cB C p (p + 1) 1 (fun f => f k) := by
  refine ⟨by omega, by omega, Nat.le_refl _, fun h t x2 x3 P hc ht e2 e3 K => ?_⟩
  have hcp := hc p (Nat.le_refl _) (by omega)
  have pc := c_codeAt e3 hp h
  rw [hcp] at pc
  have ic : x2.toNatClampNeg = t := by
    rw [n_idx, e2]
    rfl
  refine uqX8_worth_4 ?_
  unfold BX8_worth_4
  have v7 : ((-1 : Int32) - C p).toInt = k := by
    rw [n_sub, l_m1, n_bm (by omega) (by omega)]
    omega
  have ic7 : ((-1 : Int32) - C p).toNatClampNeg = k := by
    rw [n_idx, v7]
    rfl
  refine sat_neg (by rw [n_le, e3, l_3600]; omega) (sat_call pc (sat_neg (fun z => ?_) (sat_call pc (sat_neg (fun z => ?_) (sat_neg (by rw [n_le, e2, l_64]; omega) (sat_pos ?_ (sat_pos ?_ ?_)))))))
  · have z : C p = -100 := z
    rw [n_eq, l_m100] at z
    omega
  · have z : C p ≤ -10 := z
    rw [n_le, l_m10] at z
    omega
  · show (-1 : Int32) - C p < 7
    rw [n_lt, v7, l_7]
    omega
  · show C p < 0
    rw [n_lt, l_0]
    omega
  · rw [ic]
    refine sat_gd (vp80 v7 hk) (sat_gd (vp80 e2 (by omega)) (sat_let fun H12 q12 => ?_))
    have q12 : H12 = ea_wi h 30 t (ea_i h 29 ((-1 : Int32) - C p).toNatClampNeg) := q12
    rw [ic7] at q12
    refine K H12 (x2 + 1) (x3 + 1) (q12 ▸ fq_wi rfl) (n_inc e2 (by omega)) (n_inc e3 (by omega)) (by rw [q12, i_eq]) fun i hi => ?_
    rw [q12, i_nk (by omega)]
theorem cB_not (hq : q < 3600) (h1 : C q = -17) (b : cB C p q d F) : cB C p (q + 1) d (fun f => 1 - F f) := by
  obtain ⟨b1, b2, b3, b4⟩ := b
  refine ⟨by omega, by omega, b3, fun h t x2 x3 P hc ht e2 e3 K => ?_⟩
  refine b4 h t x2 x3 P (fun j h1 h2 => hc j h1 (by omega)) ht e2 e3 fun h2 y2 y3 f ey2 ey3 hv hs => ?_
  have hcq : cd h2 q = -17 := (cd_fq f rfl q).trans ((hc q b1 (by omega)).trans h1)
  have pc := c_codeAt ey3 hq h2
  rw [hcq] at pc
  have em : (y2 - (1 : Int32)).toInt = t := by
    rw [n_pred (by omega), ey2]
    omega
  have ic : (y2 - (1 : Int32)).toNatClampNeg = t := by
    rw [n_idx, em]
    rfl
  refine uqX8_worth_4 ?_
  unfold BX8_worth_4
  refine sat_neg (by rw [n_le, ey3, l_3600]; omega) (sat_call pc (sat_neg (by show ¬ (-17 : Int32) = -100; rw [n_eq, l_m17, l_m100]; decide) (sat_call pc (sat_pos (by show (-17 : Int32) ≤ -10; rw [n_le, l_m17, l_m10]; decide) (sat_pos rfl (sat_neg (by rw [n_le, ey2, l_0]; omega) ?_))))))
  rw [ic]
  refine sat_gd (vp80 em (by omega)) (sat_gd (vp80 em (by omega)) (sat_let fun H5 q5 => ?_))
  have q5 : H5 = ea_wi h2 30 t ((1 : Int32) - ea_i h2 30 t) := q5
  refine K H5 y2 (y3 + 1) (f.tr (q5 ▸ fq_wi rfl)) ey2 (n_inc ey3 (by omega)) (by rw [q5, i_eq, hv]) fun i hi => ?_
  rw [q5, i_nk (by omega)]
  exact hs i hi
theorem n_dec {x : Int32} {k : Nat} (e : x.toInt = ((k + 1 : Nat) : Int)) : (x + (-1 : Int32)).toInt = k := by
  have := n_hi x
  rw [n_add, e, l_m1, n_bm (by omega) (by omega)]
  omega
theorem cB_bin (hr : r < 3600) (ho1 : -19 ≤ (C r).toInt) (ho2 : (C r).toInt ≤ -10) (ho3 : (C r).toInt ≠ -17) (hd1 : d1 ≤ d) (hd2 : d2 + 1 ≤ d) (b : cB C p q d1 F) (b' : cB C q r d2 G) : cB C p (r + 1) d (fun f => jn (C r) (F f) (G f)) := by
  obtain ⟨b1, b2, b3, b4⟩ := b
  obtain ⟨a1, a2, a3, a4⟩ := b'
  refine ⟨by omega, by omega, by omega, fun h t x2 x3 P hc ht e2 e3 K => ?_⟩
  refine b4 h t x2 x3 P (fun j h1 h2 => hc j h1 (by omega)) (by omega) e2 e3 fun h2 y2 y3 f ey2 ey3 hv hs => ?_
  refine a4 h2 (t + 1) y2 y3 P (fun j h1 h2 => (cd_fq f rfl j).trans (hc j (by omega) (by omega))) (by omega) ey2 ey3 fun h3' z2 z3 g ez2 ez3 hw hs2 => ?_
  have hcq : cd h3' r = C r := (cd_fq g rfl r).trans ((cd_fq f rfl r).trans (hc r (by omega) (by omega)))
  have pc := c_codeAt ez3 hr h3'
  rw [hcq] at pc
  have u0 : ea_i h3' 30 t = F (ea_i h 29) := (hs2 t (by omega)).trans hv
  have u1 : ea_i h3' 30 (t + 1) = G (ea_i h 29) := by
    rw [hw, i_row (a := 29) f rfl rfl]
  refine uqX8_worth_4 ?_
  unfold BX8_worth_4
  refine sat_neg (by rw [n_le, ez3, l_3600]; omega) (sat_call pc (sat_neg (fun z => ?_) (sat_call pc (sat_pos ?_ (sat_neg (fun z => ?_) ?_)))))
  · have z : C r = -100 := z
    rw [n_eq, l_m100] at z
    omega
  · show C r ≤ -10
    rw [n_le, l_m10]
    exact ho2
  · have z : C r = -17 := z
    rw [n_eq, l_m17] at z
    exact ho3 z
  refine uqX8_worth_127 ?_
  unfold BX8_worth_127
  have hz1 : ¬ z2 ≤ (1 : Int32) := by
    rw [n_le, ez2, l_1]
    omega
  obtain ⟨w2, hw2, e1⟩ : ∃ w2 : Int32, z2 + (-1 : Int32) = w2 ∧ w2.toInt = ((t + 1 : Nat) : Int) := ⟨_, rfl, n_dec (k := t + 1) ez2⟩
  rw [hw2]
  have e0 : (w2 - (1 : Int32)).toInt = t := by
    rw [n_pred (by omega), e1]
    omega
  have ic1 : w2.toNatClampNeg = t + 1 := by
    rw [n_idx, e1]
    rfl
  have ic0 : (w2 - (1 : Int32)).toNatClampNeg = t := by
    rw [n_idx, e0]
    rfl
  have g1 := vp80 e1 (show t + 1 < 64 by omega)
  have g0 := vp80 e0 (show t < 64 by omega)
  rw [ic1, ic0]
  refine sat_neg hz1 (sat_gd g0 (sat_gd g1 (sat_call (c_joined _ _ _ _) (sat_gd g0 (sat_let fun H23 q23 => ?_)))))
  have q23 : H23 = ea_wi h3' 30 t (jn (C r) (ea_i h3' 30 t) (ea_i h3' 30 (t + 1))) := q23
  refine K H23 _ (z3 + 1) (f.tr (g.tr (q23 ▸ fq_wi rfl))) e1 (n_inc ez3 (by omega)) (by rw [q23, i_eq, u0, u1]) fun i hi => ?_
  rw [q23, i_nk (by omega), hs2 i (by omega)]
  exact hs i hi
theorem c_worth (b : cB C p q d F) (hd : d ≤ 64) {h : ea_H} (hc : ∀ j, p ≤ j → j < q → cd h j = C j) (hq : q < 3600) (he : cd h q = -100) {x1 : Int32} (e1 : x1.toInt = p) : sat (qX8_worth x1 h) fun y => y.1 = F (ea_i h 29) ∧ fq [(30, 30)] [] h y.2 := by
  obtain ⟨b1, b2, b3, b4⟩ := b
  unfold qX8_worth
  refine uqX8_worth_0 ?_
  unfold BX8_worth_0
  refine b4 h 0 0 x1 _ hc (by omega) rfl e1 fun h2 y2 y3 f ey2 ey3 hv hs => ?_
  have pc := c_codeAt ey3 hq h2
  rw [(cd_fq f rfl q).trans he] at pc
  have em : (y2 - (1 : Int32)).toInt = ((0 : Nat) : Int) := by
    rw [n_pred (by omega), ey2]
    omega
  have ic : (y2 - (1 : Int32)).toNatClampNeg = 0 := by
    rw [n_idx, em]
    rfl
  refine uqX8_worth_4 ?_
  unfold BX8_worth_4
  refine sat_neg (by rw [n_le, ey3, l_3600]; omega) (sat_call pc (sat_pos rfl ?_))
  refine uqX8_worth_168 ?_
  unfold BX8_worth_168
  rw [ic]
  exact sat_neg (by rw [n_le, ey2, l_0]; omega) (sat_gd (vp80 em (by decide)) (sat_ret ⟨hv, f⟩))
end CB
