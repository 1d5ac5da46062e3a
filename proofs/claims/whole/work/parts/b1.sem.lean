/-! the class's scan -/
theorem sat_fl {A : Option (Int32 × ea_H)} {h : ea_H} {p : Bool} (H : sat A fun y => y.2 = h ∧ ((y.1 = 0 ∧ p = false) ∨ (y.1 = 1 ∧ p = true))) : ∃ v, A = some (v, h) ∧ ((v = 0 ∧ p = false) ∨ (v = 1 ∧ p = true)) := by
  obtain ⟨⟨v, h'⟩, e, e1, e2⟩ := H
  dsimp only at e1 e2
  subst e1
  exact ⟨v, e, e2⟩
theorem c_isLetter (x : Int32) (h : ea_H) : ∃ v, qX6_isLetter x h = some (v, h) ∧ ((v = 0 ∧ paL x.toInt = false) ∨ (v = 1 ∧ paL x.toInt = true)) := by
  have no : ¬ ((97 ≤ x.toInt ∧ x.toInt ≤ 122) ∨ (65 ≤ x.toInt ∧ x.toInt ≤ 90)) → paL x.toInt = false := fun c => decide_eq_false c
  have H12 : ¬ (97 ≤ x.toInt ∧ x.toInt ≤ 122) → sat (qX6_isLetter_12 x h) fun y => y.2 = h ∧ ((y.1 = 0 ∧ paL x.toInt = false) ∨ (y.1 = 1 ∧ paL x.toInt = true)) := by
    intro c
    refine uqX6_isLetter_12 ?_
    unfold BX6_isLetter_12
    refine sat_ite (fun d => ?_) fun d => sat_ite (fun d2 => ?_) fun d2 => ?_
    · rw [n_lt, l_65] at d
      exact sat_ret ⟨rfl, Or.inl ⟨rfl, no (by omega)⟩⟩
    · rw [n_lt, l_90] at d2
      exact sat_ret ⟨rfl, Or.inl ⟨rfl, no (by omega)⟩⟩
    · rw [n_lt, l_65] at d
      rw [n_lt, l_90] at d2
      exact sat_ret ⟨rfl, Or.inr ⟨rfl, paL_iff.mpr (by omega)⟩⟩
  refine sat_fl ?_
  unfold qX6_isLetter
  refine uqX6_isLetter_0 ?_
  unfold BX6_isLetter_0
  refine sat_ite (fun d => ?_) fun d => sat_ite (fun d2 => ?_) fun d2 => ?_
  · rw [n_lt, l_97] at d
    exact H12 (by omega)
  · rw [n_lt, l_97] at d
    rw [n_le, l_122] at d2
    exact sat_ret ⟨rfl, Or.inr ⟨rfl, paL_iff.mpr (by omega)⟩⟩
  · rw [n_le, l_122] at d2
    exact H12 (by omega)
theorem c_isDigit (x : Int32) (h : ea_H) : ∃ v, qX6_isDigit x h = some (v, h) ∧ ((v = 0 ∧ paD x.toInt = false) ∨ (v = 1 ∧ paD x.toInt = true)) := by
  have no : ¬ (48 ≤ x.toInt ∧ x.toInt ≤ 57) → paD x.toInt = false := fun c => decide_eq_false c
  refine sat_fl ?_
  unfold qX6_isDigit BX6_isDigit_0
  refine sat_ite (fun d => ?_) fun d => sat_ite (fun d2 => ?_) fun d2 => ?_
  · rw [n_lt, l_48] at d
    exact sat_ret ⟨rfl, Or.inl ⟨rfl, no (by omega)⟩⟩
  · rw [n_lt, l_57] at d2
    exact sat_ret ⟨rfl, Or.inl ⟨rfl, no (by omega)⟩⟩
  · rw [n_lt, l_48] at d
    rw [n_lt, l_57] at d2
    exact sat_ret ⟨rfl, Or.inr ⟨rfl, paD_iff.mpr (by omega)⟩⟩
theorem c_isSign (x : Int32) (h : ea_H) : ∃ v, qX6_isSign x h = some (v, h) ∧ ((v = 0 ∧ paG x.toInt = false) ∨ (v = 1 ∧ paG x.toInt = true)) := by
  refine sat_fl ?_
  unfold qX6_isSign BX6_isSign_0
  refine sat_ite (fun c => sat_ret ⟨rfl, Or.inr ⟨rfl, paG_iff.mpr (by omega)⟩⟩) fun c40 => ?_
  refine sat_ite (fun c => sat_ret ⟨rfl, Or.inr ⟨rfl, paG_iff.mpr (by omega)⟩⟩) fun c41 => ?_
  refine sat_ite (fun c => sat_ret ⟨rfl, Or.inr ⟨rfl, paG_iff.mpr (by omega)⟩⟩) fun c42 => ?_
  refine sat_ite (fun c => sat_ret ⟨rfl, Or.inr ⟨rfl, paG_iff.mpr (by omega)⟩⟩) fun c43 => ?_
  refine sat_ite (fun c => sat_ret ⟨rfl, Or.inl ⟨rfl, decide_eq_false (by omega)⟩⟩) fun c44 => ?_
  refine sat_ite (fun c => sat_ret ⟨rfl, Or.inr ⟨rfl, paG_iff.mpr (by omega)⟩⟩) fun c45 => ?_
  refine sat_ite (fun c => sat_ret ⟨rfl, Or.inl ⟨rfl, decide_eq_false (by omega)⟩⟩) fun c46 => ?_
  refine sat_ite (fun c => sat_ret ⟨rfl, Or.inr ⟨rfl, paG_iff.mpr (by omega)⟩⟩) fun c47 => ?_
  refine sat_ite (fun c => sat_ret ⟨rfl, Or.inl ⟨rfl, decide_eq_false (by omega)⟩⟩) fun c48 => ?_
  refine sat_ite (fun c => sat_ret ⟨rfl, Or.inl ⟨rfl, decide_eq_false (by omega)⟩⟩) fun c49 => ?_
  refine sat_ite (fun c => sat_ret ⟨rfl, Or.inl ⟨rfl, decide_eq_false (by omega)⟩⟩) fun c50 => ?_
  refine sat_ite (fun c => sat_ret ⟨rfl, Or.inl ⟨rfl, decide_eq_false (by omega)⟩⟩) fun c51 => ?_
  refine sat_ite (fun c => sat_ret ⟨rfl, Or.inl ⟨rfl, decide_eq_false (by omega)⟩⟩) fun c52 => ?_
  refine sat_ite (fun c => sat_ret ⟨rfl, Or.inl ⟨rfl, decide_eq_false (by omega)⟩⟩) fun c53 => ?_
  refine sat_ite (fun c => sat_ret ⟨rfl, Or.inl ⟨rfl, decide_eq_false (by omega)⟩⟩) fun c54 => ?_
  refine sat_ite (fun c => sat_ret ⟨rfl, Or.inl ⟨rfl, decide_eq_false (by omega)⟩⟩) fun c55 => ?_
  refine sat_ite (fun c => sat_ret ⟨rfl, Or.inl ⟨rfl, decide_eq_false (by omega)⟩⟩) fun c56 => ?_
  refine sat_ite (fun c => sat_ret ⟨rfl, Or.inl ⟨rfl, decide_eq_false (by omega)⟩⟩) fun c57 => ?_
  refine sat_ite (fun c => sat_ret ⟨rfl, Or.inl ⟨rfl, decide_eq_false (by omega)⟩⟩) fun c58 => ?_
  refine sat_ite (fun c => sat_ret ⟨rfl, Or.inr ⟨rfl, paG_iff.mpr (by omega)⟩⟩) fun c59 => ?_
  refine sat_ite (fun c => sat_ret ⟨rfl, Or.inr ⟨rfl, paG_iff.mpr (by omega)⟩⟩) fun c60 => ?_
  refine sat_ite (fun c => sat_ret ⟨rfl, Or.inr ⟨rfl, paG_iff.mpr (by omega)⟩⟩) fun c61 => ?_
  refine sat_ite (fun c => sat_ret ⟨rfl, Or.inr ⟨rfl, paG_iff.mpr (by omega)⟩⟩) fun c62 => ?_
  exact sat_ret ⟨rfl, Or.inl ⟨rfl, decide_eq_false (by omega)⟩⟩
/-- a token was added -/
def AT (h : ea_H) (c k s v : Nat) (h' : ea_H) : Prop := fq [(26, 26)] [((24, 24), 5, 5)] h h' ∧ hI h' 24 5 = ((c + 1 : Nat) : Int) ∧ hI h' 26 c = ((v * 131072 + s * 128 + k : Nat) : Int) ∧ ∀ j, j ≠ c → hI h' 26 j = hI h 26 j
theorem c_addToken {x1 x2 x3 : Int32} {c k s v : Nat} {h : ea_H} (e1 : x1.toInt = k) (hk : k < 128) (e2 : x2.toInt = s) (hs : s < 1024) (e3 : x3.toInt = v) (hv : v < 16384) (hc : hI h 24 5 = c) (hc6 : c ≤ 600) : sat (qX6_addToken x1 x2 x3 h) fun y => AT h c k s v y.2 := by
  have vc : (ea_i h 24 5).toInt = c := hc
  have ic : (ea_i h 24 5).toNatClampNeg = c := by
    rw [n_idx, vc]
    rfl
  have a1 : (x3 <<< ((17 : Int32) &&& 31)).toInt = x3.toInt * 131072 := s_shl_17 (by omega) (by omega)
  have a2 : (x2 <<< ((7 : Int32) &&& 31)).toInt = x2.toInt * 128 := s_shl_7 (by omega) (by omega)
  have a3 : ((x3 <<< ((17 : Int32) &&& 31)) ||| (x2 <<< ((7 : Int32) &&& 31))).toInt = x3.toInt * 131072 + x2.toInt * 128 := by
    rw [s_or 17 (by rw [a1]; omega) (by rw [a1]; show x3.toInt * 131072 % 131072 = 0; omega) (by rw [a2]; omega) (by rw [a2]; show x2.toInt * 128 < 131072; omega), a1, a2]
  have a4 : (((x3 <<< ((17 : Int32) &&& 31)) ||| (x2 <<< ((7 : Int32) &&& 31))) ||| x1).toInt = ((v * 131072 + s * 128 + k : Nat) : Int) := by
    rw [s_or 7 (by rw [a3]; omega) (by rw [a3]; show (x3.toInt * 131072 + x2.toInt * 128) % 128 = 0; omega) (by omega) (by show x1.toInt < 128; omega), a3, e1, e2, e3]
    omega
  unfold qX6_addToken BX6_addToken_0
  rw [ic]
  refine sat_neg (by rw [n_le, vc, l_601]; omega) (sat_gd (vp80 vc (by omega)) (sat_let fun H2 q2 => sat_let fun H3 q3 => sat_ret ?_))
  have c2 : hI H2 24 5 = c := by rw [q2, hI_ne (by decide), hc]
  refine ⟨(q2 ▸ fq_wi rfl : fq [(26, 26)] [((24, 24), 5, 5)] h H2).tr (q3 ▸ fq_wf rfl), ?_, ?_, fun j hj => ?_⟩
  · show hI H3 24 5 = _
    rw [q3, hI_at, n_inc c2 (by omega)]
  · show hI H3 26 c = _
    rw [q3, hI_ne (by decide), q2, hI_at, a4]
  · show hI H3 26 j = _
    rw [q3, hI_ne (by decide), q2, hI_nk hj]
/-- the class's tape -/
def TpC (h : ea_H) (b : Nat → Int) (n : Nat) : Prop := hI h 24 0 = n ∧ n ≤ 600 ∧ ∀ k, k < n → hI h 25 k = b k ∧ 0 ≤ b k ∧ b k < 256
section SC
variable {b : Nat → Int} {n i c : Nat} {x1 : Int32} {h : ea_H}
theorem c_scanWord (tp : TpC h b n) (hc : hI h 24 5 = c) (hc6 : c ≤ 600) (e1 : x1.toInt = i) (hi : i < n) (hl : paL (b i) = true) : sat (qX6_scanWord x1 h) fun y => AT h c (paW (paR b i (paE (fun i => paL (b i)) n i - i))) i 0 y.2 := by
  obtain ⟨hn, hn6, hb⟩ := tp
  obtain ⟨a1, a2, a3, a4⟩ := paE_all (f := fun i => paL (b i)) (n := n) (q := i) (by omega)
  revert a1 a2 a3 a4
  generalize paE (fun i => paL (b i)) n i = E
  intro a1 a2 a3 a4
  have vn : (ea_i h 24 0).toInt = n := hn
  have dg : ∀ j, i ≤ j → j < E → 1 ≤ b j ∧ b j ≤ 255 := fun j h1 h2 => by
    have := paL_iff.mp (a3 j h1 h2)
    omega
  have dgk : ∀ k, k ≤ E - i → ∀ x ∈ paR b i k, 1 ≤ x ∧ x ≤ 255 := fun k hk => paR_dig fun j h1 h2 => dg j h1 (by omega)
  have L69 : ∀ (j w : Nat) (x5 x6 : Int32) (y2 : Int64), w + j = 18 → x6.toInt = w → x5.toInt = paU (paR b i (E - i)) w → (y2.toInt = if E - i ≤ 6 then paZ (paR b i (E - i)) else -1) → sat (qX6_scanWord_69 x1 y2 x5 x6 h) fun y => AT h c (paW (paR b i (E - i))) i 0 y.2 := by
    intro j
    induction j with
    | zero =>
      intro w x5 x6 y2 hw e6 e5 ey
      have u := paU_b (paR b i (E - i)) 18 (by omega)
      rw [show w = 18 by omega] at e5
      refine uqX6_scanWord_69 ?_
      unfold BX6_scanWord_69
      refine sat_pos (by rw [n_le, e6, l_18]; omega) (sat_bind (c_addToken e5 (by omega) e1 (by omega) (v := 0) rfl (by decide) hc hc6) fun w8 hw8 => sat_ret hw8)
    | succ j ih =>
      intro w x5 x6 y2 hw e6 e5 ey
      have ic : x6.toNatClampNeg = w := by
        rw [n_idx, e6]
        rfl
      have m := pa_match (b := b) (q := i) (k := E - i) (w := w) (by omega) (dgk _ (Nat.le_refl _)) ey
      refine uqX6_scanWord_69 ?_
      unfold BX6_scanWord_69
      rw [ic]
      refine sat_neg (by rw [n_le, e6, l_18]; omega) (sat_gd (vp80 e6 (by omega)) (sat_ite (fun z => ?_) fun z => ?_))
      · exact ih (w + 1) x6 (x6 + 1) y2 (by omega) (n_inc e6 (by omega)) (by rw [e6]; exact congrArg Int.ofNat (if_pos (m.mp z)).symm) ey
      · exact ih (w + 1) x5 (x6 + 1) y2 (by omega) (n_inc e6 (by omega)) (e5.trans (congrArg Int.ofNat (if_neg fun q => z (m.mpr q)).symm)) ey
  have L5 : ∀ (d k : Nat) (x4 : Int32) (y2 : Int64), k + d = E - i → x4.toInt = ((i + k : Nat) : Int) → (y2.toInt = if k ≤ 6 then paZ (paR b i k) else -1) → sat (qX6_scanWord_5 x1 y2 x4 h) fun y => AT h c (paW (paR b i (E - i))) i 0 y.2 := by
    intro d
    induction d with
    | zero =>
      intro k x4 y2 hk e4 ey
      have ek : k = E - i := by omega
      have e4' : x4.toInt = E := by omega
      subst ek
      have fin := L69 18 0 20 0 y2 rfl rfl rfl ey
      refine uqX6_scanWord_5 ?_
      unfold BX6_scanWord_5
      refine sat_ite (fun z => fin) fun z => ?_
      rw [n_le, vn, e4'] at z
      have ic : x4.toNatClampNeg = E := by
        rw [n_idx, e4']
        rfl
      rw [ic]
      obtain ⟨v, q, s⟩ := c_isLetter (ea_i h 25 E) h
      have hv : (ea_i h 25 E).toInt = b E := (hb E (by omega)).1
      refine sat_gd (vp80 e4' (by omega)) (sat_call q ?_)
      rcases s with ⟨s, -⟩ | ⟨s, s2⟩
      · exact sat_pos s fin
      · rw [hv] at s2
        have := a4 (by omega)
        rw [s2] at this
        cases this
    | succ d ih =>
      intro k x4 y2 hk e4 ey
      have ic : x4.toNatClampNeg = i + k := by
        rw [n_idx, e4]
        rfl
      have hv : (ea_i h 25 (i + k)).toInt = b (i + k) := (hb (i + k) (by omega)).1
      have hb2 := (hb (i + k) (by omega)).2
      obtain ⟨v, q, s⟩ := c_isLetter (ea_i h 25 (i + k)) h
      have s2 : paL (b (i + k)) = true := a3 (i + k) (by omega) (by omega)
      have sv : v = 1 := by
        rcases s with ⟨-, s⟩ | ⟨s, -⟩
        · rw [hv, s2] at s
          cases s
        · exact s
      have v6 : (x4 - x1).toInt = k := by
        rw [n_sub, e4, e1, n_bm (by omega) (by omega)]
        omega
      have e4n : (x4 + (1 : Int32)).toInt = ((i + k + 1 : Nat) : Int) := n_inc e4 (by omega)
      refine uqX6_scanWord_5 ?_
      unfold BX6_scanWord_5
      rw [ic]
      refine sat_neg (by rw [n_le, vn, e4]; omega) (sat_gd (vp80 e4 (by omega)) (sat_call q (sat_neg (by rw [sv]; exact i1_ne_0) (sat_ite (fun z => ?_) fun z => ?_))))
      · rw [n_le, v6, l_6] at z
        refine ih (k + 1) (x4 + 1) (-1) (by omega) e4n ?_
        rw [if_neg (by omega)]
        rfl
      · rw [n_le, v6, l_6] at z
        rw [if_pos (by omega)] at ey
        have d1 := dgk k (by omega)
        have p1 := paZ_nn _ d1
        have p2 := paZ_lt d1
        have p3 := pa_p5 k (by omega)
        refine sat_gd (vp80 e4 (by omega)) (sat_let fun v4 q4 => ih (k + 1) (x4 + 1) v4 (by omega) e4n ?_)
        have b1 : (y2 <<< (Int32.toInt64 8 &&& 63)).toInt = y2.toInt * 256 := s_shlJ (k := 8) (by omega) rfl (by decide) (by show y2.toInt * 256 < _; omega)
        have b2 : (Int32.toInt64 (ea_i h 25 (i + k))).toInt = b (i + k) := by rw [n_i2l, hv]
        have q4 : v4 = (y2 <<< (Int32.toInt64 8 &&& 63)) ||| (Int32.toInt64 (ea_i h 25 (i + k))) := q4
        rw [q4, s_orJ 8 (by rw [b1]; omega) (by rw [b1]; show y2.toInt * 256 % 256 = 0; omega) (by rw [b2]; omega) (by rw [b2]; show b (i + k) < 256; omega), b1, b2, ey, if_pos (by omega)]
        show _ = 256 * paZ (paR b i k) + b (i + k)
        omega
  unfold qX6_scanWord
  refine uqX6_scanWord_0 ?_
  unfold BX6_scanWord_0
  exact L5 (E - i) 0 x1 0 (by omega) (by rw [e1]; rfl) rfl
theorem c_scanNumber (tp : TpC h b n) (hc : hI h 24 5 = c) (hc6 : c ≤ 600) (e1 : x1.toInt = i) (hi : i < n) (hnl : paL (b i) = false) (hl : paD (b i) = true) : sat (qX6_scanNumber x1 h) fun y => AT h c (paK b n i) i (paV b n i).toNat y.2 := by
  obtain ⟨hn, hn6, hb⟩ := tp
  obtain ⟨a1, a2, a3, a4⟩ := paE_all (f := fun i => paD (b i)) (n := n) (q := i) (by omega)
  have kE : paK b n i = if paE (fun i => paD (b i)) n i ≤ i + 4 then 18 else 20 := by
    unfold paK
    rw [if_neg (by omega), if_neg (by rw [hnl]; decide), if_pos hl]
  have vE : paV b n i = if paE (fun i => paD (b i)) n i ≤ i + 4 then paM b i (paE (fun i => paD (b i)) n i - i) else 0 := by
    unfold paV
    rw [kE]
    by_cases z : paE (fun i => paD (b i)) n i ≤ i + 4
    · rw [if_pos z, if_pos rfl, if_pos z]
    · rw [if_neg z, if_neg (by decide), if_neg z]
  rw [kE, vE]
  clear kE vE
  revert a1 a2 a3 a4
  generalize paE (fun i => paD (b i)) n i = E
  intro a1 a2 a3 a4
  have vn : (ea_i h 24 0).toInt = n := hn
  have fin : ∀ (x2 : Int32), (x2.toInt = if E - i ≤ 4 then paM b i (E - i) else -1) → sat (qX6_scanNumber_56 x1 x2 h) fun y => AT h c (if E ≤ i + 4 then 18 else 20) i (if E ≤ i + 4 then paM b i (E - i) else 0).toNat y.2 := by
    intro x2 e2
    have F : ∀ (k : Nat) (x0 : Int32) (v : Nat), x0.toInt = k → k < 128 → (if x2 < (0 : Int32) then (0 : Int32) else x2).toInt = v → v < 16384 → sat (qX6_addToken x0 x1 (if x2 < (0 : Int32) then (0 : Int32) else x2) h) fun y => AT h c k i v y.2 := fun k x0 v e0 hk ev hv => c_addToken e0 hk e1 (by omega) ev hv hc hc6
    refine uqX6_scanNumber_56 ?_
    unfold BX6_scanNumber_56
    by_cases z : E ≤ i + 4
    · rw [if_pos (by omega)] at e2
      have m := paM_b (b := b) (q := i) (k := E - i) (by omega) fun j h1 h2 => paD_iff.mp (a3 j h1 (by omega))
      have m2 := pa_p4 (E - i) (by omega)
      rw [if_pos z, if_pos z]
      refine sat_neg (by rw [n_eq, l_m1]; omega) (sat_bind (F 18 18 _ rfl (by decide) ?_ (by omega)) fun w8 hw8 => sat_ret hw8)
      rw [if_neg (by rw [n_lt, l_0]; omega), e2]
      omega
    · rw [if_neg (by omega)] at e2
      rw [if_neg z, if_neg z]
      refine sat_pos (by rw [n_eq, l_m1]; omega) (sat_bind (F 20 20 0 rfl (by decide) ?_ (by decide)) fun w9 hw9 => sat_ret hw9)
      rw [if_pos (by rw [n_lt, l_0]; omega)]
      rfl
  have L4 : ∀ (d k : Nat) (x2 x3 : Int32), k + d = E - i → x3.toInt = ((i + k : Nat) : Int) → (x2.toInt = if k ≤ 4 then paM b i k else -1) → sat (qX6_scanNumber_4 x1 x2 x3 h) fun y => AT h c (if E ≤ i + 4 then 18 else 20) i (if E ≤ i + 4 then paM b i (E - i) else 0).toNat y.2 := by
    intro d
    induction d with
    | zero =>
      intro k x2 x3 hk e3 e2
      have ek : k = E - i := by omega
      have e3' : x3.toInt = E := by omega
      subst ek
      have fin := fin x2 e2
      refine uqX6_scanNumber_4 ?_
      unfold BX6_scanNumber_4
      refine sat_ite (fun z => fin) fun z => ?_
      rw [n_le, vn, e3'] at z
      have ic : x3.toNatClampNeg = E := by
        rw [n_idx, e3']
        rfl
      rw [ic]
      obtain ⟨v, q, s⟩ := c_isDigit (ea_i h 25 E) h
      have hv : (ea_i h 25 E).toInt = b E := (hb E (by omega)).1
      refine sat_gd (vp80 e3' (by omega)) (sat_call q ?_)
      rcases s with ⟨s, -⟩ | ⟨s, s2⟩
      · exact sat_pos s fin
      · rw [hv] at s2
        have := a4 (by omega)
        rw [s2] at this
        cases this
    | succ d ih =>
      intro k x2 x3 hk e3 e2
      have ic : x3.toNatClampNeg = i + k := by
        rw [n_idx, e3]
        rfl
      have hv : (ea_i h 25 (i + k)).toInt = b (i + k) := (hb (i + k) (by omega)).1
      obtain ⟨v, q, s⟩ := c_isDigit (ea_i h 25 (i + k)) h
      have s2 : paD (b (i + k)) = true := a3 (i + k) (by omega) (by omega)
      have sv : v = 1 := by
        rcases s with ⟨-, s⟩ | ⟨s, -⟩
        · rw [hv, s2] at s
          cases s
        · exact s
      have v6 : (x3 - x1).toInt = k := by
        rw [n_sub, e3, e1, n_bm (by omega) (by omega)]
        omega
      have e3n : (x3 + (1 : Int32)).toInt = ((i + k + 1 : Nat) : Int) := n_inc e3 (by omega)
      refine uqX6_scanNumber_4 ?_
      unfold BX6_scanNumber_4
      rw [ic]
      refine sat_neg (by rw [n_le, vn, e3]; omega) (sat_gd (vp80 e3 (by omega)) (sat_call q (sat_neg (by rw [sv]; exact i1_ne_0) (sat_ite (fun z => ?_) fun z => ?_))))
      · rw [n_le, v6, l_4] at z
        refine ih (k + 1) (-1) (x3 + 1) (by omega) e3n ?_
        rw [if_neg (by omega)]
        rfl
      · rw [n_le, v6, l_4] at z
        rw [if_pos (by omega)] at e2
        have m := paM_b (b := b) (q := i) (k := k) (by omega) fun j h1 h2 => paD_iff.mp (a3 j h1 (by omega))
        have m2 := pa_p4 k (by omega)
        have m3 := paD_iff.mp s2
        refine sat_gd (vp80 e3 (by omega)) (sat_let fun v4 q4 => ih (k + 1) v4 (x3 + 1) (by omega) e3n ?_)
        have q4 : v4 = ((x2 * (10 : Int32)) + ea_i h 25 (i + k)) - (48 : Int32) := q4
        have c1 : (x2 * (10 : Int32)).toInt = x2.toInt * 10 := by rw [n_mul, l_10, n_bm (by omega) (by omega)]
        have c2 : ((x2 * (10 : Int32)) + ea_i h 25 (i + k)).toInt = x2.toInt * 10 + b (i + k) := by rw [n_add, c1, hv, n_bm (by omega) (by omega)]
        rw [q4, n_sub, c2, l_48, n_bm (by omega) (by omega), e2, if_pos (by omega)]
        show _ = 10 * paM b i k + b (i + k) - 48
        omega
  unfold qX6_scanNumber
  refine uqX6_scanNumber_0 ?_
  unfold BX6_scanNumber_0
  exact L4 (E - i) 0 0 x1 (by omega) (by rw [e1]; rfl) rfl
/-- a token in one int -/
def paT (b : Nat → Int) (n e : Nat) : Nat := (paV b n (paS b n e)).toNat * 131072 + paS b n e * 128 + paK b n (paS b n e)
/-- the tokens that the class has found: c of them, and the end -/
def TkC (h : ea_H) (b : Nat → Int) (n c : Nat) : Prop := hI h 24 5 = ((c + 1 : Nat) : Int) ∧ c ≤ n ∧ paK b n (paS b n c) = 19 ∧ (∀ j, j < c → paK b n (paS b n j) ≠ 19) ∧ ∀ j, j ≤ c → hI h 26 j = paT b n j
theorem TpC.fq {h' : ea_H} (f : fq [(26, 26)] [((24, 24), 5, 5)] h h') (tp : TpC h b n) : TpC h' b n := ⟨(f.I 24 rfl 0 rfl).trans tp.1, tp.2.1, fun k hk => ⟨(f.C 25 rfl rfl k).trans (tp.2.2 k hk).1, (tp.2.2 k hk).2⟩⟩
theorem pa_LD {c : Int} (h : paL c = true) : paD c = false := pa_no fun q => by
  have := paL_iff.mp h
  have := paD_iff.mp q
  omega
theorem pa_DL {c : Int} (h : paD c = true) : paL c = false := pa_no fun q => by
  have := paL_iff.mp q
  have := paD_iff.mp h
  omega
/-- the walk stands at i, c tokens were found: it looks for the next, or it is amid the last -/
def PaI (b : Nat → Int) (n i c : Nat) : Prop := (paQ b n i = paS b n c ∧ ∀ k, i = k + 1 → i < n → (paL (b i) = true → paL (b k) = false) ∧ (paD (b i) = true → paD (b k) = false)) ∨ ∃ k, i = k + 1 ∧ i < paP b n c ∧ paP b n c ≤ n ∧ ∃ f : Int → Bool, (f = paL ∨ f = paD) ∧ (∀ j, k ≤ j → j < paP b n c → f (b j) = true) ∧ (paP b n c < n → f (b (paP b n c)) = false)
theorem PaI.go {f : Int → Bool} {k : Nat} (hk : i = k + 1) (h1 : i ≤ paP b n c) (h2 : paP b n c ≤ n) (hf : f = paL ∨ f = paD) (h3 : ∀ j, k ≤ j → j < paP b n c → f (b j) = true) (h4 : paP b n c < n → f (b (paP b n c)) = false) : PaI b n i c := by
  by_cases z : i < paP b n c
  · exact Or.inr ⟨k, hk, z, h2, f, hf, h3, h4⟩
  · have e : i = paP b n c := by omega
    refine Or.inl ⟨by rw [e]; rfl, fun k' e' hi => ?_⟩
    have ek : k' = k := by omega
    rw [ek]
    have a := h3 k (Nat.le_refl _) (by omega)
    have a2 := h4 (by omega)
    rw [← e] at a2
    rcases hf with rfl | rfl
    · exact ⟨fun q => (by rw [q] at a2; cases a2), fun _ => pa_LD a⟩
    · exact ⟨fun _ => pa_DL a, fun q => (by rw [q] at a2; cases a2)⟩
theorem c_scan (tp : TpC h b n) : sat (qX6_scan h) fun y => fq [(26, 26)] [((24, 24), 5, 5)] h y.2 ∧ ∃ c, TkC y.2 b n c := by
  have n6 := tp.2.1
  have fin : ∀ (i c : Nat) (x1 : Int32) (hh : ea_H), i = n → x1.toInt = i → fq [(26, 26)] [((24, 24), 5, 5)] h hh → hI hh 24 5 = c → c ≤ i → PaI b n i c → (∀ j, j < c → paK b n (paS b n j) ≠ 19 ∧ hI hh 26 j = paT b n j) → sat (qX6_scan_7 x1 hh) fun y => fq [(26, 26)] [((24, 24), 5, 5)] h y.2 ∧ ∃ c, TkC y.2 b n c := by
    intro i c x1 hh ei e1 F hc hci hq ht
    have hq : paQ b n i = paS b n c := by
      rcases hq with hq | ⟨k, -, h1, h2, -⟩
      · exact hq.1
      · omega
    subst ei
    have tp2 := TpC.fq F tp
    have vn : (ea_i hh 24 0).toInt = i := tp2.1
    have sc : paS b i c = i := by
      rw [← hq]
      exact paE_end (Nat.le_refl _)
    have k19 : paK b i (paS b i c) = 19 := by
      rw [sc]
      exact if_pos (Nat.le_refl _)
    have v0 : paV b i (paS b i c) = 0 := by
      unfold paV
      rw [k19]
      rfl
    refine uqX6_scan_7 ?_
    unfold BX6_scan_7
    refine sat_pos (by rw [n_le, vn, e1]; omega) (sat_bind (c_addToken (k := 19) (v := 0) rfl (by decide) vn (by omega) rfl (by decide) hc (by omega)) fun w2 hw => sat_ret ⟨F.tr hw.1, c, hw.2.1, hci, k19, fun j hj => (ht j hj).1, fun j hj => ?_⟩)
    by_cases z : j = c
    · rw [z, hw.2.2.1]
      unfold paT
      rw [v0, sc, show paK b i i = 19 from if_pos (Nat.le_refl _)]
      rfl
    · rw [hw.2.2.2 j z]
      exact (ht j (by omega)).2
  have L : ∀ (d i c : Nat) (x1 : Int32) (hh : ea_H), n ≤ i + d → i ≤ n → x1.toInt = i → fq [(26, 26)] [((24, 24), 5, 5)] h hh → hI hh 24 5 = c → c ≤ i → PaI b n i c → (∀ j, j < c → paK b n (paS b n j) ≠ 19 ∧ hI hh 26 j = paT b n j) → sat (qX6_scan_7 x1 hh) fun y => fq [(26, 26)] [((24, 24), 5, 5)] h y.2 ∧ ∃ c, TkC y.2 b n c := by
    intro d
    induction d with
    | zero => exact fun i c x1 hh hd hi => fin i c x1 hh (by omega)
    | succ d ih =>
      intro i c x1 hh hd hi e1 F hc hci hq ht
      by_cases zn : n ≤ i
      · exact fin i c x1 hh (by omega) e1 F hc hci hq ht
      have tp2 := TpC.fq F tp
      have vn : (ea_i hh 24 0).toInt = n := tp2.1
      have ic : x1.toNatClampNeg = i := by
        rw [n_idx, e1]
        rfl
      have hv : (ea_i hh 25 i).toInt = b i := (tp2.2.2 i (by omega)).1
      have vk := paV_b (b := b) (n := n) (q := i) (by omega)
      have kk := paK_lt b n i
      have k19 : paK b n i ≠ 19 := fun q => zn ((paK_b b n i).2.1.mp q)
      have e2 : (x1 + (1 : Int32)).toInt = ((i + 1 : Nat) : Int) := n_inc e1 (by omega)
      -- the byte ahead
      have bk : ∀ k, i = k + 1 → (x1 - (1 : Int32)).toInt = k ∧ (ea_i hh 25 (Int32.toNatClampNeg (x1 - (1 : Int32)))).toInt = b k := by
        intro k ek
        have e3 : (x1 - (1 : Int32)).toInt = k := by
          rw [n_pred (by omega), e1]
          omega
        have e4 : (x1 - (1 : Int32)).toNatClampNeg = k := by
          rw [n_idx, e3]
          rfl
        rw [e4]
        exact ⟨e3, (tp2.2.2 k (by omega)).1⟩
      -- a token was laid
      have nx : ∀ (h2 : ea_H), paS b n c = i → PaI b n (i + 1) (c + 1) → AT hh c (paK b n i) i (paV b n i).toNat h2 → sat (qX6_scan_7 (x1 + (1 : Int32)) h2) fun y => fq [(26, 26)] [((24, 24), 5, 5)] h y.2 ∧ ∃ c, TkC y.2 b n c := by
        intro h2 sc hp hw
        refine ih (i + 1) (c + 1) _ h2 (by omega) (by omega) e2 (F.tr hw.1) hw.2.1 (by omega) hp fun j hj => ?_
        by_cases z : j = c
        · rw [z, hw.2.2.1, sc]
          refine ⟨k19, ?_⟩
          unfold paT
          rw [sc]
        · rw [hw.2.2.2 j z]
          exact ht j (by omega)
      refine uqX6_scan_7 ?_
      unfold BX6_scan_7
      rw [ic]
      obtain ⟨u, q5, s5⟩ := c_isLetter (ea_i hh 25 i) hh
      rw [hv] at s5
      refine sat_neg (by rw [n_le, vn, e1]; omega) (sat_gd (vp80 e1 (by omega)) (sat_sub (sat_call q5 ?_)))
      obtain ⟨u2, q7, s7⟩ := c_isDigit (ea_i hh 25 i) hh
      rw [hv] at s7
      rcases hq with ⟨hq, hg⟩ | ⟨k, ek, g1, g2, f, hf, g3, g4⟩
      · rcases s5 with ⟨s5, s6⟩ | ⟨s5, s6⟩
        · refine sat_pos s5 (sat_call q7 ?_)
          rcases s7 with ⟨s7, s8⟩ | ⟨s7, s8⟩
          · refine sat_pos s7 ?_
            by_cases zb : paB (b i) = true
            · have go := ih (i + 1) c (x1 + 1) hh (by omega) (by omega) e2 F hc (by omega) (Or.inl ⟨(paE_go (by omega) zb).symm.trans hq, fun k' e' _ => by
                have ek : k' = i := by omega
                rw [ek]
                exact ⟨fun _ => s6, fun _ => s8⟩⟩) ht
              refine sat_ite (fun _ => go) fun z1 => sat_ite (fun _ => go) fun z2 => ?_
              rw [n_eq, hv, l_32] at z1
              rw [n_eq, hv, l_10] at z2
              have := paB_iff.mp zb
              omega
            · have sc : paS b n c = i := hq.symm.trans (paE_no (pa_no zb))
              have zb2 : ¬ (b i = 32 ∨ b i = 10) := fun q => zb (paB_iff.mpr q)
              have en : paN b n i = i + 1 := by
                unfold paN
                rw [if_neg zn, if_neg (by rw [s6]; decide), if_neg (by rw [s8]; decide)]
              have hp : PaI b n (i + 1) (c + 1) := Or.inl ⟨by
                show _ = paQ b n (paN b n (paS b n c))
                rw [sc, en], fun k' e' _ => by
                have ek : k' = i := by omega
                rw [ek]
                exact ⟨fun _ => s6, fun _ => s8⟩⟩
              refine sat_neg (by rw [n_eq, hv, l_32]; omega) (sat_neg (by rw [n_eq, hv, l_10]; omega) ?_)
              obtain ⟨u3, q9, s9⟩ := c_isSign (ea_i hh 25 i) hh
              rw [hv] at s9
              refine sat_call q9 ?_
              have kE : paK b n i = if paG (b i) = true then (b i).toNat else 20 := by
                unfold paK
                rw [if_neg zn, if_neg (by rw [s6]; decide), if_neg (by rw [s8]; decide)]
              have v0 : (paV b n i).toNat = 0 := by
                unfold paV
                by_cases w : paK b n i = 18
                · have := ((paK_b b n i).2.2 w).1.2
                  rw [s8] at this
                  cases this
                · rw [if_neg w]
                  rfl
              rcases s9 with ⟨s9, s10⟩ | ⟨s9, s10⟩
              · rw [if_neg (by rw [s10]; decide)] at kE
                refine sat_pos s9 (sat_bind (c_addToken (k := 20) (v := 0) rfl (by decide) e1 (by omega) rfl (by decide) hc (by omega)) fun w8 hw => ?_)
                exact nx _ sc hp (by rw [kE, v0]; exact hw)
              · rw [if_pos s10] at kE
                have c4 := paG_iff.mp s10
                refine sat_neg (by rw [s9]; exact i1_ne_0) (sat_bind (c_addToken (k := (b i).toNat) (v := 0) (by rw [hv]; omega) (by omega) e1 (by omega) rfl (by decide) hc (by omega)) fun w8 hw => ?_)
                exact nx _ sc hp (by rw [kE, v0]; exact hw)
          · have zb : ¬ paB (b i) = true := fun q => by
              have := paB_iff.mp q
              have := paD_iff.mp s8
              omega
            have sc : paS b n c = i := hq.symm.trans (paE_no (pa_no zb))
            have en : paN b n i = paE (fun i => paD (b i)) n i := by
              unfold paN
              rw [if_neg zn, if_neg (by rw [s6]; decide), if_pos s8]
            obtain ⟨a1, a2, a3, a4⟩ := paE_all (f := fun i => paD (b i)) hi
            have a5 := paE_lt (f := fun i => paD (b i)) (n := n) (q := i) (by omega) s8
            have eP : paP b n (c + 1) = paE (fun i => paD (b i)) n i := by
              show paN b n (paS b n c) = _
              rw [sc, en]
            have hp : PaI b n (i + 1) (c + 1) := PaI.go (f := paD) rfl (by rw [eP]; omega) (by rw [eP]; omega) (Or.inr rfl) (by rw [eP]; exact a3) (by rw [eP]; exact a4)
            refine sat_neg (by rw [s7]; exact i1_ne_0) ?_
            have wd := sat_bind (f := fun w => qX6_scan_7 (x1 + (1 : Int32)) w.2) (c_scanNumber tp2 hc (by omega) e1 (by omega) s6 s8) fun w13 hw => nx _ sc hp hw
            refine sat_ite (fun _ => wd) fun z => ?_
            rw [n_eq, e1, l_0] at z
            obtain ⟨k, ek⟩ : ∃ k, i = k + 1 := ⟨i - 1, by omega⟩
            obtain ⟨b1, b2⟩ := bk k ek
            obtain ⟨u3, q9, s9⟩ := c_isDigit (ea_i hh 25 (Int32.toNatClampNeg (x1 - (1 : Int32)))) hh
            rw [b2] at s9
            refine sat_gd (vp80 b1 (by omega)) (sat_call q9 ?_)
            rcases s9 with ⟨s9, -⟩ | ⟨s9, s10⟩
            · exact sat_pos s9 wd
            · rw [(hg k ek (by omega)).2 s8] at s10
              cases s10
        · have zb : ¬ paB (b i) = true := fun q => by
            have := paB_iff.mp q
            have := paL_iff.mp s6
            omega
          have sc : paS b n c = i := hq.symm.trans (paE_no (pa_no zb))
          have en : paN b n i = paE (fun i => paL (b i)) n i := by
            unfold paN
            rw [if_neg zn, if_pos s6]
          have kE : paK b n i = paW (paR b i (paE (fun i => paL (b i)) n i - i)) := by
            unfold paK
            rw [if_neg zn, if_pos s6]
          have v0 : (paV b n i).toNat = 0 := by
            unfold paV
            by_cases w : paK b n i = 18
            · have := ((paK_b b n i).2.2 w).1.1
              rw [s6] at this
              cases this
            · rw [if_neg w]
              rfl
          obtain ⟨a1, a2, a3, a4⟩ := paE_all (f := fun i => paL (b i)) hi
          have a5 := paE_lt (f := fun i => paL (b i)) (n := n) (q := i) (by omega) s6
          have eP : paP b n (c + 1) = paE (fun i => paL (b i)) n i := by
            show paN b n (paS b n c) = _
            rw [sc, en]
          have hp : PaI b n (i + 1) (c + 1) := PaI.go (f := paL) rfl (by rw [eP]; omega) (by rw [eP]; omega) (Or.inl rfl) (by rw [eP]; exact a3) (by rw [eP]; exact a4)
          refine sat_neg (by rw [s5]; exact i1_ne_0) ?_
          have wd := sat_bind (f := fun w => qX6_scan_7 (x1 + (1 : Int32)) w.2) (c_scanWord tp2 hc (by omega) e1 (by omega) s6) fun w15 hw => nx _ sc hp (by rw [kE, v0]; exact hw)
          refine sat_ite (fun _ => wd) fun z => ?_
          rw [n_eq, e1, l_0] at z
          obtain ⟨k, ek⟩ : ∃ k, i = k + 1 := ⟨i - 1, by omega⟩
          obtain ⟨b1, b2⟩ := bk k ek
          obtain ⟨u3, q9, s9⟩ := c_isLetter (ea_i hh 25 (Int32.toNatClampNeg (x1 - (1 : Int32)))) hh
          rw [b2] at s9
          refine sat_gd (vp80 b1 (by omega)) (sat_call q9 ?_)
          rcases s9 with ⟨s9, -⟩ | ⟨s9, s10⟩
          · exact sat_pos s9 wd
          · rw [(hg k ek (by omega)).1 s6] at s10
            cases s10
      · have go := ih (i + 1) c (x1 + 1) hh (by omega) (by omega) e2 F hc (by omega) (PaI.go rfl (by omega) g2 hf (fun j h1 h2 => g3 j (by omega) h2) g4) ht
        have fi := g3 i (by omega) g1
        have fk := g3 k (Nat.le_refl _) (by omega)
        obtain ⟨b1, b2⟩ := bk k ek
        have zi : ¬ x1 = (0 : Int32) := by
          rw [n_eq, e1, l_0]
          omega
        rcases hf with rfl | rfl
        · rcases s5 with ⟨s5, s6⟩ | ⟨s5, s6⟩
          · rw [fi] at s6
            cases s6
          obtain ⟨u3, q9, s9⟩ := c_isLetter (ea_i hh 25 (Int32.toNatClampNeg (x1 - (1 : Int32)))) hh
          rw [b2] at s9
          refine sat_neg (by rw [s5]; exact i1_ne_0) (sat_neg zi (sat_gd (vp80 b1 (by omega)) (sat_call q9 ?_)))
          rcases s9 with ⟨s9, s10⟩ | ⟨s9, s10⟩
          · rw [fk] at s10
            cases s10
          · exact sat_neg (by rw [s9]; exact i1_ne_0) go
        · rcases s5 with ⟨s5, s6⟩ | ⟨s5, s6⟩
          · refine sat_pos s5 (sat_call q7 ?_)
            rcases s7 with ⟨s7, s8⟩ | ⟨s7, s8⟩
            · rw [fi] at s8
              cases s8
            obtain ⟨u3, q9, s9⟩ := c_isDigit (ea_i hh 25 (Int32.toNatClampNeg (x1 - (1 : Int32)))) hh
            rw [b2] at s9
            refine sat_neg (by rw [s7]; exact i1_ne_0) (sat_neg zi (sat_gd (vp80 b1 (by omega)) (sat_call q9 ?_)))
            rcases s9 with ⟨s9, s10⟩ | ⟨s9, s10⟩
            · rw [fk] at s10
              cases s10
            · exact sat_neg (by rw [s9]; exact i1_ne_0) go
          · rw [pa_DL fi] at s6
            cases s6
  unfold qX6_scan
  refine uqX6_scan_0 ?_
  unfold BX6_scan_0
  refine sat_let fun H1 q1 => ?_
  exact L n 0 0 0 H1 (by omega) (by omega) rfl (q1 ▸ fq_wf rfl) (by rw [q1, hI_at]; rfl) (by omega) (Or.inl ⟨rfl, fun k ek => absurd ek (by omega)⟩) fun j hj => absurd hj (by omega)
end SC
