/-! the class collects its keys, 2 -/
theorem c_col28 {T : Nat → Nat → Nat → Nat} (ok : tOk T) {P : Unit × ea_H → Prop} {t d : Nat} (ht : t < tN T) (hd : d < 7) {x1 x2 : Int32} (e1 : x1.toInt = t) (e2 : x2.toInt = d) :
    ∀ (n i : Nat) (x3 : Int32) (h : ea_H) (K : List Nat), tS T t - i = n → i ≤ tS T t → x3.toInt = i → cInv T (((t * 7 + d) * 8 + i) * 2) h K →
      (∀ h' K', fr [(13, 14)] h h' → cInv T (((t * 7 + d) * 8 + 8) * 2) h' K' → sat (qX10_collect_20 x1 (x2 + 1) h') P) → sat (qX10_collect_28 x1 x2 x3 h) P := by
  have hn10 := ok.1
  have hs8 := ok.2.1 t (by omega)
  have hidx : x1.toNatClampNeg = t := by
    rw [n_idx, e1]
    omega
  intro n
  induction n with
  | zero =>
    intro i x3 h K hn hi e3 c k20
    have c6 := c.2.1.2.1 t (by omega)
    refine uqX10_collect_28 ?_
    unfold BX10_collect_28
    refine sat_gd (vp80 e1 (by omega)) ?_
    refine sat_pos (by rw [n_le, hI_eq, hidx, c6, e3]; omega) ?_
    refine k20 h K (fr_rfl _ _) (cInv_skip c (by omega) fun x hx h1 h2 => ?_)
    obtain ⟨y1, y2, y3, y4⟩ := hx
    have y5 := kI_lt x
    have y6 := kGo_lt x
    unfold cPos at h1 h2
    have y7 : kT x = t ∧ kD x = d ∧ i ≤ kI x := by omega
    rw [y7.1] at y4
    omega
  | succ n ih =>
    intro i x3 h K hn hi e3 c k20
    have c6 := c.2.1.2.1 t (by omega)
    have b1 : (x1 <<< ((6 : Int32) &&& 31)).toInt = t * 64 := by rw [s_shl_6 (by omega) (by omega), e1]
    have b2 : (x2 <<< ((3 : Int32) &&& 31)).toInt = d * 8 := by rw [s_shl_3 (by omega) (by omega), e2]
    have b3 : ((x1 <<< ((6 : Int32) &&& 31)) ||| (x2 <<< ((3 : Int32) &&& 31))).toInt = t * 64 + d * 8 := by
      rw [s_or 6 (by omega) (by rw [b1]; show ((t : Int) * 64) % 64 = 0; omega) (by omega) (by rw [b2]; show (d : Int) * 8 < 64; omega), b1, b2]
    have b4 : (((x1 <<< ((6 : Int32) &&& 31)) ||| (x2 <<< ((3 : Int32) &&& 31))) ||| x3).toInt = t * 64 + d * 8 + i := by
      rw [s_or 3 (by omega) (by rw [b3]; show ((t : Int) * 64 + d * 8) % 8 = 0; omega) (by omega) (by rw [e3]; show (i : Int) < 8; omega), b3, e3]
    refine uqX10_collect_28 ?_
    unfold BX10_collect_28
    refine sat_gd (vp80 e1 (by omega)) ?_
    refine sat_neg (by rw [n_le, hI_eq, hidx, c6, e3]; omega) ?_
    refine sat_let fun v5 hv5 => ?_
    rw [← hv5] at b4
    -- behind the coming
    have k73 : ∀ (h1 : ea_H) (K1 : List Nat), fr [(13, 14)] h h1 → cInv T (((t * 7 + d) * 8 + i) * 2 + 1) h1 K1 → sat (qX10_collect_73 x1 x2 x3 v5 h1) P := by
      intro h1 K1 f1 c1
      have c61 := c1.2.1.2.1 t (by omega)
      refine uqX10_collect_73 ?_
      unfold BX10_collect_73
      refine sat_gd (vp80 e1 (by omega)) ?_
      have hst : (ea_i h1 6 x1.toNatClampNeg - (1 : Int32)).toInt = tS T t - 1 := by
        rw [n_sub, hI_eq, hidx, c61, l_1, n_bm (by omega) (by omega)]
      by_cases hl : i + 1 = tS T t
      · refine sat_pos (by rw [n_le, hst, e3]; omega) ?_
        refine ih (i + 1) (x3 + 1) h1 K1 (by omega) (by omega) (by rw [n_add, e3, l_1, n_bm (by omega) (by omega)]; omega) (cInv_skip c1 (by omega) fun x hx g1 g2 => ?_) fun h' K' f' c' => k20 h' K' (f1.tr f') c'
        obtain ⟨y1, y2, y3, y4⟩ := hx
        obtain ⟨z1, z2, z3, z4⟩ := cPos_eq (t := t) (d := d) (i := i) (g := 1) y2 hd (by omega) (by omega) (by omega)
        rw [z1, z3] at y4
        omega
      · refine sat_neg (by rw [n_le, hst, e3]; omega) ?_
        obtain ⟨v, q, r⟩ := c_goesAt e1 e2 e3 c1.2.1 ok (by omega) hd (by omega)
        refine sat_call q ?_
        have b5 : ((1024 : Int32) ||| v5).toInt = ((1 * 1024 + t * 64 + d * 8 + i : Nat) : Int) := by
          rw [s_or 10 (by decide) (by decide) (by omega) (by rw [b4]; show ((t : Int) * 64 + d * 8 + i) < 1024; omega), b4, l_1024]
          omega
        obtain ⟨w1, w2, w3, w4, w5⟩ := k_of (m := tGm T t d i) (g := 1) (t := t) (d := d) (i := i) (by omega) (by omega) (by omega) (by omega)
        refine sat_bind (cInv_key ok c1 r b5 (by omega) (fun hm => ?_) ?_ fun hm x hx hb => ?_) fun y hy => ?_
        · unfold tKey
          rw [w1, w2, w3, w4, w5]
          exact ⟨ht, hd, hm, Or.inr ⟨rfl, by omega, rfl⟩⟩
        · unfold cPos
          rw [w2, w3, w4, w5]
        · obtain ⟨y1, y2, y3, y4⟩ := hx
          obtain ⟨z1, z2, z3, z4⟩ := cPos_eq (t := t) (d := d) (i := i) (g := 1) y2 hd (by omega) (by omega) hb
          rw [z1, z2, z3] at y4
          omega
        · obtain ⟨f2, K2, c2⟩ := hy
          refine ih (i + 1) (x3 + 1) y.2 K2 (by omega) (by omega) (by rw [n_add, e3, l_1, n_bm (by omega) (by omega)]; omega) ?_ fun h' K' f' c' => k20 h' K' ((f1.tr f2).tr f') c'
          rw [show ((t * 7 + d) * 8 + (i + 1)) * 2 = ((t * 7 + d) * 8 + i) * 2 + 1 + 1 by omega]
          exact c2
    by_cases hi0 : i = 0
    · refine sat_pos (by rw [n_le, e3, l_0]; omega) ?_
      refine k73 h K (fr_rfl _ _) (cInv_skip c (by omega) fun x hx g1 g2 => ?_)
      obtain ⟨y1, y2, y3, y4⟩ := hx
      obtain ⟨z1, z2, z3, z4⟩ := cPos_eq (t := t) (d := d) (i := i) (g := 0) y2 hd (by omega) (by omega) (by omega)
      omega
    · refine sat_neg (by rw [n_le, e3, l_0]; omega) ?_
      obtain ⟨v, q, r⟩ := c_comesAt e1 e2 e3 c.2.1 ok (by omega) hd (by omega)
      refine sat_call q ?_
      obtain ⟨w1, w2, w3, w4, w5⟩ := k_of (m := tCm T t d i) (g := 0) (t := t) (d := d) (i := i) (by omega) (by omega) (by omega) (by omega)
      have b5 : v5.toInt = ((0 * 1024 + t * 64 + d * 8 + i : Nat) : Int) := by
        rw [b4]
        omega
      refine sat_bind (cInv_key ok c r b5 (by omega) (fun hm => ?_) ?_ fun hm x hx hb => ?_) fun y hy => ?_
      · unfold tKey
        rw [w1, w2, w3, w4, w5]
        exact ⟨ht, hd, hm, Or.inl ⟨rfl, by omega, by omega, rfl⟩⟩
      · unfold cPos
        rw [w2, w3, w4, w5]
        omega
      · obtain ⟨y1, y2, y3, y4⟩ := hx
        obtain ⟨z1, z2, z3, z4⟩ := cPos_eq (t := t) (d := d) (i := i) (g := 0) y2 hd (by omega) (by omega) (by omega)
        rw [z1, z2, z3] at y4
        omega
      · obtain ⟨f2, K2, c2⟩ := hy
        exact k73 y.2 K2 f2 c2
theorem c_col20 {T : Nat → Nat → Nat → Nat} (ok : tOk T) {P : Unit × ea_H → Prop} {t : Nat} (ht : t < tN T) {x1 : Int32} (e1 : x1.toInt = t) :
    ∀ (n d : Nat) (x2 : Int32) (h : ea_H) (K : List Nat), 7 - d = n → d ≤ 7 → x2.toInt = d → cInv T (((t * 7 + d) * 8) * 2) h K →
      (∀ h' K', fr [(13, 14)] h h' → cInv T (((t + 1) * 7 * 8) * 2) h' K' → sat (qX10_collect_7 (x1 + 1) h') P) → sat (qX10_collect_20 x1 x2 h) P := by
  intro n
  induction n with
  | zero =>
    intro d x2 h K hn hd e2 c k7
    refine uqX10_collect_20 ?_
    unfold BX10_collect_20
    refine sat_pos (by rw [n_le, l_7, e2]; omega) ?_
    refine k7 h K (fr_rfl _ _) ?_
    rw [show (t + 1) * 7 * 8 * 2 = ((t * 7 + d) * 8) * 2 by omega]
    exact c
  | succ n ih =>
    intro d x2 h K hn hd e2 c k7
    refine uqX10_collect_20 ?_
    unfold BX10_collect_20
    refine sat_neg (by rw [n_le, l_7, e2]; omega) ?_
    refine c_col28 ok ht (by omega) e1 e2 (tS T t) 0 0 h K rfl (by omega) rfl c fun h' K' f' c' => ?_
    refine ih (d + 1) (x2 + 1) h' K' (by omega) (by omega) (by rw [n_add, e2, l_1, n_bm (by omega) (by omega)]; omega) ?_ fun h2 K2 f2 c2 => k7 h2 K2 (f'.tr f2) c2
    rw [show ((t * 7 + (d + 1)) * 8) * 2 = ((t * 7 + d) * 8 + 8) * 2 by omega]
    exact c'
theorem c_col7 {T : Nat → Nat → Nat → Nat} (ok : tOk T) :
    ∀ (n t : Nat) (x1 : Int32) (h : ea_H) (K : List Nat), tN T - t = n → t ≤ tN T → x1.toInt = t → cInv T ((t * 7 * 8) * 2) h K →
      sat (qX10_collect_7 x1 h) fun y => fr [(13, 14)] h y.2 ∧ ∃ K', cInv T ((tN T * 7 * 8) * 2) y.2 K' := by
  have hn10 := ok.1
  intro n
  induction n with
  | zero =>
    intro t x1 h K hn ht e1 c
    refine uqX10_collect_7 ?_
    unfold BX10_collect_7
    refine sat_pos (by rw [n_le, hI_eq, c.2.1.1, e1]; omega) (sat_ret ⟨fr_rfl _ _, K, ?_⟩)
    have : t = tN T := by omega
    rw [← this]
    exact c
  | succ n ih =>
    intro t x1 h K hn ht e1 c
    refine uqX10_collect_7 ?_
    unfold BX10_collect_7
    refine sat_neg (by rw [n_le, hI_eq, c.2.1.1, e1]; omega) ?_
    refine c_col20 ok (by omega) e1 7 0 0 h K rfl (by omega) rfl ?_ fun h' K' f' c' => ?_
    · rw [show (t * 7 + 0) * 8 * 2 = t * 7 * 8 * 2 by omega]
      exact c
    · exact sat_mono (ih (t + 1) (x1 + 1) h' K' (by omega) (by omega) (by rw [n_add, e1, l_1, n_bm (by omega) (by omega)]; omega) c') fun y hy => ⟨f'.tr hy.1, hy.2⟩
theorem c_collect {T : Nat → Nat → Nat → Nat} (ok : tOk T) {h : ea_H} (hs : ShC h) (c : CTab h T) : sat (qX10_collect h) fun y => fr [(13, 14)] h y.2 ∧ ∃ K, cKeys y.2 K ∧ K.Nodup ∧ ∀ x, x ∈ K ↔ tKey T x := by
  unfold qX10_collect
  refine uqX10_collect_0 ?_
  unfold BX10_collect_0
  refine sat_let fun H eH => ?_
  have fH : fr [(13, 14)] h H := by
    rw [eH]
    exact fr_wi rfl
  refine sat_mono (c_col7 ok (tN T) 0 0 H [] rfl (Nat.zero_le _) rfl ⟨ShC_core fH.1 hs, c.fr fH rfl rfl rfl rfl rfl rfl, ⟨?_, fun e he => absurd he (Nat.not_lt_zero _)⟩, List.nodup_nil, fun x => ⟨fun hx => (by cases hx), fun hx => absurd hx.2 (by omega)⟩⟩) fun y hy => ⟨fH.tr hy.1, ?_⟩
  · rw [eH, hI_wi, if_pos ⟨rfl, rfl⟩]
    rfl
  · obtain ⟨K, k1, k2, k3, k4, k5⟩ := hy.2
    refine ⟨K, k3, k4, fun x => (k5 x).trans ⟨fun q => q.1, fun q => ⟨q, ?_⟩⟩⟩
    have q1 := q.1
    have q2 := q.2.1
    have q3 := kI_lt x
    have q4 := kGo_lt x
    unfold cPos
    omega
