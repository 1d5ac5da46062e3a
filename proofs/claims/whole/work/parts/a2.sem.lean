/-! steps run, by the reference: the steps i .. j - 1 push F -/
def bt2 (x a b : Int32) : Int32 := if x.toInt = 8 then a + b else if x.toInt = 9 then a - b else if x.toInt = 10 then a * b else if x.toInt = 11 then a ||| b else if x.toInt = 12 then (if b ≤ a then 0 else 1) else if x.toInt = 13 then (if a = b then 1 else 0) else if x.toInt = 14 then (if a ≤ b then 0 else 1) else if x.toInt = 15 then a ||| b else if x.toInt = 16 then a &&& b else a ||| b
theorem m_both (x a b : Int32) (h : ea_H) : qX12_both x a b h = some (bt2 x a b, h) := by
  refine sat_at ?_
  unfold qX12_both BX12_both_0 bt2
  refine sat_ite (fun c => ?_) fun c => ?_
  · rw [if_pos c]
    exact sat_ret rfl
  rw [if_neg c]
  refine sat_ite (fun c => ?_) fun c => ?_
  · rw [if_pos c]
    exact sat_ret rfl
  rw [if_neg c]
  refine sat_ite (fun c => ?_) fun c => ?_
  · rw [if_pos c]
    exact sat_ret rfl
  rw [if_neg c]
  refine sat_ite (fun c => ?_) fun c => ?_
  · rw [if_pos c]
    exact sat_ret rfl
  rw [if_neg c]
  refine sat_ite (fun c => ?_) fun c => ?_
  · rw [if_pos c]
    refine sat_ite (fun d => ?_) fun d => ?_
    · rw [if_pos d]
      exact sat_ret rfl
    · rw [if_neg d]
      exact sat_ret rfl
  rw [if_neg c]
  refine sat_ite (fun c => ?_) fun c => ?_
  · rw [if_pos c]
    refine sat_ite (fun d => ?_) fun d => ?_
    · rw [if_pos d]
      exact sat_ret rfl
    · rw [if_neg d]
      exact sat_ret rfl
  rw [if_neg c]
  refine sat_ite (fun c => ?_) fun c => ?_
  · rw [if_pos c]
    refine sat_ite (fun d => ?_) fun d => ?_
    · rw [if_pos d]
      exact sat_ret rfl
    · rw [if_neg d]
      exact sat_ret rfl
  rw [if_neg c]
  refine sat_ite (fun c => ?_) fun c => ?_
  · rw [if_pos c]
    exact sat_ret rfl
  rw [if_neg c]
  refine sat_ite (fun c => ?_) fun c => ?_
  · rw [if_pos c]
    exact sat_ret rfl
  rw [if_neg c]
  exact sat_ret rfl
/-- the reference's facts stand one further on than the class's -/
def fa1 (f : Nat → Int32) : Nat → Int32 := fun k => f (k + 1)
def mB (S : Nat → Int32 × Int32) (i j : Nat) (F : (Nat → Int32) → Int32) : Prop := i ≤ j ∧ j ≤ 610 ∧ ∀ (h : ea_H) (k t E : Nat) (x1 x3 x4 x5 : Int32) (P : Int32 × ea_H → Prop), (∀ e, i ≤ e → e < j → ea_i h 358 (1220 * k + 2 * e) = (S e).1 ∧ ea_i h 358 (1220 * k + 2 * e + 1) = (S e).2) → k < 6 → t + (j - i) ≤ 619 → x1.toInt = k → x3.toInt = E → j ≤ E → E ≤ 610 → x4.toInt = t → x5.toInt = i →
  (∀ (h2 : ea_H) (y4 y5 : Int32), fq [(363, 363)] [] h h2 → y4.toInt = ((t + 1 : Nat) : Int) → y5.toInt = j → ea_i h2 363 t = F (fa1 (ea_i h 391)) → (∀ i, i < t → ea_i h2 363 i = ea_i h 363 i) → sat (qX12_comesTo_6 x1 x3 y4 y5 h2) P) → sat (qX12_comesTo_6 x1 x3 x4 x5 h) P
section MB
variable {S S' : Nat → Int32 × Int32} {i j l : Nat} {F G : (Nat → Int32) → Int32}
theorem mB.cg (e : ∀ q, i ≤ q → q < j → S' q = S q) (b : mB S i j F) : mB S' i j F := by
  obtain ⟨b1, b2, b3⟩ := b
  refine ⟨b1, b2, fun h k t E x1 x3 x4 x5 P hc => b3 h k t E x1 x3 x4 x5 P fun q h1 h2 => ?_⟩
  have := hc q h1 h2
  rw [e q h1 h2] at this
  exact this
theorem mB.ext (e : ∀ f, G f = F f) (b : mB S i j F) : mB S i j G := by
  rw [show G = F from funext e]
  exact b
theorem st_idx {x1 x5 : Int32} {k q : Nat} (e1 : x1.toInt = k) (e5 : x5.toInt = q) (hk : k < 6) (hq : q < 610) : ((1220 : Int32) * x1 + (2 : Int32) * x5).toInt = ((1220 * k + 2 * q : Nat) : Int) ∧ ((1220 : Int32) * x1 + (2 : Int32) * x5).toNatClampNeg = 1220 * k + 2 * q ∧ ((1220 : Int32) * x1 + (2 : Int32) * x5 + (1 : Int32)).toInt = ((1220 * k + 2 * q + 1 : Nat) : Int) ∧ ((1220 : Int32) * x1 + (2 : Int32) * x5 + (1 : Int32)).toNatClampNeg = 1220 * k + 2 * q + 1 := by
  have i0 : ((1220 : Int32) * x1 + (2 : Int32) * x5).toInt = 1220 * (k : Int) + 2 * q := by simp (disch := omega) only [n_add, n_sub, n_mul, n_neg, n_bm, n_idx, n_if, hI_eq, l_m1000, l_m100, l_m60, l_m19, l_m18, l_m17, l_m16, l_m15, l_m14, l_m13, l_m12, l_m11, l_m10, l_m8, l_m1, l_0, l_1, l_2, l_3, l_4, l_5, l_6, l_7, l_8, l_9, l_10, l_11, l_12, l_13, l_14, l_15, l_16, l_17, l_18, l_19, l_20, l_21, l_24, l_25, l_32, l_40, l_41, l_42, l_43, l_45, l_47, l_48, l_57, l_59, l_60, l_61, l_62, l_63, l_64, l_65, l_70, l_80, l_90, l_97, l_99, l_100, l_120, l_122, l_127, l_144, l_150, l_201, l_202, l_203, l_204, l_205, l_206, l_207, l_255, l_300, l_364, l_480, l_560, l_600, l_601, l_620, l_840, l_900, l_980, l_999, l_1000, l_1023, l_1024, l_1220, l_1439, l_1440, l_2240, l_2400, l_3000, l_3600, l_4095, l_4096, l_7320, l_9999, l_10079, l_10080, l_12000, l_99999, l_120000, l_1000000, l_2147483647, e1, e5]
  have i1 : ((1220 : Int32) * x1 + (2 : Int32) * x5).toInt = ((1220 * k + 2 * q : Nat) : Int) := by
    rw [i0]
    omega
  have i2 := n_inc i1 (by omega)
  exact ⟨i1, by rw [n_idx, i1]; rfl, i2, by rw [n_idx, i2]; rfl⟩
theorem mB_num (hi : i < 610) (h0 : (S i).1.toInt = 0) : mB S i (i + 1) (fun _ => (S i).2) := by
  refine ⟨by omega, by omega, fun h k t E x1 x3 x4 x5 P hc hk ht e1 e3 hE hE2 e4 e5 K => ?_⟩
  obtain ⟨c1, c2⟩ := hc i (Nat.le_refl _) (by omega)
  obtain ⟨a1, a2, a3, a4⟩ := st_idx e1 e5 hk hi
  have ic : x4.toNatClampNeg = t := by
    rw [n_idx, e4]
    rfl
  refine uqX12_comesTo_6 ?_
  unfold BX12_comesTo_6
  rw [a4, a2, ic, c1, c2]
  refine sat_neg (by rw [n_le, e3, e5]; omega) (sat_gd (vp80 a1 (by omega)) (sat_sub (sat_gd (vp80 a3 (by omega)) (sat_sub (sat_neg (by rw [n_le, h0, l_8]; omega) (sat_pos (by rw [n_eq, h0, l_0]) (sat_gd (vp80 e4 (by omega)) (sat_let fun H q => ?_))))))))
  have q : H = ea_wi h 363 t (S i).2 := q
  refine K H (x4 + 1) (x5 + 1) (q ▸ fq_wi rfl) (n_inc e4 (by omega)) (n_inc e5 (by omega)) (by rw [q, i_eq]) fun u hu => ?_
  rw [q, i_nk (by omega)]
theorem mB_fact {u : Nat} (hi : i < 610) (hu : u < 7) (h0 : (S i).1.toInt = ((u + 1 : Nat) : Int)) : mB S i (i + 1) (fun f => f u) := by
  refine ⟨by omega, by omega, fun h k t E x1 x3 x4 x5 P hc hk ht e1 e3 hE hE2 e4 e5 K => ?_⟩
  obtain ⟨c1, c2⟩ := hc i (Nat.le_refl _) (by omega)
  obtain ⟨a1, a2, a3, a4⟩ := st_idx e1 e5 hk hi
  have ic : x4.toNatClampNeg = t := by
    rw [n_idx, e4]
    rfl
  have icS : (S i).1.toNatClampNeg = u + 1 := by
    rw [n_idx, h0]
    rfl
  refine uqX12_comesTo_6 ?_
  unfold BX12_comesTo_6
  rw [a4, a2, ic, c1, c2]
  refine sat_neg (by rw [n_le, e3, e5]; omega) (sat_gd (vp80 a1 (by omega)) (sat_sub (sat_gd (vp80 a3 (by omega)) (sat_sub (sat_neg (by rw [n_le, h0, l_8]; omega) (sat_neg (by rw [n_eq, h0, l_0]; omega) (sat_gd (vp80 h0 (by omega)) (sat_gd (vp80 e4 (by omega)) (sat_let fun H q => ?_)))))))))
  have q : H = ea_wi h 363 t (ea_i h 391 (S i).1.toNatClampNeg) := q
  rw [icS] at q
  refine K H (x4 + 1) (x5 + 1) (q ▸ fq_wi rfl) (n_inc e4 (by omega)) (n_inc e5 (by omega)) (by rw [q, i_eq]; rfl) fun u hu => ?_
  rw [q, i_nk (by omega)]
theorem mB_div (hj : j < 610) (h0 : (S j).1.toInt = 11) (h1 : ¬ (S j).2 = 0) (b : mB S i j F) : mB S i (j + 1) (fun f => F f / (S j).2) := by
  obtain ⟨b1, b2, b3⟩ := b
  refine ⟨by omega, by omega, fun h k t E x1 x3 x4 x5 P hc hk ht e1 e3 hE hE2 e4 e5 K => ?_⟩
  refine b3 h k t E x1 x3 x4 x5 P (fun e he1 he2 => hc e he1 (by omega)) hk (by omega) e1 e3 (by omega) hE2 e4 e5 fun h2 y4 y5 f ey4 ey5 hv hs => ?_
  obtain ⟨c1, c2⟩ := hc j b1 (by omega)
  have r58 : ∀ q, ea_i h2 358 q = ea_i h 358 q := fun q => n_eq.mpr (f.C 358 rfl rfl q)
  obtain ⟨a1, a2, a3, a4⟩ := st_idx e1 ey5 hk hj
  have em : (y4 - (1 : Int32)).toInt = t := by
    rw [n_pred (by omega), ey4]
    omega
  have ic : (y4 - (1 : Int32)).toNatClampNeg = t := by
    rw [n_idx, em]
    rfl
  refine uqX12_comesTo_6 ?_
  unfold BX12_comesTo_6
  rw [a4, a2, ic, r58, r58, c1, c2]
  refine sat_neg (by rw [n_le, e3, ey5]; omega) (sat_gd (vp80 a1 (by omega)) (sat_sub (sat_gd (vp80 a3 (by omega)) (sat_sub (sat_pos (by rw [n_le, h0, l_8]; omega) (sat_pos (by rw [n_eq, h0, l_11]) (sat_gd (vp80 em (by omega)) (sat_gd h1 (sat_gd (vp80 em (by omega)) (sat_let fun H q => ?_))))))))))
  have q : H = ea_wi h2 363 t (ea_i h2 363 t / (S j).2) := q
  refine K H y4 (y5 + 1) (f.tr (q ▸ fq_wi rfl)) ey4 (n_inc ey5 (by omega)) (by rw [q, i_eq, hv]) fun u hu => ?_
  rw [q, i_nk (by omega)]
  exact hs u hu
theorem mB_not (hj : j < 610) (h0 : (S j).1.toInt = 15) (b : mB S i j F) : mB S i (j + 1) (fun f => 1 - F f) := by
  obtain ⟨b1, b2, b3⟩ := b
  refine ⟨by omega, by omega, fun h k t E x1 x3 x4 x5 P hc hk ht e1 e3 hE hE2 e4 e5 K => ?_⟩
  refine b3 h k t E x1 x3 x4 x5 P (fun e he1 he2 => hc e he1 (by omega)) hk (by omega) e1 e3 (by omega) hE2 e4 e5 fun h2 y4 y5 f ey4 ey5 hv hs => ?_
  obtain ⟨c1, c2⟩ := hc j b1 (by omega)
  have r58 : ∀ q, ea_i h2 358 q = ea_i h 358 q := fun q => n_eq.mpr (f.C 358 rfl rfl q)
  obtain ⟨a1, a2, a3, a4⟩ := st_idx e1 ey5 hk hj
  have em : (y4 - (1 : Int32)).toInt = t := by
    rw [n_pred (by omega), ey4]
    omega
  have ic : (y4 - (1 : Int32)).toNatClampNeg = t := by
    rw [n_idx, em]
    rfl
  refine uqX12_comesTo_6 ?_
  unfold BX12_comesTo_6
  rw [a4, a2, ic, r58, r58, c1, c2]
  refine sat_neg (by rw [n_le, e3, ey5]; omega) (sat_gd (vp80 a1 (by omega)) (sat_sub (sat_gd (vp80 a3 (by omega)) (sat_sub (sat_pos (by rw [n_le, h0, l_8]; omega) (sat_neg (by rw [n_eq, h0, l_11]; omega) (sat_pos (by rw [n_eq, h0, l_15]) (sat_gd (vp80 em (by omega)) (sat_gd (vp80 em (by omega)) (sat_let fun H q => ?_))))))))))
  have q : H = ea_wi h2 363 t ((1 : Int32) - ea_i h2 363 t) := q
  refine K H y4 (y5 + 1) (f.tr (q ▸ fq_wi rfl)) ey4 (n_inc ey5 (by omega)) (by rw [q, i_eq, hv]) fun u hu => ?_
  rw [q, i_nk (by omega)]
  exact hs u hu
theorem mB_bin (hl : l < 610) (h0 : 8 ≤ (S l).1.toInt) (h1 : (S l).1.toInt ≠ 11) (h15 : (S l).1.toInt ≠ 15) (b : mB S i j F) (b' : mB S j l G) : mB S i (l + 1) (fun f => bt2 (S l).1 (F f) (G f)) := by
  obtain ⟨b1, b2, b3⟩ := b
  obtain ⟨d1, d2, d3⟩ := b'
  refine ⟨by omega, by omega, fun h k t E x1 x3 x4 x5 P hc hk ht e1 e3 hE hE2 e4 e5 K => ?_⟩
  refine b3 h k t E x1 x3 x4 x5 P (fun e he1 he2 => hc e he1 (by omega)) hk (by omega) e1 e3 (by omega) hE2 e4 e5 fun h2 y4 y5 f ey4 ey5 hv hs => ?_
  have r58 : ∀ q, ea_i h2 358 q = ea_i h 358 q := fun q => n_eq.mpr (f.C 358 rfl rfl q)
  by_cases hjl : j < l
  case neg =>
    -- nothing pushed behind F: d3 can't be used at the end; there is none such
    have ejl : j = l := by omega
    subst ejl
    refine d3 h2 k (t + 1) E x1 x3 y4 y5 P (fun e he1 he2 => absurd he2 (by omega)) hk (by omega) e1 e3 (by omega) hE2 ey4 ey5 fun h3 z4 z5 g ez4 ez5 hw hs2 => ?_
    obtain ⟨c1, c2⟩ := hc j b1 (by omega)
    have r58' : ∀ q, ea_i h3 358 q = ea_i h 358 q := fun q => (n_eq.mpr (g.C 358 rfl rfl q)).trans (r58 q)
    obtain ⟨a1, a2, a3, a4⟩ := st_idx e1 ez5 hk hl
    have u0 : ea_i h3 363 t = F (fa1 (ea_i h 391)) := (hs2 t (by omega)).trans hv
    have u1 : ea_i h3 363 (t + 1) = G (fa1 (ea_i h 391)) := by
      rw [hw, i_row (a := 391) f rfl rfl]
    refine uqX12_comesTo_6 ?_
    unfold BX12_comesTo_6
    obtain ⟨w2, hw2, v1⟩ : ∃ w2 : Int32, z4 + (-1 : Int32) = w2 ∧ w2.toInt = ((t + 1 : Nat) : Int) := ⟨_, rfl, n_dec (k := t + 1) ez4⟩
    rw [hw2]
    have v0 : (w2 - (1 : Int32)).toInt = t := by
      rw [n_pred (by omega), v1]
      omega
    have ic1 : w2.toNatClampNeg = t + 1 := by
      rw [n_idx, v1]
      rfl
    have ic0 : (w2 - (1 : Int32)).toNatClampNeg = t := by
      rw [n_idx, v0]
      rfl
    rw [a4, a2, ic1, ic0, r58', r58', c1, c2]
    refine sat_neg (by rw [n_le, e3, ez5]; omega) (sat_gd (vp80 a1 (by omega)) (sat_sub (sat_gd (vp80 a3 (by omega)) (sat_sub (sat_pos (by rw [n_le, l_8]; exact h0) (sat_neg (fun z => h1 (by rw [n_eq, l_11] at z; exact z)) (sat_neg (fun z => h15 (by rw [n_eq, l_15] at z; exact z)) (sat_gd (vp80 v0 (by omega)) (sat_gd (vp80 v1 (by omega)) (sat_call (m_both _ _ _ _) (sat_gd (vp80 v0 (by omega)) (sat_let fun H q => ?_))))))))))))
    have q : H = ea_wi h3 363 t (bt2 (S j).1 (ea_i h3 363 t) (ea_i h3 363 (t + 1))) := q
    refine K H w2 (z5 + 1) (f.tr (g.tr (q ▸ fq_wi rfl))) v1 (n_inc ez5 (by omega)) (by rw [q, i_eq, u0, u1]) fun u hu => ?_
    rw [q, i_nk (by omega), hs2 u (by omega)]
    exact hs u hu
  refine d3 h2 k (t + 1) E x1 x3 y4 y5 P (fun e he1 he2 => ?_) hk (by omega) e1 e3 (by omega) hE2 ey4 ey5 fun h3 z4 z5 g ez4 ez5 hw hs2 => ?_
  · rw [r58, r58]
    exact hc e (by omega) (by omega)
  obtain ⟨c1, c2⟩ := hc l (by omega) (by omega)
  have r58' : ∀ q, ea_i h3 358 q = ea_i h 358 q := fun q => (n_eq.mpr (g.C 358 rfl rfl q)).trans (r58 q)
  obtain ⟨a1, a2, a3, a4⟩ := st_idx e1 ez5 hk hl
  have u0 : ea_i h3 363 t = F (fa1 (ea_i h 391)) := (hs2 t (by omega)).trans hv
  have u1 : ea_i h3 363 (t + 1) = G (fa1 (ea_i h 391)) := by
    rw [hw, i_row (a := 391) f rfl rfl]
  refine uqX12_comesTo_6 ?_
  unfold BX12_comesTo_6
  obtain ⟨w2, hw2, v1⟩ : ∃ w2 : Int32, z4 + (-1 : Int32) = w2 ∧ w2.toInt = ((t + 1 : Nat) : Int) := ⟨_, rfl, n_dec (k := t + 1) ez4⟩
  rw [hw2]
  have v0 : (w2 - (1 : Int32)).toInt = t := by
    rw [n_pred (by omega), v1]
    omega
  have ic1 : w2.toNatClampNeg = t + 1 := by
    rw [n_idx, v1]
    rfl
  have ic0 : (w2 - (1 : Int32)).toNatClampNeg = t := by
    rw [n_idx, v0]
    rfl
  rw [a4, a2, ic1, ic0, r58', r58', c1, c2]
  refine sat_neg (by rw [n_le, e3, ez5]; omega) (sat_gd (vp80 a1 (by omega)) (sat_sub (sat_gd (vp80 a3 (by omega)) (sat_sub (sat_pos (by rw [n_le, l_8]; exact h0) (sat_neg (fun z => h1 (by rw [n_eq, l_11] at z; exact z)) (sat_neg (fun z => h15 (by rw [n_eq, l_15] at z; exact z)) (sat_gd (vp80 v0 (by omega)) (sat_gd (vp80 v1 (by omega)) (sat_call (m_both _ _ _ _) (sat_gd (vp80 v0 (by omega)) (sat_let fun H q => ?_))))))))))))
  have q : H = ea_wi h3 363 t (bt2 (S l).1 (ea_i h3 363 t) (ea_i h3 363 (t + 1))) := q
  refine K H w2 (z5 + 1) (f.tr (g.tr (q ▸ fq_wi rfl))) v1 (n_inc ez5 (by omega)) (by rw [q, i_eq, u0, u1]) fun u hu => ?_
  rw [q, i_nk (by omega), hs2 u (by omega)]
  exact hs u hu
theorem m_comesTo (b : mB S i j F) {h : ea_H} {k : Nat} (hk : k < 6) (hc : ∀ e, i ≤ e → e < j → ea_i h 358 (1220 * k + 2 * e) = (S e).1 ∧ ea_i h 358 (1220 * k + 2 * e + 1) = (S e).2) {x1 x2 x3 : Int32} (e1 : x1.toInt = k) (e2 : x2.toInt = i) (e3 : x3.toInt = j) : sat (qX12_comesTo x1 x2 x3 h) fun y => y.1 = F (fa1 (ea_i h 391)) ∧ fq [(363, 363)] [] h y.2 := by
  obtain ⟨b1, b2, b3⟩ := b
  unfold qX12_comesTo
  refine uqX12_comesTo_0 ?_
  unfold BX12_comesTo_0
  refine b3 h k 0 j x1 x3 0 x2 _ hc hk (by omega) e1 e3 (Nat.le_refl _) b2 rfl e2 fun h2 y4 y5 f ey4 ey5 hv hs => ?_
  refine uqX12_comesTo_6 ?_
  unfold BX12_comesTo_6
  exact sat_pos (by rw [n_le, e3, ey5]; omega) (sat_ret ⟨hv, f⟩)
end MB
