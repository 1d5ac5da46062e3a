/-! calls: place -/
theorem plc_in : ∀ l, l < 120 → (76 + 2 * l, 19, some (77 + 2 * l)) ∈ ShC_rf ∧ ShC_cl.getD (77 + 2 * l) (0, 0) = (20, 4) := by decide +kernel
theorem plc_ref {h : ea_H} (hs : ShC h) {l : Nat} (hl : l < 120) : ea_r h (76 + 2 * l) 19 = some (77 + 2 * l) ∧ (77 + 2 * l < ea_n h ∧ ea_c h (77 + 2 * l) = 20) ∧ ea_l h (77 + 2 * l) = 4 := by
  obtain ⟨a1, a2⟩ := plc_in l hl
  obtain ⟨b1, b2, b3⟩ := hs.1 (77 + 2 * l) (by omega)
  rw [Nat.zero_add] at b1 b2 b3
  rw [a2] at b2 b3
  exact ⟨hs.2 _ a1, ⟨b1, b2⟩, b3⟩
theorem c_placeTown {h : ea_H} (hs : ShC h) {l i : Nat} (hl : l < 120) {x1 : Int32} (e1 : x1.toInt = i) (hi : i < 4) (h0 : 0 ≤ hI h (77 + 2 * l) i) : ∃ v, qX5_placeTown (76 + 2 * l) x1 h = some (v, h) ∧ v.toInt = hI h (77 + 2 * l) i % 16 := by
  obtain ⟨-, k2⟩ := ltr_ref hs hl
  obtain ⟨p1, p2, p3⟩ := plc_ref hs hl
  have ic : x1.toNatClampNeg = i := by
    rw [n_idx, e1]
    rfl
  refine sat_ex ?_
  unfold qX5_placeTown BX5_placeTown_0
  rw [p1, ic]
  refine sat_gd k2 (sat_gd rfl (sat_gd p2 (sat_gd ?_ (sat_ret ⟨rfl, ?_⟩))))
  · show vp_in x1 (ea_l h (77 + 2 * l))
    rw [p3]
    exact vp80 e1 hi
  · show ((ea_i h (77 + 2 * l) i) &&& (15 : Int32)).toInt = _
    exact s_and_15 h0
theorem c_placeChance {h : ea_H} (hs : ShC h) {l i : Nat} (hl : l < 120) {x1 : Int32} (e1 : x1.toInt = i) (hi : i < 4) (h0 : 0 ≤ hI h (77 + 2 * l) i) : ∃ v, qX5_placeChance (76 + 2 * l) x1 h = some (v, h) ∧ v.toInt = 100 - hI h (77 + 2 * l) i / 16 := by
  obtain ⟨-, k2⟩ := ltr_ref hs hl
  obtain ⟨p1, p2, p3⟩ := plc_ref hs hl
  have ic : x1.toNatClampNeg = i := by
    rw [n_idx, e1]
    rfl
  have hv := n_hi (ea_i h (77 + 2 * l) i)
  have hd : (ea_i h (77 + 2 * l) i >>> ((4 : Int32) &&& 31)).toInt = hI h (77 + 2 * l) i / 16 := s_shr (k := 4) rfl (by decide)
  have hv2 : hI h (77 + 2 * l) i < 2147483648 := hv
  refine sat_ex ?_
  unfold qX5_placeChance BX5_placeChance_0
  rw [p1, ic]
  refine sat_gd k2 (sat_gd rfl (sat_gd p2 (sat_gd ?_ (sat_ret ⟨rfl, ?_⟩))))
  · show vp_in x1 (ea_l h (77 + 2 * l))
    rw [p3]
    exact vp80 e1 hi
  · show ((100 : Int32) - (ea_i h (77 + 2 * l) i >>> ((4 : Int32) &&& 31))).toInt = _
    rw [n_sub, hd, l_100, n_bm (by omega) (by omega)]
theorem c_rowOfPlace {h : ea_H} (hs : ShC h) {l c : Nat} (hl : l < 120) (hc : hI h (76 + 2 * l) 18 = c) (hc4 : c ≤ 4) (hR : ∀ i, i < c → 0 ≤ hI h (77 + 2 * l) i) {x1 : Int32} {a : Int} (e1 : x1.toInt = a) : ∃ v, qX5_rowOfPlace (76 + 2 * l) x1 h = some (v, h) ∧ ((v.toInt = -1 ∧ ∀ i, i < c → hI h (77 + 2 * l) i % 16 ≠ a) ∨ ∃ i : Nat, i < c ∧ v.toInt = i ∧ hI h (77 + 2 * l) i % 16 = a) := by
  obtain ⟨-, k2⟩ := ltr_ref hs hl
  have H : ∀ (k i : Nat) (x2 : Int32), i + k = c → x2.toInt = i → (∀ j, j < i → hI h (77 + 2 * l) j % 16 ≠ a) → sat (qX5_rowOfPlace_2 (76 + 2 * l) x1 x2 h) fun y => y.2 = h ∧ ((y.1.toInt = -1 ∧ ∀ i, i < c → hI h (77 + 2 * l) i % 16 ≠ a) ∨ ∃ i : Nat, i < c ∧ y.1.toInt = i ∧ hI h (77 + 2 * l) i % 16 = a) := by
    intro k
    induction k with
    | zero =>
      intro i x2 hk e2 hno
      refine uqX5_rowOfPlace_2 ?_
      unfold BX5_rowOfPlace_2
      exact sat_gd k2 (sat_pos (by rw [n_le, hI_eq, hc, e2]; omega) (sat_ret ⟨rfl, Or.inl ⟨rfl, fun j hj => hno j (by omega)⟩⟩))
    | succ k ih =>
      intro i x2 hk e2 hno
      obtain ⟨v, p, q⟩ := c_placeTown hs hl e2 (by omega) (hR i (by omega))
      refine uqX5_rowOfPlace_2 ?_
      unfold BX5_rowOfPlace_2
      refine sat_gd k2 (sat_neg (by rw [n_le, hI_eq, hc, e2]; omega) (sat_gd k2 (sat_call p (sat_ite (fun z => ?_) fun z => ?_))))
      · have z : v = x1 := z
        rw [n_eq, q, e1] at z
        exact sat_ret ⟨rfl, Or.inr ⟨i, by omega, e2, z⟩⟩
      · have z : ¬ v = x1 := z
        rw [n_eq, q, e1] at z
        refine ih (i + 1) (x2 + 1) (by omega) (n_inc e2 (by omega)) fun j hj => ?_
        by_cases w : j = i
        · rw [w]
          exact z
        · exact hno j (by omega)
  have H2 : sat (qX5_rowOfPlace (76 + 2 * l) x1 h) fun y => y.2 = h ∧ ((y.1.toInt = -1 ∧ ∀ i, i < c → hI h (77 + 2 * l) i % 16 ≠ a) ∨ ∃ i : Nat, i < c ∧ y.1.toInt = i ∧ hI h (77 + 2 * l) i % 16 = a) := by
    unfold qX5_rowOfPlace
    refine uqX5_rowOfPlace_0 ?_
    unfold BX5_rowOfPlace_0
    exact H c 0 0 (by omega) rfl fun j hj => absurd hj (Nat.not_lt_zero j)
  obtain ⟨⟨v, h2⟩, q1, q2, q3⟩ := H2
  have q2 : h2 = h := q2
  subst q2
  exact ⟨v, q1, q3⟩
def plF (l : Nat) (h h' : ea_H) : Prop := fq [(77 + 2 * l, 77 + 2 * l)] [((76 + 2 * l, 76 + 2 * l), 18, 18)] h h'
theorem plF_w {l i : Nat} {x : Int32} {h : ea_H} : plF l h (ea_wi h (77 + 2 * l) i x) := fq_wi (inB_iff.mpr ⟨_, List.mem_cons_self, Nat.le_refl _, Nat.le_refl _⟩)
theorem plF_18 {l : Nat} {x : Int32} {h : ea_H} : plF l h (ea_wi h (76 + 2 * l) 18 x) := fq_wf (inP_iff.mpr ⟨_, List.mem_cons_self, ⟨Nat.le_refl _, Nat.le_refl _⟩, Nat.le_refl _, Nat.le_refl _⟩)
section TE
variable {l c : Nat} {S : Int → Prop} {row : Int} {x4 : Int32} {h0 : ea_H}
theorem c_tell89 (hl : l < 120) (hc4 : c ≤ 4) (hS : ∀ v, S v → v ≠ row) (e4 : x4.toInt = row) : ∀ (g : Nat) (h : ea_H) (x3 : Int32), x3.toInt = g → ShC h → hI h (76 + 2 * l) 18 = c → Ho c g (hI h (77 + 2 * l)) S → (∀ i, g < i → i < c → row ≤ hI h (77 + 2 * l) i) → plF l h0 h →
    sat (qX5_tell_89 (76 + 2 * l) x3 x4 h) fun y => y.1 = 1 ∧ plF l h0 y.2 ∧ hI y.2 (76 + 2 * l) 18 = c ∧ (∀ i j, i < j → j < c → hI y.2 (77 + 2 * l) i < hI y.2 (77 + 2 * l) j) ∧ ∀ v, (∃ i, i < c ∧ hI y.2 (77 + 2 * l) i = v) ↔ v = row ∨ S v := by
  intro g
  induction g with
  | zero =>
    intro h x3 e3 hs hc ho hi f
    obtain ⟨-, k2⟩ := ltr_ref hs hl
    obtain ⟨p1, p2, p3⟩ := plc_ref hs hl
    have ic : x3.toNatClampNeg = 0 := by
      rw [n_idx, e3]
      rfl
    refine uqX5_tell_89 ?_
    unfold BX5_tell_89
    rw [p1, ic]
    refine sat_pos (by rw [n_le, e3, l_0]; omega) (sat_gd k2 (sat_gd rfl (sat_gd p2 (sat_gd ?_ (sat_let fun H33 q33 => sat_ret ?_)))))
    · show vp_in x3 (ea_l h (77 + 2 * l))
      rw [p3]
      exact vp80 e3 (by decide)
    have q33 : H33 = ea_wi h (77 + 2 * l) 0 x4 := q33
    refine ⟨rfl, f.tr (q33 ▸ plF_w), ?_, Ho.fin ho hS (fun i hi => absurd hi (Nat.not_lt_zero i)) hi fun i => ?_⟩
    · show hI H33 (76 + 2 * l) 18 = c
      rw [q33, hI_ne (by omega)]
      exact hc
    · show hI H33 (77 + 2 * l) i = _
      rw [q33, hI_row, e4]
  | succ g ih =>
    intro h x3 e3 hs hc ho hi f
    obtain ⟨-, k2⟩ := ltr_ref hs hl
    obtain ⟨p1, p2, p3⟩ := plc_ref hs hl
    have hgc := ho.1
    have ic : x3.toNatClampNeg = g + 1 := by
      rw [n_idx, e3]
      rfl
    have em : (x3 - (1 : Int32)).toInt = g := by
      rw [n_pred (by omega), e3]
      omega
    have icm : (x3 - (1 : Int32)).toNatClampNeg = g := by
      rw [n_idx, em]
      rfl
    have i1 : vp_in x3 (ea_l h (Option.getD (some (77 + 2 * l)) 0)) := by
      show vp_in x3 (ea_l h (77 + 2 * l))
      rw [p3]
      exact vp80 e3 (by omega)
    have i2 : vp_in (x3 - (1 : Int32)) (ea_l h (Option.getD (some (77 + 2 * l)) 0)) := by
      show vp_in (x3 - (1 : Int32)) (ea_l h (77 + 2 * l))
      rw [p3]
      exact vp80 em (by omega)
    refine uqX5_tell_89 ?_
    unfold BX5_tell_89
    rw [p1, ic, icm]
    refine sat_neg (by rw [n_le, e3, l_0]; omega) (sat_gd k2 (sat_gd rfl (sat_gd p2 (sat_gd i2 (sat_ite (fun z => ?_) fun z => ?_)))))
    · have z : ea_i h (77 + 2 * l) g ≤ x4 := z
      rw [n_le, hI_eq, e4] at z
      refine sat_gd k2 (sat_gd rfl (sat_gd p2 (sat_gd i1 (sat_let fun H33 q33 => sat_ret ?_))))
      have q33 : H33 = ea_wi h (77 + 2 * l) (g + 1) x4 := q33
      refine ⟨rfl, f.tr (q33 ▸ plF_w), ?_, Ho.fin ho hS (fun i hi => ?_) hi fun i => ?_⟩
      · show hI H33 (76 + 2 * l) 18 = c
        rw [q33, hI_ne (by omega)]
        exact hc
      · by_cases w : i = g
        · rw [w]
          exact z
        · have := ho.2.1 i g (by omega) (by omega) (by omega) (by omega)
          omega
      · show hI H33 (77 + 2 * l) i = _
        rw [q33, hI_row, e4]
    · have z : ¬ ea_i h (77 + 2 * l) g ≤ x4 := z
      rw [n_le, hI_eq, e4] at z
      refine sat_gd k2 (sat_gd k2 (sat_gd rfl (sat_gd p2 (sat_gd i2 (sat_gd rfl (sat_gd p2 (sat_gd i1 (sat_let fun H51 q51 => ?_))))))))
      have q51 : H51 = ea_wi h (77 + 2 * l) (g + 1) (ea_i h (77 + 2 * l) g) := q51
      have f51 : plF l h H51 := q51 ▸ plF_w
      have r51 : ∀ i, hI H51 (77 + 2 * l) i = if i = g + 1 then hI h (77 + 2 * l) (g + 1 - 1) else hI h (77 + 2 * l) i := fun i => by
        rw [q51, hI_row]
        rfl
      have em2 : (x3 + (-1 : Int32)).toInt = g := by
        rw [n_add, e3, l_m1, n_bm (by omega) (by omega)]
        omega
      refine ih H51 (x3 + (-1)) em2 (ShC_core f51.1 hs) ?_ (ho.dn (Nat.succ_pos g) r51) (fun i hi1 hi2 => ?_) (f.tr f51)
      · rw [q51, hI_ne (by omega)]
        exact hc
      · rw [r51 i]
        by_cases w : i = g + 1
        · rw [if_pos w]
          show row ≤ hI h (77 + 2 * l) g
          omega
        · rw [if_neg w]
          exact hi i (Nat.lt_of_le_of_ne (show g + 1 ≤ i from hi1) fun u => w u.symm) hi2
theorem c_tell46 (hl : l < 120) (hc4 : c ≤ 4) (hS : ∀ v, S v → v ≠ row) (e4 : x4.toInt = row) : ∀ (k g : Nat) (h : ea_H) (x3 : Int32), g + k + 1 = c → x3.toInt = g → ShC h → hI h (76 + 2 * l) 18 = c → Ho c g (hI h (77 + 2 * l)) S → plF l h0 h →
    sat (qX5_tell_46 (76 + 2 * l) x3 x4 h) fun y => y.1 = 1 ∧ plF l h0 y.2 ∧ hI y.2 (76 + 2 * l) 18 = c ∧ (∀ i j, i < j → j < c → hI y.2 (77 + 2 * l) i < hI y.2 (77 + 2 * l) j) ∧ ∀ v, (∃ i, i < c ∧ hI y.2 (77 + 2 * l) i = v) ↔ v = row ∨ S v := by
  intro k
  induction k with
  | zero =>
    intro g h x3 hk e3 hs hc ho f
    obtain ⟨-, k2⟩ := ltr_ref hs hl
    refine uqX5_tell_46 ?_
    unfold BX5_tell_46
    have vc : (ea_i h (76 + 2 * l) 18).toInt = c := hc
    refine sat_gd k2 (sat_pos (by rw [n_le, n_pred (by omega), vc, e3]; omega) ?_)
    exact c_tell89 hl hc4 hS e4 g h x3 e3 hs hc ho (fun i h1 h2 => by omega) f
  | succ k ih =>
    intro g h x3 hk e3 hs hc ho f
    obtain ⟨-, k2⟩ := ltr_ref hs hl
    obtain ⟨p1, p2, p3⟩ := plc_ref hs hl
    have ic : x3.toNatClampNeg = g := by
      rw [n_idx, e3]
      rfl
    have em : (x3 + (1 : Int32)).toInt = ((g + 1 : Nat) : Int) := n_inc e3 (by omega)
    have icm : (x3 + (1 : Int32)).toNatClampNeg = g + 1 := by
      rw [n_idx, em]
      rfl
    have i1 : vp_in x3 (ea_l h (Option.getD (some (77 + 2 * l)) 0)) := by
      show vp_in x3 (ea_l h (77 + 2 * l))
      rw [p3]
      exact vp80 e3 (by omega)
    have i2 : vp_in (x3 + (1 : Int32)) (ea_l h (Option.getD (some (77 + 2 * l)) 0)) := by
      show vp_in (x3 + (1 : Int32)) (ea_l h (77 + 2 * l))
      rw [p3]
      exact vp80 em (by omega)
    have vc : (ea_i h (76 + 2 * l) 18).toInt = c := hc
    refine uqX5_tell_46 ?_
    unfold BX5_tell_46
    rw [p1, ic, icm]
    refine sat_gd k2 (sat_neg (by rw [n_le, n_pred (by omega), vc, e3]; omega) (sat_gd k2 (sat_gd rfl (sat_gd p2 (sat_gd i2 (sat_ite (fun z => ?_) fun z => ?_))))))
    · have z : x4 ≤ ea_i h (77 + 2 * l) (g + 1) := z
      rw [n_le, hI_eq, e4] at z
      refine c_tell89 hl hc4 hS e4 g h x3 e3 hs hc ho (fun i h1 h2 => ?_) f
      by_cases w : i = g + 1
      · rw [w]
        exact z
      · have := ho.2.1 (g + 1) i (by omega) h2 (by omega) (by omega)
        omega
    · refine sat_gd k2 (sat_gd k2 (sat_gd rfl (sat_gd p2 (sat_gd i2 (sat_gd rfl (sat_gd p2 (sat_gd i1 (sat_let fun H26 q26 => ?_))))))))
      have q26 : H26 = ea_wi h (77 + 2 * l) g (ea_i h (77 + 2 * l) (g + 1)) := q26
      have f26 : plF l h H26 := q26 ▸ plF_w
      have r26 : ∀ i, hI H26 (77 + 2 * l) i = if i = g then hI h (77 + 2 * l) (g + 1) else hI h (77 + 2 * l) i := fun i => by
        rw [q26, hI_row]
        rfl
      refine ih (g + 1) H26 (x3 + 1) (by omega) em (ShC_core f26.1 hs) ?_ (ho.up (by omega) r26) (f.tr f26)
      rw [q26, hI_ne (by omega)]
      exact hc
end TE
theorem c_tell {h : ea_H} (hs : ShC h) {l c : Nat} (hl : l < 120) {tw ch : Nat → Int} (hc : hI h (76 + 2 * l) 18 = c) (p : PlR c (hI h (77 + 2 * l)) tw ch) {x1 x2 : Int32} {a b : Int} (e1 : x1.toInt = a) (e2 : x2.toInt = b) (a0 : 0 ≤ a) (a1 : a < 12) (b0 : 1 ≤ b) (b1 : b ≤ 99) :
    sat (qX5_tell (76 + 2 * l) x1 x2 h) fun y => (y = (0, h) ∧ c = 4 ∧ ∀ k, k < c → tw k ≠ a) ∨ (y.1 = 1 ∧ plF l h y.2 ∧ ∃ k c' : Nat, ((k < c ∧ c' = c ∧ tw k = a) ∨ (k = c ∧ c' = c + 1 ∧ c < 4 ∧ ∀ j, j < c → tw j ≠ a)) ∧ hI y.2 (76 + 2 * l) 18 = c' ∧ (∀ i j, i < j → j < c' → hI y.2 (77 + 2 * l) i < hI y.2 (77 + 2 * l) j) ∧ ∀ v, (∃ i, i < c' ∧ hI y.2 (77 + 2 * l) i = v) ↔ v = (100 - b) * 16 + a ∨ plS c k tw ch v) := by
  obtain ⟨-, k2⟩ := ltr_ref hs hl
  have p0 := p
  obtain ⟨p1, p2, p3, p4, p5, p6⟩ := p
  have hR : ∀ i, i < c → 0 ≤ hI h (77 + 2 * l) i := fun i hi => by
    obtain ⟨k, q1, q2⟩ := p5 i hi
    have := p2 k q1
    omega
  have d : ((100 : Int32) - x2).toInt = 100 - b := by rw [n_sub, l_100, e2, n_bm (by omega) (by omega)]
  have s : (((100 : Int32) - x2) <<< ((4 : Int32) &&& 31)).toInt = (100 - b) * 16 := by rw [s_shl_4 (by omega) (by omega), d]
  have rv : ((((100 : Int32) - x2) <<< ((4 : Int32) &&& 31)) ||| x1).toInt = (100 - b) * 16 + a := by
    rw [s_or 4 (by omega) (by rw [s]; show ((100 - b) * 16) % 16 = 0; omega) (by omega) (by rw [e1]; show a < 16; omega), s, e1]
  obtain ⟨v, q, r⟩ := c_rowOfPlace hs hl hc p1 hR e1
  have vc : (ea_i h (76 + 2 * l) 18).toInt = c := hc
  unfold qX5_tell
  refine uqX5_tell_0 ?_
  unfold BX5_tell_0
  refine sat_gd k2 (sat_call q ?_)
  rcases r with ⟨r1, r2⟩ | ⟨i, i1, r1, r2⟩
  · have r3 : ∀ k, k < c → tw k ≠ a := fun k hk z => by
      obtain ⟨i, i1, i2⟩ := p6 k hk
      have := p2 k hk
      exact r2 i i1 (by omega)
    refine sat_pos (n_eq.mpr r1) (sat_gd k2 (sat_ite (fun z => ?_) fun z => ?_))
    · have z : ea_i h (76 + 2 * l) 18 < (4 : Int32) := z
      rw [n_lt, vc, l_4] at z
      refine sat_gd k2 (sat_sub (sat_gd k2 (sat_gd k2 (sat_let fun H9 q9 => sat_let fun x10 q10 => ?_))))
      have q9 : H9 = ea_wi h (76 + 2 * l) 18 (ea_i h (76 + 2 * l) 18 + 1) := q9
      have f9 : plF l h H9 := q9 ▸ plF_18
      have c9 : hI H9 (76 + 2 * l) 18 = ((c + 1 : Nat) : Int) := by
        rw [q9, hI_at, n_inc vc (by omega)]
      have r9 : ∀ i, hI H9 (77 + 2 * l) i = hI h (77 + 2 * l) i := fun i => by rw [q9, hI_ne (by omega)]
      have ho : Ho (c + 1) c (hI H9 (77 + 2 * l)) (plS c c tw ch) := by
        have := p0.app
        rw [show hI H9 (77 + 2 * l) = hI h (77 + 2 * l) from funext r9]
        exact this
      refine sat_mono (c_tell46 (row := (100 - b) * 16 + a) hl (by omega) (fun v hv => ?_) (by rw [q10]; exact rv) 0 c H9 _ (by omega) vc (ShC_core f9.1 hs) c9 ho f9) fun y hy => Or.inr ⟨hy.1, hy.2.1, c, c + 1, Or.inr ⟨rfl, rfl, by omega, r3⟩, hy.2.2⟩
      obtain ⟨j, j1, j2, j3⟩ := hv
      have w1 := r3 j j1
      have w2 := p2 j j1
      omega
    · have z : ¬ ea_i h (76 + 2 * l) 18 < (4 : Int32) := z
      rw [n_lt, vc, l_4] at z
      exact sat_ret (Or.inl ⟨rfl, by omega, r3⟩)
  · obtain ⟨k, k1, k3⟩ := p5 i i1
    have hk := p2 k k1
    have ka : tw k = a := by omega
    refine sat_neg (fun z => by
      have z : v = -1 := z
      rw [n_eq, r1, l_m1] at z
      omega) (sat_let fun x10 q10 => ?_)
    refine sat_mono (c_tell46 (row := (100 - b) * 16 + a) hl p1 (fun v hv => ?_) (by rw [q10]; exact rv) (c - i - 1) i h v (by omega) r1 hs hc (p0.rep k1 ka i1 r2) (fq_rfl _ _ _)) fun y hy => Or.inr ⟨hy.1, hy.2.1, k, c, Or.inl ⟨k1, rfl, ka⟩, hy.2.2⟩
    obtain ⟨j, j1, j2, j3⟩ := hv
    have w2 := p2 j j1
    rcases Nat.lt_trichotomy j k with q | q | q
    · have := p3 j k q k1
      omega
    · exact absurd q j2
    · have := p3 k j q j1
      omega
section CP
variable {T : Nat → Nat → Nat → Nat} {m : Nat} {X G : Nat → Nat → Int} {h : ea_H}
theorem plF.no {l a : Nat} (ha : a ≠ 77 + 2 * l) : inB [(77 + 2 * l, 77 + 2 * l)] a = false := by
  rw [Bool.eq_false_iff]
  intro z
  obtain ⟨q, q1, q2, q3⟩ := inB_iff.mp z
  rw [List.mem_singleton.mp q1] at q2 q3
  dsimp only at q2 q3
  omega
theorem plF.at {l : Nat} {h h' : ea_H} (f : plF l h h') {a k : Nat} (ha : a ≠ 77 + 2 * l) (hk : a ≠ 76 + 2 * l ∨ k ≠ 18) : hI h' a k = hI h a k := by
  refine f.I a (plF.no ha) k ?_
  rw [Bool.eq_false_iff]
  intro z
  obtain ⟨q, q1, ⟨q2, q3⟩, q4, q5⟩ := inP_iff.mp z
  rw [List.mem_singleton.mp q1] at q2 q3 q4 q5
  dsimp only at q2 q3 q4 q5
  omega
theorem plF.wide {l : Nat} (hl : l < 120) {h h' : ea_H} (f : plF l h h') : fq [(76, 315)] [] h h' := by
  have o : ∀ a, inB [(76, 315)] a = false → a ≠ 77 + 2 * l ∧ a ≠ 76 + 2 * l := fun a ha => by
    constructor
    · intro z
      rw [inB_at (r := (76, 315)) List.mem_cons_self (by show 76 ≤ a; omega) (by show a ≤ 315; omega)] at ha
      cases ha
    · intro z
      rw [inB_at (r := (76, 315)) List.mem_cons_self (by show 76 ≤ a; omega) (by show a ≤ 315; omega)] at ha
      cases ha
  exact ⟨f.1, fun a ha k _ => f.at (o a ha).1 (Or.inl (o a ha).2), fun a ha k => f.2.2 a (plF.no (o a ha).1) k⟩
theorem call_place {n : Nat} (hs : ShC h) (bs : SBas h n) (sb : SBg h n T m X G) (sp : SPl h m) (nw : SNw h m X) (x1 x2 x3 : Int32) : tw (qX11_place x1 x2 x3 h) (qX12_place x1 x2 x3) fun h' => fq [(76, 315), (396, 398)] [] h h' ∧ ltE [0, 1, 2, 3, 4, 5, 6, 7, 8, 9, 10, 11, 12, 13, 14, 15, 16, 17] h h' ∧ SPl h' m ∧ SNw h' m X := by
  obtain ⟨b1, b2, b3, b4, b5, b6⟩ := bs
  obtain ⟨hG, gc, gm, rc, rn, rm, df, -⟩ := sb
  have rm0 := rm.1.1
  have hm := rm.1.2
  have idle : (0 : Int32) = 0 ∧ fq [(76, 315), (396, 398)] [] h h ∧ ltE [0, 1, 2, 3, 4, 5, 6, 7, 8, 9, 10, 11, 12, 13, 14, 15, 16, 17] h h ∧ SPl h m ∧ SNw h m X := ⟨rfl, fq_rfl _ _ _, fun _ _ _ _ => rfl, sp, nw⟩
  rcases c_letterOf x1 hs rc.1.1 rc.1.2 with ⟨pl, np⟩ | ⟨l, e1, hl, pl⟩
  · unfold tw qX11_place BX11_place_0
    refine sat_call pl (sat_pos rfl (sat_ret ?_))
    show sat (qX12_place x1 x2 x3 h) _
    unfold qX12_place
    refine uqX12_place_0 ?_
    unfold BX12_place_0
    obtain ⟨v1, q1, s1⟩ := m_isLetterOf x1 (h := h) (by omega)
    refine sat_call q1 ?_
    rcases s1 with ⟨r1, s1⟩ | ⟨r1, s1⟩
    · exact sat_pos r1 (sat_ret idle)
    refine sat_neg (by rw [r1]; exact i1_ne_0) ?_
    dsimp only
    exact absurd s1 (by omega)
  have hl' : l < 120 := by omega
  obtain ⟨k1, k2⟩ := ltr_ref hs hl'
  have g1 := vp80 e1 hl'
  have ic : x1.toNatClampNeg = l := by
    rw [n_idx, e1]
    rfl
  obtain ⟨m2, s2, ⟨a1, a2, a3, a4, a5⟩, ab, -⟩ := gc
  obtain ⟨m3, s3, ⟨d1, d2, d3, d4, d5, d6⟩, db, -⟩ := gm
  obtain ⟨⟨z1, z2, z3⟩, -⟩ := ab l (by omega)
  obtain ⟨⟨y1, y2, y3⟩, -⟩ := db l (by omega)
  have v53 : (ea_i h 53 l).toInt = X 0 l := (rc.2.1 l hl).1
  have v2 : (ea_i h (76 + 2 * l) 2).toInt = G 0 l := z1
  obtain ⟨c, c1, c2, c3⟩ := sp l hl
  have c4 := c3.1
  -- the reference, up to its walk over the places
  have ref : ∀ (h1 : ea_H) (Q : Int32 × ea_H → Prop), hiq h h1 → (¬ (X 0 l = 3 ∧ (0 ≤ x2.toInt ∧ x2.toInt < n) ∧ x2.toInt ≠ G 0 l ∧ 1 ≤ x3.toInt ∧ x3.toInt ≤ 99) → Q (0, h1)) → ((X 0 l = 3 ∧ (0 ≤ x2.toInt ∧ x2.toInt < n) ∧ x2.toInt ≠ G 0 l ∧ 1 ≤ x3.toInt ∧ x3.toInt ≤ 99) → sat (qX12_place_51 x1 x2 x3 0 h1) Q) → sat (qX12_place x1 x2 x3 h1) Q := by
    intro h1 Q hq hno hyes
    have r0 : hI h1 326 63 = hI h 326 63 := hq 326 63 (by decide)
    have r1 : hI h1 326 1 = n := (hq 326 1 (by decide)).trans b5
    have v381 : (ea_i h1 381 l).toInt = X 0 l := (hq 381 l (by decide)).trans (rm.2.1 l).1
    have v366 : (ea_i h1 366 l).toInt = G 0 l := (hq 366 l (by decide)).trans y1
    unfold qX12_place
    refine uqX12_place_0 ?_
    unfold BX12_place_0
    obtain ⟨v1, q1, s1⟩ := m_isLetterOf x1 (h := h1) (by omega)
    refine sat_call q1 ?_
    rcases s1 with ⟨r1, s1⟩ | ⟨r1, s1⟩
    · exact sat_pos r1 (absurd s1 (by omega))
    refine sat_neg (by rw [r1]; exact i1_ne_0) ?_
    dsimp only
    rw [ic]
    refine sat_gd g1 (sat_ite (fun c => ?_) fun c => ?_)
    · rw [n_eq, v381, l_3] at c
      obtain ⟨v2, q2, s2⟩ := m_isTown x2 (h := h1) (by omega)
      refine sat_call q2 ?_
      rcases s2 with ⟨r2, s2⟩ | ⟨r2, s2⟩
      · exact sat_pos r2 (sat_ret (hno (by omega)))
      refine sat_neg (by rw [r2]; exact i1_ne_0) ?_
      dsimp only
      refine sat_gd g1 (sat_ite (fun d => ?_) fun d => ?_)
      · rw [n_eq, v366] at d
        exact sat_ret (hno (by omega))
      rw [n_eq, v366] at d
      obtain ⟨v5, q5, s5⟩ := m_isIn x3 1 99 h1
      rw [l_1, l_99] at s5
      refine sat_call q5 ?_
      rcases s5 with ⟨r5, s5⟩ | ⟨r5, s5⟩
      · exact sat_pos r5 (sat_ret (hno (by omega)))
      · exact sat_neg (by rw [r5]; exact i1_ne_0) (hyes ⟨c, by omega, d, s5⟩)
    · rw [n_eq, v381, l_3] at c
      exact sat_ret (hno fun z => c z.1)
  have no : ¬ (X 0 l = 3 ∧ (0 ≤ x2.toInt ∧ x2.toInt < n) ∧ x2.toInt ≠ G 0 l ∧ 1 ≤ x3.toInt ∧ x3.toInt ≤ 99) → sat (some ((0 : Int32), h)) fun y => sat (qX12_place x1 x2 x3 y.2) fun z => y.1 = z.1 ∧ fq [(76, 315), (396, 398)] [] h z.2 ∧ ltE [0, 1, 2, 3, 4, 5, 6, 7, 8, 9, 10, 11, 12, 13, 14, 15, 16, 17] h z.2 ∧ SPl z.2 m ∧ SNw z.2 m X := fun hn => sat_ret (ref h _ (fun _ _ _ => rfl) (fun _ => idle) fun z => absurd z hn)
  -- its walk
  have walk : ∀ (h1 : ea_H) (Q : Int32 × ea_H → Prop), hiq h h1 → (∀ (k : Nat) (x4 : Int32), x4.toInt = k → ((k < c ∧ hI h 397 (4 * l + k) = x2.toInt) ∨ (k = c ∧ ∀ j, j < c → hI h 397 (4 * l + j) ≠ x2.toInt)) → sat (qX12_place_83 x1 x2 x3 x4 h1) Q) → ∀ (j k : Nat) (x4 : Int32), k + j = c → x4.toInt = k → (∀ j, j < k → hI h 397 (4 * l + j) ≠ x2.toInt) → sat (qX12_place_51 x1 x2 x3 x4 h1) Q := by
    intro h1 Q hq K j
    have v396 : (ea_i h1 396 l).toInt = c := (hq 396 l (by decide)).trans c2
    induction j with
    | zero =>
      intro k x4 hk e4 hno
      refine uqX12_place_51 ?_
      unfold BX12_place_51
      rw [ic]
      have ek : k = c := by omega
      exact sat_gd g1 (sat_pos (by rw [n_le, v396, e4]; omega) (K k x4 e4 (Or.inr ⟨ek, fun j hj => hno j (by omega)⟩)))
    | succ j ih =>
      intro k x4 hk e4 hno
      have i0 : ((4 : Int32) * x1 + x4).toInt = 4 * (l : Int) + k := by simp (disch := omega) only [n_add, n_sub, n_mul, n_neg, n_bm, n_idx, n_if, hI_eq, l_m1000, l_m100, l_m60, l_m19, l_m18, l_m17, l_m16, l_m15, l_m14, l_m13, l_m12, l_m11, l_m10, l_m8, l_m1, l_0, l_1, l_2, l_3, l_4, l_5, l_6, l_7, l_8, l_9, l_10, l_11, l_12, l_13, l_14, l_15, l_16, l_17, l_18, l_19, l_20, l_21, l_24, l_25, l_32, l_40, l_41, l_42, l_43, l_45, l_47, l_48, l_57, l_59, l_60, l_61, l_62, l_63, l_64, l_65, l_70, l_80, l_90, l_97, l_99, l_100, l_120, l_122, l_127, l_144, l_150, l_201, l_202, l_203, l_204, l_205, l_206, l_207, l_255, l_300, l_364, l_480, l_560, l_600, l_601, l_620, l_840, l_900, l_980, l_999, l_1000, l_1023, l_1024, l_1220, l_1439, l_1440, l_2240, l_2400, l_3000, l_3600, l_4095, l_4096, l_7320, l_9999, l_10079, l_10080, l_12000, l_99999, l_120000, l_1000000, l_2147483647, e1, e4]
      have i1 : ((4 : Int32) * x1 + x4).toInt = ((4 * l + k : Nat) : Int) := by
        rw [i0]
        omega
      have ici : ((4 : Int32) * x1 + x4).toNatClampNeg = 4 * l + k := by
        rw [n_idx, i1]
        rfl
      have v397 : (ea_i h1 397 (4 * l + k)).toInt = hI h 397 (4 * l + k) := hq 397 _ (by decide)
      refine uqX12_place_51 ?_
      unfold BX12_place_51
      rw [ic, ici]
      refine sat_gd g1 (sat_neg (by rw [n_le, v396, e4]; omega) (sat_gd (vp80 i1 (by omega)) (sat_ite (fun z => ?_) fun z => ?_)))
      · rw [n_eq, v397] at z
        exact K k x4 e4 (Or.inl ⟨by omega, z⟩)
      · rw [n_eq, v397] at z
        refine ih (k + 1) (x4 + 1) (by omega) (n_inc e4 (by omega)) fun i hi => ?_
        by_cases w : i = k
        · rw [w]
          exact z
        · exact hno i (by omega)
  unfold tw qX11_place BX11_place_0
  rw [ic]
  refine sat_call pl (sat_neg (by simp) (sat_gd g1 (sat_eti (fun t => ?_) fun t => ?_)))
  · have t : ¬ ea_i h 53 l = 3 := t
    rw [n_eq, v53, l_3] at t
    exact no fun z => t z.1
  have t : ea_i h 53 l = 3 := t
  rw [n_eq, v53, l_3] at t
  obtain ⟨vh, ph, qh⟩ := c_has x2 h
  refine sat_call ph ?_
  rcases qh with ⟨qh, qh2⟩ | ⟨qh, qh2⟩
  · exact sat_pos qh (no (by omega))
  refine sat_neg (by rw [qh]; exact i1_ne_0) (sat_gd rfl (sat_gd k2 (sat_ite (fun u => ?_) fun u => ?_)))
  · have u : x2 = ea_i h (76 + 2 * l) 2 := u
    rw [n_eq, v2] at u
    exact no (by omega)
  have u : ¬ x2 = ea_i h (76 + 2 * l) 2 := u
  rw [n_eq, v2] at u
  refine sat_ite (fun w1 => ?_) fun w1 => ?_
  · simp only [n_lt, n_le, n_eq, hI_eq, l_m1000, l_m100, l_m60, l_m19, l_m18, l_m17, l_m16, l_m15, l_m14, l_m13, l_m12, l_m11, l_m10, l_m8, l_m1, l_0, l_1, l_2, l_3, l_4, l_5, l_6, l_7, l_8, l_9, l_10, l_11, l_12, l_13, l_14, l_15, l_16, l_17, l_18, l_19, l_20, l_21, l_24, l_25, l_32, l_40, l_41, l_42, l_43, l_45, l_47, l_48, l_57, l_59, l_60, l_61, l_62, l_63, l_64, l_65, l_70, l_80, l_90, l_97, l_99, l_100, l_120, l_122, l_127, l_144, l_150, l_201, l_202, l_203, l_204, l_205, l_206, l_207, l_255, l_300, l_364, l_480, l_560, l_600, l_601, l_620, l_840, l_900, l_980, l_999, l_1000, l_1023, l_1024, l_1220, l_1439, l_1440, l_2240, l_2400, l_3000, l_3600, l_4095, l_4096, l_7320, l_9999, l_10079, l_10080, l_12000, l_99999, l_120000, l_1000000, l_2147483647] at w1
    exact no (by omega)
  simp only [n_lt, n_le, n_eq, hI_eq, l_m1000, l_m100, l_m60, l_m19, l_m18, l_m17, l_m16, l_m15, l_m14, l_m13, l_m12, l_m11, l_m10, l_m8, l_m1, l_0, l_1, l_2, l_3, l_4, l_5, l_6, l_7, l_8, l_9, l_10, l_11, l_12, l_13, l_14, l_15, l_16, l_17, l_18, l_19, l_20, l_21, l_24, l_25, l_32, l_40, l_41, l_42, l_43, l_45, l_47, l_48, l_57, l_59, l_60, l_61, l_62, l_63, l_64, l_65, l_70, l_80, l_90, l_97, l_99, l_100, l_120, l_122, l_127, l_144, l_150, l_201, l_202, l_203, l_204, l_205, l_206, l_207, l_255, l_300, l_364, l_480, l_560, l_600, l_601, l_620, l_840, l_900, l_980, l_999, l_1000, l_1023, l_1024, l_1220, l_1439, l_1440, l_2240, l_2400, l_3000, l_3600, l_4095, l_4096, l_7320, l_9999, l_10079, l_10080, l_12000, l_99999, l_120000, l_1000000, l_2147483647] at w1
  refine sat_eti (fun w2 => ?_) fun w2 => ?_
  · simp only [n_lt, n_le, n_eq, hI_eq, l_m1000, l_m100, l_m60, l_m19, l_m18, l_m17, l_m16, l_m15, l_m14, l_m13, l_m12, l_m11, l_m10, l_m8, l_m1, l_0, l_1, l_2, l_3, l_4, l_5, l_6, l_7, l_8, l_9, l_10, l_11, l_12, l_13, l_14, l_15, l_16, l_17, l_18, l_19, l_20, l_21, l_24, l_25, l_32, l_40, l_41, l_42, l_43, l_45, l_47, l_48, l_57, l_59, l_60, l_61, l_62, l_63, l_64, l_65, l_70, l_80, l_90, l_97, l_99, l_100, l_120, l_122, l_127, l_144, l_150, l_201, l_202, l_203, l_204, l_205, l_206, l_207, l_255, l_300, l_364, l_480, l_560, l_600, l_601, l_620, l_840, l_900, l_980, l_999, l_1000, l_1023, l_1024, l_1220, l_1439, l_1440, l_2240, l_2400, l_3000, l_3600, l_4095, l_4096, l_7320, l_9999, l_10079, l_10080, l_12000, l_99999, l_120000, l_1000000, l_2147483647] at w2
    exact no (by omega)
  simp only [n_lt, n_le, n_eq, hI_eq, l_m1000, l_m100, l_m60, l_m19, l_m18, l_m17, l_m16, l_m15, l_m14, l_m13, l_m12, l_m11, l_m10, l_m8, l_m1, l_0, l_1, l_2, l_3, l_4, l_5, l_6, l_7, l_8, l_9, l_10, l_11, l_12, l_13, l_14, l_15, l_16, l_17, l_18, l_19, l_20, l_21, l_24, l_25, l_32, l_40, l_41, l_42, l_43, l_45, l_47, l_48, l_57, l_59, l_60, l_61, l_62, l_63, l_64, l_65, l_70, l_80, l_90, l_97, l_99, l_100, l_120, l_122, l_127, l_144, l_150, l_201, l_202, l_203, l_204, l_205, l_206, l_207, l_255, l_300, l_364, l_480, l_560, l_600, l_601, l_620, l_840, l_900, l_980, l_999, l_1000, l_1023, l_1024, l_1220, l_1439, l_1440, l_2240, l_2400, l_3000, l_3600, l_4095, l_4096, l_7320, l_9999, l_10079, l_10080, l_12000, l_99999, l_120000, l_1000000, l_2147483647] at w2
  have cond : X 0 l = 3 ∧ (0 ≤ x2.toInt ∧ x2.toInt < n) ∧ x2.toInt ≠ G 0 l ∧ 1 ≤ x3.toInt ∧ x3.toInt ≤ 99 := ⟨t, by omega, u, by omega, by omega⟩
  refine sat_gd rfl (sat_gd k2 (sat_bind (c_tell hs hl' c1 c3 rfl rfl (by omega) (by omega) (by omega) (by omega)) fun y hy => ?_))
  rcases hy with ⟨hy, c5, c6⟩ | ⟨hy1, f, k, c', hk, hc', srt, st⟩
  · subst hy
    refine sat_gd (Or.inl rfl) (sat_ret (ref h _ (fun _ _ _ => rfl) (fun z => absurd cond z) fun _ => ?_))
    refine walk h _ (fun _ _ _ => rfl) (fun k x4 e4 hk => ?_) c 0 0 (by omega) rfl fun j hj => absurd hj (Nat.not_lt_zero j)
    rcases hk with ⟨hk, hk2⟩ | ⟨hk, -⟩
    · exact absurd hk2 (c6 k hk)
    · refine uqX12_place_83 ?_
      unfold BX12_place_83
      exact sat_pos (by rw [n_eq, e4, l_4]; omega) (sat_ret idle)
  refine sat_gd (Or.inr hy1) (sat_ret ?_)
  have hq : hiq h y.2 := fun a k ha => f.at (by omega) (Or.inl (by omega))
  refine ref y.2 _ hq (fun z => absurd cond z) fun _ => ?_
  refine walk y.2 _ hq (fun k2' x4 e4 hk2 => ?_) c 0 0 (by omega) rfl fun j hj => absurd hj (Nat.not_lt_zero j)
  have ek : k2' = k := by
    rcases hk with ⟨w1, w2, w3⟩ | ⟨w1, w2, w3, w4⟩
    · rcases hk2 with ⟨u1, u2⟩ | ⟨u1, u2⟩
      · rcases Nat.lt_trichotomy k2' k with q | q | q
        · exact absurd (u2.trans w3.symm) (c3.2.2.1 k2' k q w1)
        · exact q
        · exact absurd (w3.trans u2.symm) (c3.2.2.1 k k2' q u1)
      · exact absurd w3 (u2 k w1)
    · rcases hk2 with ⟨u1, u2⟩ | ⟨u1, u2⟩
      · exact absurd u2 (w4 k2' u1)
      · omega
  subst ek
  have hk4 : k2' < 4 := by omega
  have i0 : ((4 : Int32) * x1 + x4).toInt = 4 * (l : Int) + k2' := by simp (disch := omega) only [n_add, n_sub, n_mul, n_neg, n_bm, n_idx, n_if, hI_eq, l_m1000, l_m100, l_m60, l_m19, l_m18, l_m17, l_m16, l_m15, l_m14, l_m13, l_m12, l_m11, l_m10, l_m8, l_m1, l_0, l_1, l_2, l_3, l_4, l_5, l_6, l_7, l_8, l_9, l_10, l_11, l_12, l_13, l_14, l_15, l_16, l_17, l_18, l_19, l_20, l_21, l_24, l_25, l_32, l_40, l_41, l_42, l_43, l_45, l_47, l_48, l_57, l_59, l_60, l_61, l_62, l_63, l_64, l_65, l_70, l_80, l_90, l_97, l_99, l_100, l_120, l_122, l_127, l_144, l_150, l_201, l_202, l_203, l_204, l_205, l_206, l_207, l_255, l_300, l_364, l_480, l_560, l_600, l_601, l_620, l_840, l_900, l_980, l_999, l_1000, l_1023, l_1024, l_1220, l_1439, l_1440, l_2240, l_2400, l_3000, l_3600, l_4095, l_4096, l_7320, l_9999, l_10079, l_10080, l_12000, l_99999, l_120000, l_1000000, l_2147483647, e1, e4]
  have i1 : ((4 : Int32) * x1 + x4).toInt = ((4 * l + k2' : Nat) : Int) := by
    rw [i0]
    omega
  have ici : ((4 : Int32) * x1 + x4).toNatClampNeg = 4 * l + k2' := by
    rw [n_idx, i1]
    rfl
  have gi := vp80 i1 (show 4 * l + k2' < 480 by omega)
  refine uqX12_place_83 ?_
  unfold BX12_place_83
  rw [ici, ic]
  refine sat_neg (by rw [n_eq, e4, l_4]; omega) (sat_gd gi (sat_let fun H16 q16 => sat_gd gi (sat_let fun H18 q18 => sat_gd g1 ?_)))
  have q16 : H16 = ea_wi y.2 397 (4 * l + k2') x2 := q16
  have q18 : H18 = ea_wi H16 398 (4 * l + k2') x3 := q18
  have f18 : fq [(396, 398)] [] y.2 H18 := (q16 ▸ fq_wi rfl : fq [(396, 398)] [] y.2 H16).tr (q18 ▸ fq_wi rfl)
  have v396 : (ea_i H18 396 l).toInt = c := by
    rw [q18, i_ne (by decide), q16, i_ne (by decide)]
    exact (hq 396 l (by decide)).trans c2
  have fin : ∀ H : ea_H, fq [(396, 398)] [] H18 H → (∀ j, hI H 397 j = hI H18 397 j) → (∀ j, hI H 398 j = hI H18 398 j) → (∀ j, hI H 396 j = if j = l then (c' : Int) else hI h 396 j) → fq [(76, 315), (396, 398)] [] h H ∧ ltE [0, 1, 2, 3, 4, 5, 6, 7, 8, 9, 10, 11, 12, 13, 14, 15, 16, 17] h H ∧ SPl H m ∧ SNw H m X := by
    intro H fH t397 t398 t396
    have fr : fq [(396, 398)] [] y.2 H := f18.tr fH
    have lo : ∀ a j, a < 326 → hI H a j = hI y.2 a j := fun a j ha => fr.I a (by
      rw [Bool.eq_false_iff]
      intro z
      obtain ⟨q, q1, q2, q3⟩ := inB_iff.mp z
      rw [List.mem_singleton.mp q1] at q2
      dsimp only at q2
      omega) j rfl
    refine ⟨((f.wide hl').up rfl rfl).tr (fr.up rfl rfl), fun l' k' hl2 hk' => ?_, fun l' hl2 => ?_, fun l' hl2 hl3 => ?_⟩
    · rw [lo _ _ (by omega)]
      exact f.at (by omega) (Or.inr (by intro z; rw [z] at hk'; revert hk'; decide))
    · by_cases q : l' = l
      · subst q
        refine ⟨c', (lo _ _ (by omega)).trans hc', by rw [t396, if_pos rfl], PlR.new (a := x2.toInt) (b := x3.toInt) c3 hk (by omega) (by omega) (by omega) (by omega) (fun j => ?_) (fun j => ?_) (fun i j hij hj => ?_) fun v => ?_⟩
        · show hI H 397 (4 * l' + j) = if j = k2' then x2.toInt else hI h 397 (4 * l' + j)
          rw [t397, q18, hI_ne (by decide), q16, hI_row]
          by_cases w : j = k2'
          · rw [if_pos w, if_pos (by omega)]
          · rw [if_neg w, if_neg (by omega)]
            exact hq 397 _ (by decide)
        · show hI H 398 (4 * l' + j) = if j = k2' then x3.toInt else hI h 398 (4 * l' + j)
          rw [t398, q18, hI_row, q16, hI_ne (by decide)]
          by_cases w : j = k2'
          · rw [if_pos w, if_pos (by omega)]
          · rw [if_neg w, if_neg (by omega)]
            exact hq 398 _ (by decide)
        · rw [lo _ _ (by omega), lo _ _ (by omega)]
          exact srt i j hij hj
        · rw [← st v]
          constructor
          · rintro ⟨i, i1, i2⟩
            exact ⟨i, i1, (lo _ _ (by omega)).symm.trans i2⟩
          · rintro ⟨i, i1, i2⟩
            exact ⟨i, i1, (lo _ _ (by omega)).trans i2⟩
      · obtain ⟨c9, u1, u2, u3⟩ := sp l' hl2
        have c94 := u3.1
        refine ⟨c9, ?_, by rw [t396, if_neg q]; exact u2, PlR.cg (fun i hi => ?_) (fun j hj => ?_) (fun j hj => ?_) u3⟩
        · rw [lo _ _ (by omega)]
          exact (f.at (by omega) (Or.inl (by omega))).trans u1
        · rw [lo _ _ (by omega)]
          exact f.at (by omega) (Or.inl (by omega))
        · show hI H 397 (4 * l' + j) = hI h 397 (4 * l' + j)
          rw [t397, q18, hI_ne (by decide), q16, hI_nk (by omega)]
          exact hq 397 _ (by decide)
        · show hI H 398 (4 * l' + j) = hI h 398 (4 * l' + j)
          rw [t398, q18, hI_nk (by omega), q16, hI_ne (by decide)]
          exact hq 398 _ (by decide)
    · have o : ∀ k', hI H (76 + 2 * l') k' = hI h (76 + 2 * l') k' := fun k' => by
        rw [lo _ _ (by omega)]
        exact f.at (by omega) (Or.inl (by omega))
      rw [o, o, o, o, o, o, o, t396, if_neg (show ¬ l' = l by omega), fr.C 380 rfl rfl, hq 380 l' (by decide)]
      exact nw l' hl2 hl3
  refine sat_ite (fun z => ?_) fun z => ?_
  · rw [n_eq, e4, v396] at z
    refine sat_gd g1 (sat_gd g1 (sat_let fun H22 q22 => sat_ret ⟨hy1, ?_⟩))
    have q22 : H22 = ea_wi H18 396 l (ea_i H18 396 l + 1) := q22
    refine fin H22 (q22 ▸ fq_wi rfl) (fun j => by rw [q22, hI_ne (by decide)]) (fun j => by rw [q22, hI_ne (by decide)]) fun j => ?_
    rw [q22, hI_row]
    by_cases w : j = l
    · rw [if_pos w, if_pos w, n_inc v396 (by omega)]
      have : c' = c + 1 := by omega
      rw [this]
    · rw [if_neg w, if_neg w, q18, hI_ne (by decide), q16, hI_ne (by decide)]
      exact hq 396 j (by decide)
  · rw [n_eq, e4, v396] at z
    refine sat_ret ⟨hy1, ?_⟩
    refine fin H18 (fq_rfl _ _ _) (fun _ => rfl) (fun _ => rfl) fun j => ?_
    rw [q18, hI_ne (by decide), q16, hI_ne (by decide), hq 396 j (by decide)]
    by_cases w : j = l
    · have : c' = c := by omega
      rw [if_pos w, w, this]
      exact c2
    · rw [if_neg w]
end CP
