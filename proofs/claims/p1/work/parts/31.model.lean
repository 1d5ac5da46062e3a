/-! the reference, 1 -/
theorem zX12_next0 {b0 : Nat} : ∀ (f lbl : Nat) (sx0 : Int32) (x1 : Int32) (h : ea_H) (r : Unit) (h' : ea_H), gX12_next0 b0 f lbl sx0 x1 h = some (r, h') → ShM b0 h → ShM b0 h' := by
  intro f
  induction f with
  | zero => intro lbl sx0 x1 h r h' E; cases E
  | succ f ih =>
    intro lbl sx0 x1 h r h' E hs
    unfold gX12_next0 at E
    by_cases el0 : lbl = 0
    · have E := (if_pos el0).symm.trans E
      obtain ⟨z1, E⟩ := gd_some E
      by_cases c32 : (vX12_see b0 ((ea_i h (b0 + 0) 53) : Int32) h) = (32 : Int32)
      · have E := (if_pos c32).symm.trans E
        obtain ⟨H3, eH3, E⟩ := let_some E
        have hsH3 : ShM b0 H3 := by rw [eH3]; exact (ShM_wi hs)
        exact ih 0 0 0 H3 _ _ E hsH3
      have E := (if_neg c32).symm.trans E
      obtain ⟨z4, E⟩ := gd_some E
      by_cases c31 : (vX12_see b0 ((ea_i h (b0 + 0) 53) : Int32) h) = (10 : Int32)
      · have E := (if_pos c31).symm.trans E
        obtain ⟨H30, eH30, E⟩ := let_some E
        have hsH30 : ShM b0 H30 := by rw [eH30]; exact (ShM_wi hs)
        exact ih 0 0 0 H30 _ _ E hsH30
      have E := (if_neg c31).symm.trans E
      obtain ⟨H6, eH6, E⟩ := let_some E
      have hsH6 : ShM b0 H6 := by rw [eH6]; exact (ShM_wi hs)
      obtain ⟨z7, E⟩ := gd_some E
      by_cases c28 : (vX12_see b0 ((ea_i H6 (b0 + 0) 53) : Int32) H6) = ((-1) : Int32)
      · have E := (if_pos c28).symm.trans E
        obtain ⟨H27, eH27, E⟩ := let_some E
        have hsH27 : ShM b0 H27 := by rw [eH27]; exact (ShM_wi hsH6)
        exact ea_shO E hsH27
      have E := (if_neg c28).symm.trans E
      by_cases c25 : (vX12_isLetter ((vX12_see b0 ((ea_i H6 (b0 + 0) 53) : Int32) H6) : Int32) H6) = (0 : Int32)
      · have E := (if_pos c25).symm.trans E
        by_cases c24 : (vX12_isDigit ((vX12_see b0 ((ea_i H6 (b0 + 0) 53) : Int32) H6) : Int32) H6) = (0 : Int32)
        · have E := (if_pos c24).symm.trans E
          obtain ⟨H11, eH11, E⟩ := let_some E
          have hsH11 : ShM b0 H11 := by rw [eH11]; exact (ShM_wi hsH6)
          by_cases c21 : (vX12_see b0 ((ea_i H6 (b0 + 0) 53) : Int32) H6) = (59 : Int32)
          · have E := (if_pos c21).symm.trans E
            exact ih 289 (1 : Int32) ((vX12_see b0 ((ea_i H6 (b0 + 0) 53) : Int32) H6) : Int32) H11 _ _ E hsH11
          have E := (if_neg c21).symm.trans E
          by_cases c20 : (vX12_see b0 ((ea_i H6 (b0 + 0) 53) : Int32) H6) = (43 : Int32)
          · have E := (if_pos c20).symm.trans E
            exact ih 289 (1 : Int32) ((vX12_see b0 ((ea_i H6 (b0 + 0) 53) : Int32) H6) : Int32) H11 _ _ E hsH11
          have E := (if_neg c20).symm.trans E
          by_cases c19 : (vX12_see b0 ((ea_i H6 (b0 + 0) 53) : Int32) H6) = (45 : Int32)
          · have E := (if_pos c19).symm.trans E
            exact ih 289 (1 : Int32) ((vX12_see b0 ((ea_i H6 (b0 + 0) 53) : Int32) H6) : Int32) H11 _ _ E hsH11
          have E := (if_neg c19).symm.trans E
          by_cases c18 : (vX12_see b0 ((ea_i H6 (b0 + 0) 53) : Int32) H6) = (42 : Int32)
          · have E := (if_pos c18).symm.trans E
            exact ih 289 (1 : Int32) ((vX12_see b0 ((ea_i H6 (b0 + 0) 53) : Int32) H6) : Int32) H11 _ _ E hsH11
          have E := (if_neg c18).symm.trans E
          by_cases c17 : (vX12_see b0 ((ea_i H6 (b0 + 0) 53) : Int32) H6) = (47 : Int32)
          · have E := (if_pos c17).symm.trans E
            exact ih 289 (1 : Int32) ((vX12_see b0 ((ea_i H6 (b0 + 0) 53) : Int32) H6) : Int32) H11 _ _ E hsH11
          have E := (if_neg c17).symm.trans E
          by_cases c16 : (vX12_see b0 ((ea_i H6 (b0 + 0) 53) : Int32) H6) = (40 : Int32)
          · have E := (if_pos c16).symm.trans E
            exact ih 289 (1 : Int32) ((vX12_see b0 ((ea_i H6 (b0 + 0) 53) : Int32) H6) : Int32) H11 _ _ E hsH11
          have E := (if_neg c16).symm.trans E
          by_cases c15 : (vX12_see b0 ((ea_i H6 (b0 + 0) 53) : Int32) H6) = (41 : Int32)
          · have E := (if_pos c15).symm.trans E
            exact ih 289 (1 : Int32) ((vX12_see b0 ((ea_i H6 (b0 + 0) 53) : Int32) H6) : Int32) H11 _ _ E hsH11
          have E := (if_neg c15).symm.trans E
          by_cases c14 : (vX12_see b0 ((ea_i H6 (b0 + 0) 53) : Int32) H6) = (60 : Int32)
          · have E := (if_pos c14).symm.trans E
            exact ih 289 (1 : Int32) ((vX12_see b0 ((ea_i H6 (b0 + 0) 53) : Int32) H6) : Int32) H11 _ _ E hsH11
          have E := (if_neg c14).symm.trans E
          by_cases c13 : (vX12_see b0 ((ea_i H6 (b0 + 0) 53) : Int32) H6) = (61 : Int32)
          · have E := (if_pos c13).symm.trans E
            exact ih 289 (1 : Int32) ((vX12_see b0 ((ea_i H6 (b0 + 0) 53) : Int32) H6) : Int32) H11 _ _ E hsH11
          have E := (if_neg c13).symm.trans E
          by_cases c12 : (vX12_see b0 ((ea_i H6 (b0 + 0) 53) : Int32) H6) = (62 : Int32)
          · have E := (if_pos c12).symm.trans E
            exact ih 289 (1 : Int32) ((vX12_see b0 ((ea_i H6 (b0 + 0) 53) : Int32) H6) : Int32) H11 _ _ E hsH11
          have E := (if_neg c12).symm.trans E
          exact ih 289 (0 : Int32) ((vX12_see b0 ((ea_i H6 (b0 + 0) 53) : Int32) H6) : Int32) H11 _ _ E hsH11
        have E := (if_neg c24).symm.trans E
        obtain ⟨H23, eH23, E⟩ := let_some E
        have hsH23 : ShM b0 H23 := by rw [eH23]; exact (ShM_wi hsH6)
        exact ih 126 0 0 H23 _ _ E hsH23
      have E := (if_neg c25).symm.trans E
      exact ih 76 0 0 H6 _ _ E hsH6
    have E := (if_neg el0).symm.trans E
    by_cases el1 : lbl = 76
    · have E := (if_pos el1).symm.trans E
      obtain ⟨z33, E⟩ := gd_some E
      by_cases c42 : (vX12_isLetter ((vX12_see b0 ((ea_i h (b0 + 0) 53) : Int32) h) : Int32) h) = (0 : Int32)
      · have E := (if_pos c42).symm.trans E
        obtain ⟨z35, E⟩ := gd_some E
        obtain ⟨H37, eH37, E⟩ := let_some E
        have hsH37 : ShM b0 H37 := by rw [eH37]; exact (shX12_word hs)
        obtain ⟨H39, eH39, E⟩ := let_some E
        have hsH39 : ShM b0 H39 := by rw [eH39]; exact (ShM_wi hsH37)
        exact ea_shO E hsH39
      have E := (if_neg c42).symm.trans E
      obtain ⟨H41, eH41, E⟩ := let_some E
      have hsH41 : ShM b0 H41 := by rw [eH41]; exact (ShM_wi hs)
      exact ih 76 0 0 H41 _ _ E hsH41
    have E := (if_neg el1).symm.trans E
    by_cases el2 : lbl = 126
    · have E := (if_pos el2).symm.trans E
      obtain ⟨z43, E⟩ := gd_some E
      by_cases c58 : (vX12_isDigit ((vX12_see b0 ((ea_i h (b0 + 0) 53) : Int32) h) : Int32) h) = (0 : Int32)
      · have E := (if_pos c58).symm.trans E
        by_cases c49 : (5 : Int32) ≤ ((ea_i h (b0 + 0) 53) - (ea_i h (b0 + 0) 55))
        · have E := (if_pos c49).symm.trans E
          obtain ⟨H46, eH46, E⟩ := let_some E
          have hsH46 : ShM b0 H46 := by rw [eH46]; exact (ShM_wi hs)
          exact ea_shO E hsH46
        have E := (if_neg c49).symm.trans E
        obtain ⟨H48, eH48, E⟩ := let_some E
        have hsH48 : ShM b0 H48 := by rw [eH48]; exact (ShM_wi hs)
        exact ea_shO E hsH48
      have E := (if_neg c58).symm.trans E
      by_cases c57 : ((ea_i h (b0 + 0) 55) + (4 : Int32)) ≤ (ea_i h (b0 + 0) 53)
      · have E := (if_pos c57).symm.trans E
        obtain ⟨H51, eH51, E⟩ := let_some E
        have hsH51 : ShM b0 H51 := by rw [eH51]; exact (ShM_wi hs)
        exact ih 126 0 0 H51 _ _ E hsH51
      have E := (if_neg c57).symm.trans E
      obtain ⟨z52, E⟩ := gd_some E
      obtain ⟨H54, eH54, E⟩ := let_some E
      have hsH54 : ShM b0 H54 := by rw [eH54]; exact (ShM_wi hs)
      obtain ⟨H56, eH56, E⟩ := let_some E
      have hsH56 : ShM b0 H56 := by rw [eH56]; exact (ShM_wi hsH54)
      exact ih 126 0 0 H56 _ _ E hsH56
    have E := (if_neg el2).symm.trans E
    by_cases el3 : lbl = 289
    · have E := (if_pos el3).symm.trans E
      by_cases c63 : sx0 = (0 : Int32)
      · have E := (if_pos c63).symm.trans E
        obtain ⟨H60, eH60, E⟩ := let_some E
        have hsH60 : ShM b0 H60 := by rw [eH60]; exact (ShM_wi hs)
        exact ea_shO E hsH60
      have E := (if_neg c63).symm.trans E
      obtain ⟨H62, eH62, E⟩ := let_some E
      have hsH62 : ShM b0 H62 := by rw [eH62]; exact (ShM_wi hs)
      exact ea_shO E hsH62
    have E := (if_neg el3).symm.trans E
    cases E
theorem shX12_next0 {b0 : Nat} {h : ea_H} (hs : ShM b0 h) : ShM b0 (wX12_next0 b0 h) := by
  unfold wX12_next0
  cases K : qX12_next0 b0 h with
  | none => exact hs
  | some x => obtain ⟨x, y⟩ := x; unfold qX12_next0 at K; exact zX12_next0 _ _ _ _ _ _ _ K hs
noncomputable def vX12_need (b0 : Nat) (x1 : Int32) (h : ea_H) : Int32 := (if (ea_i h (b0 + 0) 54) = x1 then (1 : Int32) else (vX12_bad b0 (1 : Int32) h))
noncomputable def wX12_need (b0 : Nat) (x1 : Int32) (h : ea_H) : ea_H := (if (ea_i h (b0 + 0) 54) = x1 then (wX12_next0 b0 h) else (wX12_bad b0 (1 : Int32) h))
def okX12_need (b0 : Nat) (x1 : Int32) (h : ea_H) : Prop := ((ea_i h (b0 + 0) 54) = x1 → (okX12_next0 b0 h)) ∧ (¬ (ea_i h (b0 + 0) 54) = x1 → True)
theorem bo_vX12_need (b0 : Nat) (x1 : Int32) (h : ea_H) : vX12_need b0 x1 h = 0 ∨ vX12_need b0 x1 h = 1 := (ea_itB (Or.inr rfl) (bo_vX12_bad _ _ _))
theorem shX12_need {b0 : Nat} {x1 : Int32} {h : ea_H} (hs : ShM b0 h) : ShM b0 (wX12_need b0 x1 h) := (ShM_it (shX12_next0 hs) (shX12_bad hs))
theorem sX12_need {d : Nat} {b0 : Nat} {x1 : Int32} {h : ea_H} (hd : 5 ≤ d) (hs : ShM b0 h) (K : okX12_need b0 x1 h) : ea_Met mX12_need d [vR (some (b0 + 0)), vI x1] h (some (vI (vX12_need b0 x1 h))) (wX12_need b0 x1 h) := by
  obtain ⟨X, EX⟩ : ∃ z, z = vX12_need b0 x1 h := ⟨_, rfl⟩
  rw [← EX]
  unfold vX12_need at EX
  obtain ⟨Y, EY⟩ : ∃ z, z = wX12_need b0 x1 h := ⟨_, rfl⟩
  rw [← EY]
  unfold wX12_need at EY
  unfold okX12_need at K
  refine ea_enter rfl (Nat.le_of_ble_eq_true rfl) ?_
  refine ea_aload_n (pc := 0) dX12_need_0 rfl 0 rfl ?_
  refine ea_getI (pc := 1) dX12_need_1 ec_12 (k := 54) (Nat.le_of_ble_eq_true rfl) rfl (Or.inl ew_1399) (hs.1 0 (by decide)).1 (hs.1 0 (by decide)).2.1 ?_
  refine ea_iload_n (pc := 4) dX12_need_4 rfl 1 rfl ?_
  refine ea_icmp_eq (pc := 5) (tgt := 14) dX12_need_5 rfl (fun c5 => ?_) (fun c5 => ?_)
  · have EX := EX.trans (if_pos c5)
    have EY := EY.trans (if_pos c5)
    have K := K.1 c5
    refine ea_aload_n (pc := 14) dX12_need_14 rfl 0 rfl ?_
    have z1 := K
    refine ea_callV (pc := 15) (d' := d - 1) (As := []) (st := []) dX12_need_15 kX12_next0 (sX12_next0 (d := d - 1) (by omega) hs z1) (by omega) rfl (Nat.le_of_ble_eq_true rfl) ew_1822 ew_1824 ew_63 (ci := 12) rfl (by decide) (hs.1 0 (by decide)).1 (hs.1 0 (by decide)).2.1 ?_
    have hs2 : ShM b0 (wX12_next0 b0 h) := shX12_next0 hs
    refine ea_iconst (pc := 18) dX12_need_18 (v := 1) rfl ?_
    exact ea_iretE (pc := 19) dX12_need_19 rfl (ea_bn (Or.inr rfl)) EX EY
  · have EX := EX.trans (if_neg c5)
    have EY := EY.trans (if_neg c5)
    refine ea_aload_n (pc := 8) dX12_need_8 rfl 0 rfl ?_
    refine ea_iconst (pc := 9) dX12_need_9 (v := 1) rfl ?_
    refine ea_callV (pc := 10) (d' := d - 1) (As := [vI 1]) (st := []) dX12_need_10 kX12_bad (sX12_bad (d := d - 1) (by omega) hs) (by omega) rfl (Nat.le_of_ble_eq_true rfl) ew_1914 ew_1916 ew_68 (ci := 12) rfl (by decide) (hs.1 0 (by decide)).1 (hs.1 0 (by decide)).2.1 ?_
    have hs4 : ShM b0 (wX12_bad b0 (1 : Int32) h) := shX12_bad hs
    exact ea_iretE (pc := 13) dX12_need_13 rfl (ea_bn (bo_vX12_bad ..)) EX EY
noncomputable def vX12_aNumber (b0 : Nat) (x1 : Int32) (h : ea_H) : Int32 := (if (ea_i h (b0 + 0) 54) = (2 : Int32) then (if (ea_i h (b0 + 0) 56) ≤ x1 then (1 : Int32) else (vX12_bad b0 (2 : Int32) h)) else (vX12_bad b0 (1 : Int32) h))
noncomputable def wX12_aNumber (b0 : Nat) (x1 : Int32) (h : ea_H) : ea_H := (if (ea_i h (b0 + 0) 54) = (2 : Int32) then (if (ea_i h (b0 + 0) 56) ≤ x1 then (wX12_next0 b0 (ea_wi h (b0 + 0) 61 (ea_i h (b0 + 0) 56))) else (wX12_bad b0 (2 : Int32) h)) else (wX12_bad b0 (1 : Int32) h))
def okX12_aNumber (b0 : Nat) (x1 : Int32) (h : ea_H) : Prop := ((ea_i h (b0 + 0) 54) = (2 : Int32) → ((ea_i h (b0 + 0) 56) ≤ x1 → (okX12_next0 b0 (ea_wi h (b0 + 0) 61 (ea_i h (b0 + 0) 56)))) ∧ (¬ (ea_i h (b0 + 0) 56) ≤ x1 → True)) ∧ (¬ (ea_i h (b0 + 0) 54) = (2 : Int32) → True)
theorem bo_vX12_aNumber (b0 : Nat) (x1 : Int32) (h : ea_H) : vX12_aNumber b0 x1 h = 0 ∨ vX12_aNumber b0 x1 h = 1 := (ea_itB (ea_itB (Or.inr rfl) (bo_vX12_bad _ _ _)) (bo_vX12_bad _ _ _))
theorem shX12_aNumber {b0 : Nat} {x1 : Int32} {h : ea_H} (hs : ShM b0 h) : ShM b0 (wX12_aNumber b0 x1 h) := (ShM_it (ShM_it (shX12_next0 (ShM_wi hs)) (shX12_bad hs)) (shX12_bad hs))
theorem sX12_aNumber {d : Nat} {b0 : Nat} {x1 : Int32} {h : ea_H} (hd : 5 ≤ d) (hs : ShM b0 h) (K : okX12_aNumber b0 x1 h) : ea_Met mX12_aNumber d [vR (some (b0 + 0)), vI x1] h (some (vI (vX12_aNumber b0 x1 h))) (wX12_aNumber b0 x1 h) := by
  obtain ⟨X, EX⟩ : ∃ z, z = vX12_aNumber b0 x1 h := ⟨_, rfl⟩
  rw [← EX]
  unfold vX12_aNumber at EX
  obtain ⟨Y, EY⟩ : ∃ z, z = wX12_aNumber b0 x1 h := ⟨_, rfl⟩
  rw [← EY]
  unfold wX12_aNumber at EY
  unfold okX12_aNumber at K
  refine ea_enter rfl (Nat.le_of_ble_eq_true rfl) ?_
  refine ea_aload_n (pc := 0) dX12_aNumber_0 rfl 0 rfl ?_
  refine ea_getI (pc := 1) dX12_aNumber_1 ec_12 (k := 54) (Nat.le_of_ble_eq_true rfl) rfl (Or.inl ew_1399) (hs.1 0 (by decide)).1 (hs.1 0 (by decide)).2.1 ?_
  refine ea_iconst (pc := 4) dX12_aNumber_4 (v := 2) rfl ?_
  refine ea_icmp_eq (pc := 5) (tgt := 14) dX12_aNumber_5 rfl (fun c9 => ?_) (fun c9 => ?_)
  · have EX := EX.trans (if_pos c9)
    have EY := EY.trans (if_pos c9)
    have K := K.1 c9
    refine ea_aload_n (pc := 14) dX12_aNumber_14 rfl 0 rfl ?_
    refine ea_getI (pc := 15) dX12_aNumber_15 ec_12 (k := 56) (Nat.le_of_ble_eq_true rfl) rfl (Or.inl ew_1401) (hs.1 0 (by decide)).1 (hs.1 0 (by decide)).2.1 ?_
    refine ea_iload_n (pc := 18) dX12_aNumber_18 rfl 1 rfl ?_
    refine ea_icmp_le (pc := 19) (tgt := 28) dX12_aNumber_19 rfl (fun c6 => ?_) (fun c6 => ?_)
    · have EX := EX.trans (if_pos c6)
      have EY := EY.trans (if_pos c6)
      have K := K.1 c6
      refine ea_aload_n (pc := 28) dX12_aNumber_28 rfl 0 rfl ?_
      refine ea_aload_n (pc := 29) dX12_aNumber_29 rfl 0 rfl ?_
      refine ea_getI (pc := 30) dX12_aNumber_30 ec_12 (k := 56) (Nat.le_of_ble_eq_true rfl) rfl (Or.inl ew_1401) (hs.1 0 (by decide)).1 (hs.1 0 (by decide)).2.1 ?_
      refine ea_putI (pc := 33) dX12_aNumber_33 ec_12 (k := 61) (Nat.le_of_ble_eq_true rfl) rfl (Or.inl ⟨rfl, Or.inl ew_1406⟩) rfl rfl (hs.1 0 (by decide)).1 (hs.1 0 (by decide)).2.1 ?_
      have hs1 : ShM b0 (ea_wi h (b0 + 0) 61 (ea_i h (b0 + 0) 56)) := ShM_wi hs
      refine ea_aload_n (pc := 36) dX12_aNumber_36 rfl 0 rfl ?_
      have z2 := K
      refine ea_callV (pc := 37) (d' := d - 1) (As := []) (st := []) dX12_aNumber_37 kX12_next0 (sX12_next0 (d := d - 1) (by omega) hs1 z2) (by omega) rfl (Nat.le_of_ble_eq_true rfl) ew_1822 ew_1824 ew_63 (ci := 12) rfl (by decide) (hs1.1 0 (by decide)).1 (hs1.1 0 (by decide)).2.1 ?_
      have hs3 : ShM b0 (wX12_next0 b0 (ea_wi h (b0 + 0) 61 (ea_i h (b0 + 0) 56))) := shX12_next0 hs1
      refine ea_iconst (pc := 40) dX12_aNumber_40 (v := 1) rfl ?_
      exact ea_iretE (pc := 41) dX12_aNumber_41 rfl (ea_bn (Or.inr rfl)) EX EY
    · have EX := EX.trans (if_neg c6)
      have EY := EY.trans (if_neg c6)
      refine ea_aload_n (pc := 22) dX12_aNumber_22 rfl 0 rfl ?_
      refine ea_iconst (pc := 23) dX12_aNumber_23 (v := 2) rfl ?_
      refine ea_callV (pc := 24) (d' := d - 1) (As := [vI 2]) (st := []) dX12_aNumber_24 kX12_bad (sX12_bad (d := d - 1) (by omega) hs) (by omega) rfl (Nat.le_of_ble_eq_true rfl) ew_1914 ew_1916 ew_68 (ci := 12) rfl (by decide) (hs.1 0 (by decide)).1 (hs.1 0 (by decide)).2.1 ?_
      have hs5 : ShM b0 (wX12_bad b0 (2 : Int32) h) := shX12_bad hs
      exact ea_iretE (pc := 27) dX12_aNumber_27 rfl (ea_bn (bo_vX12_bad ..)) EX EY
  · have EX := EX.trans (if_neg c9)
    have EY := EY.trans (if_neg c9)
    refine ea_aload_n (pc := 8) dX12_aNumber_8 rfl 0 rfl ?_
    refine ea_iconst (pc := 9) dX12_aNumber_9 (v := 1) rfl ?_
    refine ea_callV (pc := 10) (d' := d - 1) (As := [vI 1]) (st := []) dX12_aNumber_10 kX12_bad (sX12_bad (d := d - 1) (by omega) hs) (by omega) rfl (Nat.le_of_ble_eq_true rfl) ew_1914 ew_1916 ew_68 (ci := 12) rfl (by decide) (hs.1 0 (by decide)).1 (hs.1 0 (by decide)).2.1 ?_
    have hs8 : ShM b0 (wX12_bad b0 (1 : Int32) h) := shX12_bad hs
    exact ea_iretE (pc := 13) dX12_aNumber_13 rfl (ea_bn (bo_vX12_bad ..)) EX EY
noncomputable def vX12_opens (b0 : Nat) (h : ea_H) : Int32 := (if (ea_i h (b0 + 0) 60) = (8 : Int32) then (vX12_bad b0 (3 : Int32) h) else (1 : Int32))
noncomputable def wX12_opens (b0 : Nat) (h : ea_H) : ea_H := (if (ea_i h (b0 + 0) 60) = (8 : Int32) then (wX12_bad b0 (3 : Int32) h) else (wX12_next0 b0 (ea_wi h (b0 + 0) 60 ((ea_i h (b0 + 0) 60) + (1 : Int32)))))
def okX12_opens (b0 : Nat) (h : ea_H) : Prop := ((ea_i h (b0 + 0) 60) = (8 : Int32) → True) ∧ (¬ (ea_i h (b0 + 0) 60) = (8 : Int32) → (okX12_next0 b0 (ea_wi h (b0 + 0) 60 ((ea_i h (b0 + 0) 60) + (1 : Int32)))))
theorem bo_vX12_opens (b0 : Nat) (h : ea_H) : vX12_opens b0 h = 0 ∨ vX12_opens b0 h = 1 := (ea_itB (bo_vX12_bad _ _ _) (Or.inr rfl))
theorem shX12_opens {b0 : Nat} {h : ea_H} (hs : ShM b0 h) : ShM b0 (wX12_opens b0 h) := (ShM_it (shX12_bad hs) (shX12_next0 (ShM_wi hs)))
theorem sX12_opens {d : Nat} {b0 : Nat} {h : ea_H} (hd : 5 ≤ d) (hs : ShM b0 h) (K : okX12_opens b0 h) : ea_Met mX12_opens d [vR (some (b0 + 0))] h (some (vI (vX12_opens b0 h))) (wX12_opens b0 h) := by
  obtain ⟨X, EX⟩ : ∃ z, z = vX12_opens b0 h := ⟨_, rfl⟩
  rw [← EX]
  unfold vX12_opens at EX
  obtain ⟨Y, EY⟩ : ∃ z, z = wX12_opens b0 h := ⟨_, rfl⟩
  rw [← EY]
  unfold wX12_opens at EY
  unfold okX12_opens at K
  refine ea_enter rfl (Nat.le_of_ble_eq_true rfl) ?_
  refine ea_aload_n (pc := 0) dX12_opens_0 rfl 0 rfl ?_
  refine ea_getI (pc := 1) dX12_opens_1 ec_12 (k := 60) (Nat.le_of_ble_eq_true rfl) rfl (Or.inl ew_1405) (hs.1 0 (by decide)).1 (hs.1 0 (by decide)).2.1 ?_
  refine ea_bipush (pc := 4) dX12_opens_4 (v := 8) rfl ?_
  refine ea_icmp_ne (pc := 6) (tgt := 15) dX12_opens_6 rfl (fun c6 => ?_) (fun c6 => ?_)
  · have EX := EX.trans (if_neg c6)
    have EY := EY.trans (if_neg c6)
    have K := K.2 c6
    refine ea_aload_n (pc := 15) dX12_opens_15 rfl 0 rfl ?_
    refine ea_dup (pc := 16) dX12_opens_16 rfl ?_
    refine ea_getI (pc := 17) dX12_opens_17 ec_12 (k := 60) (Nat.le_of_ble_eq_true rfl) rfl (Or.inl ew_1405) (hs.1 0 (by decide)).1 (hs.1 0 (by decide)).2.1 ?_
    refine ea_iconst (pc := 20) dX12_opens_20 (v := 1) rfl ?_
    refine ea_iadd (pc := 21) dX12_opens_21 ?_
    refine ea_putI (pc := 22) dX12_opens_22 ec_12 (k := 60) (Nat.le_of_ble_eq_true rfl) rfl (Or.inl ⟨rfl, Or.inl ew_1405⟩) rfl rfl (hs.1 0 (by decide)).1 (hs.1 0 (by decide)).2.1 ?_
    have hs1 : ShM b0 (ea_wi h (b0 + 0) 60 ((ea_i h (b0 + 0) 60) + (1 : Int32))) := ShM_wi hs
    refine ea_aload_n (pc := 25) dX12_opens_25 rfl 0 rfl ?_
    have z2 := K
    refine ea_callV (pc := 26) (d' := d - 1) (As := []) (st := []) dX12_opens_26 kX12_next0 (sX12_next0 (d := d - 1) (by omega) hs1 z2) (by omega) rfl (Nat.le_of_ble_eq_true rfl) ew_1822 ew_1824 ew_63 (ci := 12) rfl (by decide) (hs1.1 0 (by decide)).1 (hs1.1 0 (by decide)).2.1 ?_
    have hs3 : ShM b0 (wX12_next0 b0 (ea_wi h (b0 + 0) 60 ((ea_i h (b0 + 0) 60) + (1 : Int32)))) := shX12_next0 hs1
    refine ea_iconst (pc := 29) dX12_opens_29 (v := 1) rfl ?_
    exact ea_iretE (pc := 30) dX12_opens_30 rfl (ea_bn (Or.inr rfl)) EX EY
  · have EX := EX.trans (if_pos c6)
    have EY := EY.trans (if_pos c6)
    refine ea_aload_n (pc := 9) dX12_opens_9 rfl 0 rfl ?_
    refine ea_iconst (pc := 10) dX12_opens_10 (v := 3) rfl ?_
    refine ea_callV (pc := 11) (d' := d - 1) (As := [vI 3]) (st := []) dX12_opens_11 kX12_bad (sX12_bad (d := d - 1) (by omega) hs) (by omega) rfl (Nat.le_of_ble_eq_true rfl) ew_1914 ew_1916 ew_68 (ci := 12) rfl (by decide) (hs.1 0 (by decide)).1 (hs.1 0 (by decide)).2.1 ?_
    have hs5 : ShM b0 (wX12_bad b0 (3 : Int32) h) := shX12_bad hs
    exact ea_iretE (pc := 14) dX12_opens_14 rfl (ea_bn (bo_vX12_bad ..)) EX EY
noncomputable def gX12_actOn (b0 : Nat) : Nat → Nat → Int32 → Int32 → ea_H → Option (Int32 × ea_H)
  | 0, _, _, _, _ => none
  | f + 1, lbl, x1, x2, h =>
    if lbl = 0 then (gX12_actOn b0 f 7 (x1 : Int32) (((ea_i h (b0 + 0) 25) - (1 : Int32)) : Int32) h) else
    if lbl = 7 then (if x2 < (0 : Int32) then (some (x2, h)) else (gd (vp_in x2 6) (if (ea_i h (b0 + 21) (Int32.toNatClampNeg x2)) ≤ x1 then (some (x2, h)) else (gX12_actOn b0 f 7 (x1 : Int32) ((x2 + ((-1) : Int32)) : Int32) h)))) else none
theorem tX12_actOn {d : Nat} {b0 : Nat} {h0 : ea_H} (hd : 1 ≤ d) : ∀ (f lbl : Nat) (x1 : Int32) (x2 : Int32) (h : ea_H) (r : Int32) (h' : ea_H), gX12_actOn b0 f lbl x1 x2 h = some (r, h') → ShM b0 h → (lbl = 0 → ea_W mX12_actOn d h0 (some (vI r)) h' 0 [(0, vR (some (b0 + 0))), (1, vI x1)] [] h) ∧ (lbl = 7 → ea_W mX12_actOn d h0 (some (vI r)) h' 7 [(0, vR (some (b0 + 0))), (1, vI x1), (2, vI x2)] [] h) := by
  intro f
  induction f with
  | zero => intro lbl x1 x2 h r h' E; cases E
  | succ f ih =>
    intro lbl x1 x2 h r h' E hs
    unfold gX12_actOn at E
    refine ⟨?_, ?_⟩
    · intro el
      subst el
      have E := (if_pos rfl).symm.trans E
      refine ea_aload_n (pc := 0) dX12_actOn_0 rfl 0 rfl ?_
      refine ea_getI (pc := 1) dX12_actOn_1 ec_12 (k := 25) (Nat.le_of_ble_eq_true rfl) rfl (Or.inl ew_1370) (hs.1 0 (by decide)).1 (hs.1 0 (by decide)).2.1 ?_
      refine ea_iconst (pc := 4) dX12_actOn_4 (v := 1) rfl ?_
      refine ea_isub (pc := 5) dX12_actOn_5 ?_
      refine ea_istore_n (pc := 6) (lv' := [(0, vR (some (b0 + 0))), (1, vI x1), (2, vI ((ea_i h (b0 + 0) 25) - (1 : Int32)))]) dX12_actOn_6 rfl (Nat.le_of_ble_eq_true rfl) [1, 2, 0] rfl ?_
      exact ((ih 7 (x1 : Int32) (((ea_i h (b0 + 0) 25) - (1 : Int32)) : Int32) h _ _ E hs).2 rfl)
    intro el
    subst el
    have E := (if_neg (by decide)).symm.trans E
    have E := (if_pos rfl).symm.trans E
    refine ea_iload_n (pc := 7) dX12_actOn_7 rfl 2 rfl ?_
    refine ea_if_lt (pc := 8) (tgt := 27) dX12_actOn_8 rfl (fun c3 => ?_) (fun c3 => ?_)
    · have E := (if_pos c3).symm.trans E
      refine ea_iload_n (pc := 27) dX12_actOn_27 rfl 2 rfl ?_
      exact ea_iretO (pc := 28) dX12_actOn_28 rfl rfl E
    · have E := (if_neg c3).symm.trans E
      refine ea_aload_n (pc := 11) dX12_actOn_11 rfl 0 rfl ?_
      refine ea_getR (pc := 12) dX12_actOn_12 ec_12 (k := 26) (Nat.le_of_ble_eq_true rfl) rfl (Or.inl ew_1371) (hs.1 0 (by decide)).1 (hs.1 0 (by decide)).2.1 (hs.2 0 26 rfl) ?_
      refine ea_iload_n (pc := 15) dX12_actOn_15 rfl 2 rfl ?_
      obtain ⟨z1, E⟩ := gd_some E
      refine ea_iald (pc := 16) dX12_actOn_16 (hs.1 21 (by decide)).1 (hs.1 21 (by decide)).2.1 (ea_vpl (hs.1 21 (by decide)).2.2 z1) ?_
      refine ea_iload_n (pc := 17) dX12_actOn_17 rfl 1 rfl ?_
      refine ea_icmp_le (pc := 18) (tgt := 27) dX12_actOn_18 rfl (fun c2 => ?_) (fun c2 => ?_)
      · have E := (if_pos c2).symm.trans E
        refine ea_iload_n (pc := 27) dX12_actOn_27 rfl 2 rfl ?_
        exact ea_iretO (pc := 28) dX12_actOn_28 rfl rfl E
      · have E := (if_neg c2).symm.trans E
        refine ea_iinc (pc := 21) (v := (-1)) (lv' := [(0, vR (some (b0 + 0))), (1, vI x1), (2, vI (x2 + ((-1) : Int32)))]) dX12_actOn_21 2 rfl rfl (Nat.le_of_ble_eq_true rfl) [1, 2, 0] rfl ?_
        refine ea_goto (pc := 24) (tgt := 7) dX12_actOn_24 rfl ?_
        exact ((ih 7 (x1 : Int32) ((x2 + ((-1) : Int32)) : Int32) h _ _ E hs).2 rfl)
noncomputable def qX12_actOn (b0 : Nat) (x1 : Int32) (h : ea_H) : Option (Int32 × ea_H) := gX12_actOn b0 1000000000 0 x1 0 h
def okX12_actOn (b0 : Nat) (x1 : Int32) (h : ea_H) : Prop := ∃ x, qX12_actOn b0 x1 h = some x
noncomputable def vX12_actOn (b0 : Nat) (x1 : Int32) (h : ea_H) : Int32 := ((qX12_actOn b0 x1 h).getD (0, h)).1
noncomputable def wX12_actOn (b0 : Nat) (x1 : Int32) (h : ea_H) : ea_H := ((qX12_actOn b0 x1 h).getD (0, h)).2
theorem sX12_actOn {d : Nat} {b0 : Nat} {x1 : Int32} {h : ea_H} (hd : 1 ≤ d) (hs : ShM b0 h) (K : okX12_actOn b0 x1 h) : ea_Met mX12_actOn d [vR (some (b0 + 0)), vI x1] h (some (vI (vX12_actOn b0 x1 h))) (wX12_actOn b0 x1 h) := by
  obtain ⟨⟨x, y⟩, K⟩ := K
  unfold wX12_actOn vX12_actOn
  rw [K]
  unfold qX12_actOn at K
  exact ea_enter rfl (Nat.le_of_ble_eq_true rfl) ((tX12_actOn hd 1000000000 0 x1 0 h x y K hs).1 rfl)
theorem zX12_actOn {b0 : Nat} : ∀ (f lbl : Nat) (x1 : Int32) (x2 : Int32) (h : ea_H) (r : Int32) (h' : ea_H), gX12_actOn b0 f lbl x1 x2 h = some (r, h') → ShM b0 h → ShM b0 h' := by
  intro f
  induction f with
  | zero => intro lbl x1 x2 h r h' E; cases E
  | succ f ih =>
    intro lbl x1 x2 h r h' E hs
    unfold gX12_actOn at E
    by_cases el0 : lbl = 0
    · have E := (if_pos el0).symm.trans E
      exact ih 7 (x1 : Int32) (((ea_i h (b0 + 0) 25) - (1 : Int32)) : Int32) h _ _ E hs
    have E := (if_neg el0).symm.trans E
    by_cases el1 : lbl = 7
    · have E := (if_pos el1).symm.trans E
      by_cases c3 : x2 < (0 : Int32)
      · have E := (if_pos c3).symm.trans E
        exact ea_shO E hs
      have E := (if_neg c3).symm.trans E
      obtain ⟨z1, E⟩ := gd_some E
      by_cases c2 : (ea_i h (b0 + 21) (Int32.toNatClampNeg x2)) ≤ x1
      · have E := (if_pos c2).symm.trans E
        exact ea_shO E hs
      have E := (if_neg c2).symm.trans E
      exact ih 7 (x1 : Int32) ((x2 + ((-1) : Int32)) : Int32) h _ _ E hs
    have E := (if_neg el1).symm.trans E
    cases E
theorem shX12_actOn {b0 : Nat} {x1 : Int32} {h : ea_H} (hs : ShM b0 h) : ShM b0 (wX12_actOn b0 x1 h) := by
  unfold wX12_actOn
  cases K : qX12_actOn b0 x1 h with
  | none => exact hs
  | some x => obtain ⟨x, y⟩ := x; unfold qX12_actOn at K; exact zX12_actOn _ _ _ _ _ _ _ K hs
noncomputable def vX12_inForce (b0 : Nat) (x1 : Int32) (x2 : Int32) (h : ea_H) : Int32 := (if (vX12_isDay (x1 : Int32) h) = (0 : Int32) then (if ((-1) : Int32) = ((-1) : Int32) then ((-1) : Int32) else (if Int32.toInt x2 = 0 then ((-1) : Int32) else (if Int32.toInt x2 = 1 then (ea_i h (b0 + 22) (Int32.toNatClampNeg (-1))) else (if Int32.toInt x2 = 2 then (ea_i h (b0 + 23) (Int32.toNatClampNeg (-1))) else (if Int32.toInt x2 = 3 then (ea_i h (b0 + 24) (Int32.toNatClampNeg (-1))) else (if Int32.toInt x2 = 4 then (ea_i h (b0 + 25) (Int32.toNatClampNeg (-1))) else (if Int32.toInt x2 = 5 then (ea_i h (b0 + 26) (Int32.toNatClampNeg (-1))) else (if Int32.toInt x2 = 6 then (ea_i h (b0 + 27) (Int32.toNatClampNeg (-1))) else (if Int32.toInt x2 = 7 then (ea_i h (b0 + 28) (Int32.toNatClampNeg (-1))) else ((-1) : Int32)))))))))) else (if (vX12_actOn b0 (x1 : Int32) h) = ((-1) : Int32) then ((-1) : Int32) else (if Int32.toInt x2 = 0 then (vX12_actOn b0 (x1 : Int32) h) else (if Int32.toInt x2 = 1 then (ea_i (wX12_actOn b0 (x1 : Int32) h) (b0 + 22) (Int32.toNatClampNeg (vX12_actOn b0 (x1 : Int32) h))) else (if Int32.toInt x2 = 2 then (ea_i (wX12_actOn b0 (x1 : Int32) h) (b0 + 23) (Int32.toNatClampNeg (vX12_actOn b0 (x1 : Int32) h))) else (if Int32.toInt x2 = 3 then (ea_i (wX12_actOn b0 (x1 : Int32) h) (b0 + 24) (Int32.toNatClampNeg (vX12_actOn b0 (x1 : Int32) h))) else (if Int32.toInt x2 = 4 then (ea_i (wX12_actOn b0 (x1 : Int32) h) (b0 + 25) (Int32.toNatClampNeg (vX12_actOn b0 (x1 : Int32) h))) else (if Int32.toInt x2 = 5 then (ea_i (wX12_actOn b0 (x1 : Int32) h) (b0 + 26) (Int32.toNatClampNeg (vX12_actOn b0 (x1 : Int32) h))) else (if Int32.toInt x2 = 6 then (ea_i (wX12_actOn b0 (x1 : Int32) h) (b0 + 27) (Int32.toNatClampNeg (vX12_actOn b0 (x1 : Int32) h))) else (if Int32.toInt x2 = 7 then (ea_i (wX12_actOn b0 (x1 : Int32) h) (b0 + 28) (Int32.toNatClampNeg (vX12_actOn b0 (x1 : Int32) h))) else ((-1) : Int32)))))))))))
noncomputable def wX12_inForce (b0 : Nat) (x1 : Int32) (x2 : Int32) (h : ea_H) : ea_H := (if (vX12_isDay (x1 : Int32) h) = (0 : Int32) then h else (wX12_actOn b0 (x1 : Int32) h))
def okX12_inForce (b0 : Nat) (x1 : Int32) (x2 : Int32) (h : ea_H) : Prop := ((vX12_isDay (x1 : Int32) h) = (0 : Int32) → (((-1) : Int32) = ((-1) : Int32) → True) ∧ (¬ ((-1) : Int32) = ((-1) : Int32) → (Int32.toInt x2 = 0 → True) ∧ (¬ Int32.toInt x2 = 0 → (Int32.toInt x2 = 1 → vp_in (-1) 6) ∧ (¬ Int32.toInt x2 = 1 → (Int32.toInt x2 = 2 → vp_in (-1) 6) ∧ (¬ Int32.toInt x2 = 2 → (Int32.toInt x2 = 3 → vp_in (-1) 6) ∧ (¬ Int32.toInt x2 = 3 → (Int32.toInt x2 = 4 → vp_in (-1) 6) ∧ (¬ Int32.toInt x2 = 4 → (Int32.toInt x2 = 5 → vp_in (-1) 6) ∧ (¬ Int32.toInt x2 = 5 → (Int32.toInt x2 = 6 → vp_in (-1) 6) ∧ (¬ Int32.toInt x2 = 6 → (Int32.toInt x2 = 7 → vp_in (-1) 6) ∧ (¬ Int32.toInt x2 = 7 → True)))))))))) ∧ (¬ (vX12_isDay (x1 : Int32) h) = (0 : Int32) → (okX12_actOn b0 (x1 : Int32) h) ∧ (((vX12_actOn b0 (x1 : Int32) h) = ((-1) : Int32) → True) ∧ (¬ (vX12_actOn b0 (x1 : Int32) h) = ((-1) : Int32) → (Int32.toInt x2 = 0 → True) ∧ (¬ Int32.toInt x2 = 0 → (Int32.toInt x2 = 1 → vp_in (vX12_actOn b0 (x1 : Int32) h) 6) ∧ (¬ Int32.toInt x2 = 1 → (Int32.toInt x2 = 2 → vp_in (vX12_actOn b0 (x1 : Int32) h) 6) ∧ (¬ Int32.toInt x2 = 2 → (Int32.toInt x2 = 3 → vp_in (vX12_actOn b0 (x1 : Int32) h) 6) ∧ (¬ Int32.toInt x2 = 3 → (Int32.toInt x2 = 4 → vp_in (vX12_actOn b0 (x1 : Int32) h) 6) ∧ (¬ Int32.toInt x2 = 4 → (Int32.toInt x2 = 5 → vp_in (vX12_actOn b0 (x1 : Int32) h) 6) ∧ (¬ Int32.toInt x2 = 5 → (Int32.toInt x2 = 6 → vp_in (vX12_actOn b0 (x1 : Int32) h) 6) ∧ (¬ Int32.toInt x2 = 6 → (Int32.toInt x2 = 7 → vp_in (vX12_actOn b0 (x1 : Int32) h) 6) ∧ (¬ Int32.toInt x2 = 7 → True)))))))))))
theorem shX12_inForce {b0 : Nat} {x1 : Int32} {x2 : Int32} {h : ea_H} (hs : ShM b0 h) : ShM b0 (wX12_inForce b0 x1 x2 h) := (ShM_it hs (shX12_actOn hs))
theorem sX12_inForce {d : Nat} {b0 : Nat} {x1 : Int32} {x2 : Int32} {h : ea_H} (hd : 3 ≤ d) (hs : ShM b0 h) (K : okX12_inForce b0 x1 x2 h) : ea_Met mX12_inForce d [vR (some (b0 + 0)), vI x1, vI x2] h (some (vI (vX12_inForce b0 x1 x2 h))) (wX12_inForce b0 x1 x2 h) := by
  obtain ⟨X, EX⟩ : ∃ z, z = vX12_inForce b0 x1 x2 h := ⟨_, rfl⟩
  rw [← EX]
  unfold vX12_inForce at EX
  obtain ⟨Y, EY⟩ : ∃ z, z = wX12_inForce b0 x1 x2 h := ⟨_, rfl⟩
  rw [← EY]
  unfold wX12_inForce at EY
  unfold okX12_inForce at K
  refine ea_enter rfl (Nat.le_of_ble_eq_true rfl) ?_
  refine ea_iload_n (pc := 0) dX12_inForce_0 rfl 1 rfl ?_
  refine ea_callS (pc := 1) (d' := d - 1) (As := [vI x1]) (st := []) dX12_inForce_1 kX12_isDay (sX12_isDay (d := d - 1) (by omega)) (by omega) rfl (Nat.le_of_ble_eq_true rfl) ew_1752 ew_1753 ?_
  refine ea_if_eq (pc := 4) (tgt := 15) dX12_inForce_4 rfl (fun c20 => ?_) (fun c20 => ?_)
  · have EX := EX.trans (if_pos c20)
    have EY := EY.trans (if_pos c20)
    have K := K.1 c20
    refine ea_iconst (pc := 15) dX12_inForce_15 (v := (-1)) rfl ?_
    refine ea_istore_n (pc := 16) (lv' := [(0, vR (some (b0 + 0))), (2, vI x2), (3, vI (-1))]) dX12_inForce_16 rfl (Nat.le_of_ble_eq_true rfl) [1, 3, 0] rfl ?_
    refine ea_iload_n (pc := 17) dX12_inForce_17 rfl 2 rfl ?_
    refine ea_iconst (pc := 18) dX12_inForce_18 (v := (-1)) rfl ?_
    refine ea_icmp_ne (pc := 19) (tgt := 24) dX12_inForce_19 rfl (fun c9 => ?_) (fun c9 => ?_)
    · have EX := EX.trans (if_neg c9)
      have K := K.2 c9
      refine ea_iload_n (pc := 24) dX12_inForce_24 rfl 1 rfl ?_
      by_cases qc25_0 : Int32.toInt x2 = 0
      · have EX := EX.trans (if_pos qc25_0)
        have K := K.1 qc25_0
        refine ea_tswIn (pc := 25) (tgt := 72) dX12_inForce_25 (by rw [qc25_0]; decide) (by rw [qc25_0]; decide) (by rw [qc25_0]; rfl) rfl ?_
        refine ea_iload_n (pc := 72) dX12_inForce_72 rfl 2 rfl ?_
        exact ea_iretE (pc := 73) dX12_inForce_73 rfl rfl EX EY
      have EX := EX.trans (if_neg qc25_0)
      have K := K.2 qc25_0
      by_cases qc25_1 : Int32.toInt x2 = 1
      · have EX := EX.trans (if_pos qc25_1)
        have K := K.1 qc25_1
        refine ea_tswIn (pc := 25) (tgt := 74) dX12_inForce_25 (by rw [qc25_1]; decide) (by rw [qc25_1]; decide) (by rw [qc25_1]; rfl) rfl ?_
        refine ea_aload_n (pc := 74) dX12_inForce_74 rfl 0 rfl ?_
        refine ea_getR (pc := 75) dX12_inForce_75 ec_12 (k := 27) (Nat.le_of_ble_eq_true rfl) rfl (Or.inl ew_1372) (hs.1 0 (by decide)).1 (hs.1 0 (by decide)).2.1 (hs.2 0 27 rfl) ?_
        refine ea_iload_n (pc := 78) dX12_inForce_78 rfl 2 rfl ?_
        have z2 := K
        refine ea_iald (pc := 79) dX12_inForce_79 (hs.1 22 (by decide)).1 (hs.1 22 (by decide)).2.1 (ea_vpl (hs.1 22 (by decide)).2.2 z2) ?_
        exact ea_iretE (pc := 80) dX12_inForce_80 rfl rfl EX EY
      have EX := EX.trans (if_neg qc25_1)
      have K := K.2 qc25_1
      by_cases qc25_2 : Int32.toInt x2 = 2
      · have EX := EX.trans (if_pos qc25_2)
        have K := K.1 qc25_2
        refine ea_tswIn (pc := 25) (tgt := 81) dX12_inForce_25 (by rw [qc25_2]; decide) (by rw [qc25_2]; decide) (by rw [qc25_2]; rfl) rfl ?_
        refine ea_aload_n (pc := 81) dX12_inForce_81 rfl 0 rfl ?_
        refine ea_getR (pc := 82) dX12_inForce_82 ec_12 (k := 28) (Nat.le_of_ble_eq_true rfl) rfl (Or.inl ew_1373) (hs.1 0 (by decide)).1 (hs.1 0 (by decide)).2.1 (hs.2 0 28 rfl) ?_
        refine ea_iload_n (pc := 85) dX12_inForce_85 rfl 2 rfl ?_
        have z3 := K
        refine ea_iald (pc := 86) dX12_inForce_86 (hs.1 23 (by decide)).1 (hs.1 23 (by decide)).2.1 (ea_vpl (hs.1 23 (by decide)).2.2 z3) ?_
        exact ea_iretE (pc := 87) dX12_inForce_87 rfl rfl EX EY
      have EX := EX.trans (if_neg qc25_2)
      have K := K.2 qc25_2
      by_cases qc25_3 : Int32.toInt x2 = 3
      · have EX := EX.trans (if_pos qc25_3)
        have K := K.1 qc25_3
        refine ea_tswIn (pc := 25) (tgt := 88) dX12_inForce_25 (by rw [qc25_3]; decide) (by rw [qc25_3]; decide) (by rw [qc25_3]; rfl) rfl ?_
        refine ea_aload_n (pc := 88) dX12_inForce_88 rfl 0 rfl ?_
        refine ea_getR (pc := 89) dX12_inForce_89 ec_12 (k := 29) (Nat.le_of_ble_eq_true rfl) rfl (Or.inl ew_1374) (hs.1 0 (by decide)).1 (hs.1 0 (by decide)).2.1 (hs.2 0 29 rfl) ?_
        refine ea_iload_n (pc := 92) dX12_inForce_92 rfl 2 rfl ?_
        have z4 := K
        refine ea_iald (pc := 93) dX12_inForce_93 (hs.1 24 (by decide)).1 (hs.1 24 (by decide)).2.1 (ea_vpl (hs.1 24 (by decide)).2.2 z4) ?_
        exact ea_iretE (pc := 94) dX12_inForce_94 rfl rfl EX EY
      have EX := EX.trans (if_neg qc25_3)
      have K := K.2 qc25_3
      by_cases qc25_4 : Int32.toInt x2 = 4
      · have EX := EX.trans (if_pos qc25_4)
        have K := K.1 qc25_4
        refine ea_tswIn (pc := 25) (tgt := 95) dX12_inForce_25 (by rw [qc25_4]; decide) (by rw [qc25_4]; decide) (by rw [qc25_4]; rfl) rfl ?_
        refine ea_aload_n (pc := 95) dX12_inForce_95 rfl 0 rfl ?_
        refine ea_getR (pc := 96) dX12_inForce_96 ec_12 (k := 30) (Nat.le_of_ble_eq_true rfl) rfl (Or.inl ew_1375) (hs.1 0 (by decide)).1 (hs.1 0 (by decide)).2.1 (hs.2 0 30 rfl) ?_
        refine ea_iload_n (pc := 99) dX12_inForce_99 rfl 2 rfl ?_
        have z5 := K
        refine ea_iald (pc := 100) dX12_inForce_100 (hs.1 25 (by decide)).1 (hs.1 25 (by decide)).2.1 (ea_vpl (hs.1 25 (by decide)).2.2 z5) ?_
        exact ea_iretE (pc := 101) dX12_inForce_101 rfl rfl EX EY
      have EX := EX.trans (if_neg qc25_4)
      have K := K.2 qc25_4
      by_cases qc25_5 : Int32.toInt x2 = 5
      · have EX := EX.trans (if_pos qc25_5)
        have K := K.1 qc25_5
        refine ea_tswIn (pc := 25) (tgt := 102) dX12_inForce_25 (by rw [qc25_5]; decide) (by rw [qc25_5]; decide) (by rw [qc25_5]; rfl) rfl ?_
        refine ea_aload_n (pc := 102) dX12_inForce_102 rfl 0 rfl ?_
        refine ea_getR (pc := 103) dX12_inForce_103 ec_12 (k := 31) (Nat.le_of_ble_eq_true rfl) rfl (Or.inl ew_1376) (hs.1 0 (by decide)).1 (hs.1 0 (by decide)).2.1 (hs.2 0 31 rfl) ?_
        refine ea_iload_n (pc := 106) dX12_inForce_106 rfl 2 rfl ?_
        have z6 := K
        refine ea_iald (pc := 107) dX12_inForce_107 (hs.1 26 (by decide)).1 (hs.1 26 (by decide)).2.1 (ea_vpl (hs.1 26 (by decide)).2.2 z6) ?_
        exact ea_iretE (pc := 108) dX12_inForce_108 rfl rfl EX EY
      have EX := EX.trans (if_neg qc25_5)
      have K := K.2 qc25_5
      by_cases qc25_6 : Int32.toInt x2 = 6
      · have EX := EX.trans (if_pos qc25_6)
        have K := K.1 qc25_6
        refine ea_tswIn (pc := 25) (tgt := 109) dX12_inForce_25 (by rw [qc25_6]; decide) (by rw [qc25_6]; decide) (by rw [qc25_6]; rfl) rfl ?_
        refine ea_aload_n (pc := 109) dX12_inForce_109 rfl 0 rfl ?_
        refine ea_getR (pc := 110) dX12_inForce_110 ec_12 (k := 32) (Nat.le_of_ble_eq_true rfl) rfl (Or.inl ew_1377) (hs.1 0 (by decide)).1 (hs.1 0 (by decide)).2.1 (hs.2 0 32 rfl) ?_
        refine ea_iload_n (pc := 113) dX12_inForce_113 rfl 2 rfl ?_
        have z7 := K
        refine ea_iald (pc := 114) dX12_inForce_114 (hs.1 27 (by decide)).1 (hs.1 27 (by decide)).2.1 (ea_vpl (hs.1 27 (by decide)).2.2 z7) ?_
        exact ea_iretE (pc := 115) dX12_inForce_115 rfl rfl EX EY
      have EX := EX.trans (if_neg qc25_6)
      have K := K.2 qc25_6
      by_cases qc25_7 : Int32.toInt x2 = 7
      · have EX := EX.trans (if_pos qc25_7)
        have K := K.1 qc25_7
        refine ea_tswIn (pc := 25) (tgt := 116) dX12_inForce_25 (by rw [qc25_7]; decide) (by rw [qc25_7]; decide) (by rw [qc25_7]; rfl) rfl ?_
        refine ea_aload_n (pc := 116) dX12_inForce_116 rfl 0 rfl ?_
        refine ea_getR (pc := 117) dX12_inForce_117 ec_12 (k := 33) (Nat.le_of_ble_eq_true rfl) rfl (Or.inl ew_1378) (hs.1 0 (by decide)).1 (hs.1 0 (by decide)).2.1 (hs.2 0 33 rfl) ?_
        refine ea_iload_n (pc := 120) dX12_inForce_120 rfl 2 rfl ?_
        have z8 := K
        refine ea_iald (pc := 121) dX12_inForce_121 (hs.1 28 (by decide)).1 (hs.1 28 (by decide)).2.1 (ea_vpl (hs.1 28 (by decide)).2.2 z8) ?_
        exact ea_iretE (pc := 122) dX12_inForce_122 rfl rfl EX EY
      have EX := EX.trans (if_neg qc25_7)
      have K := K.2 qc25_7
      refine ea_tswOut (pc := 25) (tgt := 123) dX12_inForce_25 (ea_sw_0_7 qc25_0 qc25_1 qc25_2 qc25_3 qc25_4 qc25_5 qc25_6 qc25_7) rfl ?_
      refine ea_iconst (pc := 123) dX12_inForce_123 (v := (-1)) rfl ?_
      exact ea_iretE (pc := 124) dX12_inForce_124 rfl rfl EX EY
    · have EX := EX.trans (if_pos c9)
      refine ea_iconst (pc := 22) dX12_inForce_22 (v := (-1)) rfl ?_
      exact ea_iretE (pc := 23) dX12_inForce_23 rfl rfl EX EY
  · have EX := EX.trans (if_neg c20)
    have EY := EY.trans (if_neg c20)
    have K := K.2 c20
    refine ea_aload_n (pc := 7) dX12_inForce_7 rfl 0 rfl ?_
    refine ea_iload_n (pc := 8) dX12_inForce_8 rfl 1 rfl ?_
    obtain ⟨z10, K⟩ := K
    refine ea_callV (pc := 9) (d' := d - 1) (As := [vI x1]) (st := []) dX12_inForce_9 kX12_actOn (sX12_actOn (d := d - 1) (by omega) hs z10) (by omega) rfl (Nat.le_of_ble_eq_true rfl) ew_1975 ew_1977 ew_81 (ci := 12) rfl (by decide) (hs.1 0 (by decide)).1 (hs.1 0 (by decide)).2.1 ?_
    have hs11 : ShM b0 (wX12_actOn b0 (x1 : Int32) h) := shX12_actOn hs
    refine ea_goto (pc := 12) (tgt := 16) dX12_inForce_12 rfl ?_
    refine ea_istore_n (pc := 16) (lv' := [(0, vR (some (b0 + 0))), (2, vI x2), (3, vI (vX12_actOn b0 (x1 : Int32) h))]) dX12_inForce_16 rfl (Nat.le_of_ble_eq_true rfl) [1, 3, 0] rfl ?_
    refine ea_iload_n (pc := 17) dX12_inForce_17 rfl 2 rfl ?_
    refine ea_iconst (pc := 18) dX12_inForce_18 (v := (-1)) rfl ?_
    refine ea_icmp_ne (pc := 19) (tgt := 24) dX12_inForce_19 rfl (fun c19 => ?_) (fun c19 => ?_)
    · have EX := EX.trans (if_neg c19)
      have K := K.2 c19
      refine ea_iload_n (pc := 24) dX12_inForce_24 rfl 1 rfl ?_
      by_cases qc25_0 : Int32.toInt x2 = 0
      · have EX := EX.trans (if_pos qc25_0)
        have K := K.1 qc25_0
        refine ea_tswIn (pc := 25) (tgt := 72) dX12_inForce_25 (by rw [qc25_0]; decide) (by rw [qc25_0]; decide) (by rw [qc25_0]; rfl) rfl ?_
        refine ea_iload_n (pc := 72) dX12_inForce_72 rfl 2 rfl ?_
        exact ea_iretE (pc := 73) dX12_inForce_73 rfl rfl EX EY
      have EX := EX.trans (if_neg qc25_0)
      have K := K.2 qc25_0
      by_cases qc25_1 : Int32.toInt x2 = 1
      · have EX := EX.trans (if_pos qc25_1)
        have K := K.1 qc25_1
        refine ea_tswIn (pc := 25) (tgt := 74) dX12_inForce_25 (by rw [qc25_1]; decide) (by rw [qc25_1]; decide) (by rw [qc25_1]; rfl) rfl ?_
        refine ea_aload_n (pc := 74) dX12_inForce_74 rfl 0 rfl ?_
        refine ea_getR (pc := 75) dX12_inForce_75 ec_12 (k := 27) (Nat.le_of_ble_eq_true rfl) rfl (Or.inl ew_1372) (hs11.1 0 (by decide)).1 (hs11.1 0 (by decide)).2.1 (hs11.2 0 27 rfl) ?_
        refine ea_iload_n (pc := 78) dX12_inForce_78 rfl 2 rfl ?_
        have z12 := K
        refine ea_iald (pc := 79) dX12_inForce_79 (hs11.1 22 (by decide)).1 (hs11.1 22 (by decide)).2.1 (ea_vpl (hs11.1 22 (by decide)).2.2 z12) ?_
        exact ea_iretE (pc := 80) dX12_inForce_80 rfl rfl EX EY
      have EX := EX.trans (if_neg qc25_1)
      have K := K.2 qc25_1
      by_cases qc25_2 : Int32.toInt x2 = 2
      · have EX := EX.trans (if_pos qc25_2)
        have K := K.1 qc25_2
        refine ea_tswIn (pc := 25) (tgt := 81) dX12_inForce_25 (by rw [qc25_2]; decide) (by rw [qc25_2]; decide) (by rw [qc25_2]; rfl) rfl ?_
        refine ea_aload_n (pc := 81) dX12_inForce_81 rfl 0 rfl ?_
        refine ea_getR (pc := 82) dX12_inForce_82 ec_12 (k := 28) (Nat.le_of_ble_eq_true rfl) rfl (Or.inl ew_1373) (hs11.1 0 (by decide)).1 (hs11.1 0 (by decide)).2.1 (hs11.2 0 28 rfl) ?_
        refine ea_iload_n (pc := 85) dX12_inForce_85 rfl 2 rfl ?_
        have z13 := K
        refine ea_iald (pc := 86) dX12_inForce_86 (hs11.1 23 (by decide)).1 (hs11.1 23 (by decide)).2.1 (ea_vpl (hs11.1 23 (by decide)).2.2 z13) ?_
        exact ea_iretE (pc := 87) dX12_inForce_87 rfl rfl EX EY
      have EX := EX.trans (if_neg qc25_2)
      have K := K.2 qc25_2
      by_cases qc25_3 : Int32.toInt x2 = 3
      · have EX := EX.trans (if_pos qc25_3)
        have K := K.1 qc25_3
        refine ea_tswIn (pc := 25) (tgt := 88) dX12_inForce_25 (by rw [qc25_3]; decide) (by rw [qc25_3]; decide) (by rw [qc25_3]; rfl) rfl ?_
        refine ea_aload_n (pc := 88) dX12_inForce_88 rfl 0 rfl ?_
        refine ea_getR (pc := 89) dX12_inForce_89 ec_12 (k := 29) (Nat.le_of_ble_eq_true rfl) rfl (Or.inl ew_1374) (hs11.1 0 (by decide)).1 (hs11.1 0 (by decide)).2.1 (hs11.2 0 29 rfl) ?_
        refine ea_iload_n (pc := 92) dX12_inForce_92 rfl 2 rfl ?_
        have z14 := K
        refine ea_iald (pc := 93) dX12_inForce_93 (hs11.1 24 (by decide)).1 (hs11.1 24 (by decide)).2.1 (ea_vpl (hs11.1 24 (by decide)).2.2 z14) ?_
        exact ea_iretE (pc := 94) dX12_inForce_94 rfl rfl EX EY
      have EX := EX.trans (if_neg qc25_3)
      have K := K.2 qc25_3
      by_cases qc25_4 : Int32.toInt x2 = 4
      · have EX := EX.trans (if_pos qc25_4)
        have K := K.1 qc25_4
        refine ea_tswIn (pc := 25) (tgt := 95) dX12_inForce_25 (by rw [qc25_4]; decide) (by rw [qc25_4]; decide) (by rw [qc25_4]; rfl) rfl ?_
        refine ea_aload_n (pc := 95) dX12_inForce_95 rfl 0 rfl ?_
        refine ea_getR (pc := 96) dX12_inForce_96 ec_12 (k := 30) (Nat.le_of_ble_eq_true rfl) rfl (Or.inl ew_1375) (hs11.1 0 (by decide)).1 (hs11.1 0 (by decide)).2.1 (hs11.2 0 30 rfl) ?_
        refine ea_iload_n (pc := 99) dX12_inForce_99 rfl 2 rfl ?_
        have z15 := K
        refine ea_iald (pc := 100) dX12_inForce_100 (hs11.1 25 (by decide)).1 (hs11.1 25 (by decide)).2.1 (ea_vpl (hs11.1 25 (by decide)).2.2 z15) ?_
        exact ea_iretE (pc := 101) dX12_inForce_101 rfl rfl EX EY
      have EX := EX.trans (if_neg qc25_4)
      have K := K.2 qc25_4
      by_cases qc25_5 : Int32.toInt x2 = 5
      · have EX := EX.trans (if_pos qc25_5)
        have K := K.1 qc25_5
        refine ea_tswIn (pc := 25) (tgt := 102) dX12_inForce_25 (by rw [qc25_5]; decide) (by rw [qc25_5]; decide) (by rw [qc25_5]; rfl) rfl ?_
        refine ea_aload_n (pc := 102) dX12_inForce_102 rfl 0 rfl ?_
        refine ea_getR (pc := 103) dX12_inForce_103 ec_12 (k := 31) (Nat.le_of_ble_eq_true rfl) rfl (Or.inl ew_1376) (hs11.1 0 (by decide)).1 (hs11.1 0 (by decide)).2.1 (hs11.2 0 31 rfl) ?_
        refine ea_iload_n (pc := 106) dX12_inForce_106 rfl 2 rfl ?_
        have z16 := K
        refine ea_iald (pc := 107) dX12_inForce_107 (hs11.1 26 (by decide)).1 (hs11.1 26 (by decide)).2.1 (ea_vpl (hs11.1 26 (by decide)).2.2 z16) ?_
        exact ea_iretE (pc := 108) dX12_inForce_108 rfl rfl EX EY
      have EX := EX.trans (if_neg qc25_5)
      have K := K.2 qc25_5
      by_cases qc25_6 : Int32.toInt x2 = 6
      · have EX := EX.trans (if_pos qc25_6)
        have K := K.1 qc25_6
        refine ea_tswIn (pc := 25) (tgt := 109) dX12_inForce_25 (by rw [qc25_6]; decide) (by rw [qc25_6]; decide) (by rw [qc25_6]; rfl) rfl ?_
        refine ea_aload_n (pc := 109) dX12_inForce_109 rfl 0 rfl ?_
        refine ea_getR (pc := 110) dX12_inForce_110 ec_12 (k := 32) (Nat.le_of_ble_eq_true rfl) rfl (Or.inl ew_1377) (hs11.1 0 (by decide)).1 (hs11.1 0 (by decide)).2.1 (hs11.2 0 32 rfl) ?_
        refine ea_iload_n (pc := 113) dX12_inForce_113 rfl 2 rfl ?_
        have z17 := K
        refine ea_iald (pc := 114) dX12_inForce_114 (hs11.1 27 (by decide)).1 (hs11.1 27 (by decide)).2.1 (ea_vpl (hs11.1 27 (by decide)).2.2 z17) ?_
        exact ea_iretE (pc := 115) dX12_inForce_115 rfl rfl EX EY
      have EX := EX.trans (if_neg qc25_6)
      have K := K.2 qc25_6
      by_cases qc25_7 : Int32.toInt x2 = 7
      · have EX := EX.trans (if_pos qc25_7)
        have K := K.1 qc25_7
        refine ea_tswIn (pc := 25) (tgt := 116) dX12_inForce_25 (by rw [qc25_7]; decide) (by rw [qc25_7]; decide) (by rw [qc25_7]; rfl) rfl ?_
        refine ea_aload_n (pc := 116) dX12_inForce_116 rfl 0 rfl ?_
        refine ea_getR (pc := 117) dX12_inForce_117 ec_12 (k := 33) (Nat.le_of_ble_eq_true rfl) rfl (Or.inl ew_1378) (hs11.1 0 (by decide)).1 (hs11.1 0 (by decide)).2.1 (hs11.2 0 33 rfl) ?_
        refine ea_iload_n (pc := 120) dX12_inForce_120 rfl 2 rfl ?_
        have z18 := K
        refine ea_iald (pc := 121) dX12_inForce_121 (hs11.1 28 (by decide)).1 (hs11.1 28 (by decide)).2.1 (ea_vpl (hs11.1 28 (by decide)).2.2 z18) ?_
        exact ea_iretE (pc := 122) dX12_inForce_122 rfl rfl EX EY
      have EX := EX.trans (if_neg qc25_7)
      have K := K.2 qc25_7
      refine ea_tswOut (pc := 25) (tgt := 123) dX12_inForce_25 (ea_sw_0_7 qc25_0 qc25_1 qc25_2 qc25_3 qc25_4 qc25_5 qc25_6 qc25_7) rfl ?_
      refine ea_iconst (pc := 123) dX12_inForce_123 (v := (-1)) rfl ?_
      exact ea_iretE (pc := 124) dX12_inForce_124 rfl rfl EX EY
    · have EX := EX.trans (if_pos c19)
      refine ea_iconst (pc := 22) dX12_inForce_22 (v := (-1)) rfl ?_
      exact ea_iretE (pc := 23) dX12_inForce_23 rfl rfl EX EY
noncomputable def vX12_isCross (b0 : Nat) (x1 : Int32) (x2 : Int32) (h : ea_H) : Int32 := (if x1 = (0 : Int32) then (0 : Int32) else (if x2 = (0 : Int32) then (0 : Int32) else (if (vX12_milesOf b0 (x1 : Int32) (x2 : Int32) (0 : Int32) h) = (1000000 : Int32) then (0 : Int32) else (if (vX12_milesOf b0 (x1 : Int32) (x2 : Int32) (1 : Int32) (wX12_milesOf b0 (x1 : Int32) (x2 : Int32) (0 : Int32) h)) = (vX12_milesOf b0 (x1 : Int32) (x2 : Int32) (0 : Int32) h) then (1 : Int32) else (0 : Int32)))))
noncomputable def wX12_isCross (b0 : Nat) (x1 : Int32) (x2 : Int32) (h : ea_H) : ea_H := (if x1 = (0 : Int32) then h else (if x2 = (0 : Int32) then h else (if (vX12_milesOf b0 (x1 : Int32) (x2 : Int32) (0 : Int32) h) = (1000000 : Int32) then (wX12_milesOf b0 (x1 : Int32) (x2 : Int32) (0 : Int32) h) else (wX12_milesOf b0 (x1 : Int32) (x2 : Int32) (1 : Int32) (wX12_milesOf b0 (x1 : Int32) (x2 : Int32) (0 : Int32) h)))))
def okX12_isCross (b0 : Nat) (x1 : Int32) (x2 : Int32) (h : ea_H) : Prop := (x1 = (0 : Int32) → True) ∧ (¬ x1 = (0 : Int32) → (x2 = (0 : Int32) → True) ∧ (¬ x2 = (0 : Int32) → (okX12_milesOf b0 (x1 : Int32) (x2 : Int32) (0 : Int32) h) ∧ (((vX12_milesOf b0 (x1 : Int32) (x2 : Int32) (0 : Int32) h) = (1000000 : Int32) → True) ∧ (¬ (vX12_milesOf b0 (x1 : Int32) (x2 : Int32) (0 : Int32) h) = (1000000 : Int32) → (okX12_milesOf b0 (x1 : Int32) (x2 : Int32) (1 : Int32) (wX12_milesOf b0 (x1 : Int32) (x2 : Int32) (0 : Int32) h))))))
theorem bo_vX12_isCross (b0 : Nat) (x1 : Int32) (x2 : Int32) (h : ea_H) : vX12_isCross b0 x1 x2 h = 0 ∨ vX12_isCross b0 x1 x2 h = 1 := (ea_itB (Or.inl rfl) (ea_itB (Or.inl rfl) (ea_itB (Or.inl rfl) (ea_itB (Or.inr rfl) (Or.inl rfl)))))
theorem shX12_isCross {b0 : Nat} {x1 : Int32} {x2 : Int32} {h : ea_H} (hs : ShM b0 h) : ShM b0 (wX12_isCross b0 x1 x2 h) := (ShM_it hs (ShM_it hs (ShM_it (shX12_milesOf hs) (shX12_milesOf (shX12_milesOf hs)))))
theorem sX12_isCross {d : Nat} {b0 : Nat} {x1 : Int32} {x2 : Int32} {h : ea_H} (hd : 3 ≤ d) (hs : ShM b0 h) (K : okX12_isCross b0 x1 x2 h) : ea_Met mX12_isCross d [vR (some (b0 + 0)), vI x1, vI x2] h (some (vI (vX12_isCross b0 x1 x2 h))) (wX12_isCross b0 x1 x2 h) := by
  obtain ⟨X, EX⟩ : ∃ z, z = vX12_isCross b0 x1 x2 h := ⟨_, rfl⟩
  rw [← EX]
  unfold vX12_isCross at EX
  obtain ⟨Y, EY⟩ : ∃ z, z = wX12_isCross b0 x1 x2 h := ⟨_, rfl⟩
  rw [← EY]
  unfold wX12_isCross at EY
  unfold okX12_isCross at K
  refine ea_enter rfl (Nat.le_of_ble_eq_true rfl) ?_
  refine ea_iload_n (pc := 0) dX12_isCross_0 rfl 1 rfl ?_
  refine ea_if_eq (pc := 1) (tgt := 8) dX12_isCross_1 rfl (fun c8 => ?_) (fun c8 => ?_)
  · have EX := EX.trans (if_pos c8)
    have EY := EY.trans (if_pos c8)
    refine ea_iconst (pc := 8) dX12_isCross_8 (v := 0) rfl ?_
    exact ea_iretE (pc := 9) dX12_isCross_9 rfl (ea_bn (Or.inl rfl)) EX EY
  · have EX := EX.trans (if_neg c8)
    have EY := EY.trans (if_neg c8)
    have K := K.2 c8
    refine ea_iload_n (pc := 4) dX12_isCross_4 rfl 2 rfl ?_
    refine ea_if_ne (pc := 5) (tgt := 10) dX12_isCross_5 rfl (fun c7 => ?_) (fun c7 => ?_)
    · have EX := EX.trans (if_neg c7)
      have EY := EY.trans (if_neg c7)
      have K := K.2 c7
      refine ea_aload_n (pc := 10) dX12_isCross_10 rfl 0 rfl ?_
      refine ea_iload_n (pc := 11) dX12_isCross_11 rfl 1 rfl ?_
      refine ea_iload_n (pc := 12) dX12_isCross_12 rfl 2 rfl ?_
      refine ea_iconst (pc := 13) dX12_isCross_13 (v := 0) rfl ?_
      obtain ⟨z1, K⟩ := K
      refine ea_callV (pc := 14) (d' := d - 1) (As := [vI x1, vI x2, vI 0]) (st := []) dX12_isCross_14 kX12_milesOf (sX12_milesOf (d := d - 1) (by omega) hs z1) (by omega) rfl (Nat.le_of_ble_eq_true rfl) ew_1719 ew_1721 ew_48 (ci := 12) rfl (by decide) (hs.1 0 (by decide)).1 (hs.1 0 (by decide)).2.1 ?_
      have hs2 : ShM b0 (wX12_milesOf b0 (x1 : Int32) (x2 : Int32) (0 : Int32) h) := shX12_milesOf hs
      refine ea_istore_n (pc := 17) (lv' := [(0, vR (some (b0 + 0))), (1, vI x1), (2, vI x2), (3, vI (vX12_milesOf b0 (x1 : Int32) (x2 : Int32) (0 : Int32) h))]) dX12_isCross_17 rfl (Nat.le_of_ble_eq_true rfl) [1, 2, 3, 0] rfl ?_
      refine ea_iload_n (pc := 18) dX12_isCross_18 rfl 3 rfl ?_
      refine ea_ldcw (pc := 19) dX12_isCross_19 ew_1727 ?_
      refine ea_icmp_eq (pc := 22) (tgt := 40) dX12_isCross_22 rfl (fun c6 => ?_) (fun c6 => ?_)
      · have EX := EX.trans (if_pos c6)
        have EY := EY.trans (if_pos c6)
        refine ea_iconst (pc := 40) dX12_isCross_40 (v := 0) rfl ?_
        exact ea_iretE (pc := 41) dX12_isCross_41 rfl (ea_bn (Or.inl rfl)) EX EY
      · have EX := EX.trans (if_neg c6)
        have EY := EY.trans (if_neg c6)
        have K := K.2 c6
        refine ea_aload_n (pc := 25) dX12_isCross_25 rfl 0 rfl ?_
        refine ea_iload_n (pc := 26) dX12_isCross_26 rfl 1 rfl ?_
        refine ea_iload_n (pc := 27) dX12_isCross_27 rfl 2 rfl ?_
        refine ea_iconst (pc := 28) dX12_isCross_28 (v := 1) rfl ?_
        have z3 := K
        refine ea_callV (pc := 29) (d' := d - 1) (As := [vI x1, vI x2, vI 1]) (st := []) dX12_isCross_29 kX12_milesOf (sX12_milesOf (d := d - 1) (by omega) hs2 z3) (by omega) rfl (Nat.le_of_ble_eq_true rfl) ew_1719 ew_1721 ew_48 (ci := 12) rfl (by decide) (hs2.1 0 (by decide)).1 (hs2.1 0 (by decide)).2.1 ?_
        have hs4 : ShM b0 (wX12_milesOf b0 (x1 : Int32) (x2 : Int32) (1 : Int32) (wX12_milesOf b0 (x1 : Int32) (x2 : Int32) (0 : Int32) h)) := shX12_milesOf hs2
        refine ea_iload_n (pc := 32) dX12_isCross_32 rfl 3 rfl ?_
        refine ea_icmp_ne (pc := 33) (tgt := 40) dX12_isCross_33 rfl (fun c5 => ?_) (fun c5 => ?_)
        · have EX := EX.trans (if_neg c5)
          refine ea_iconst (pc := 40) dX12_isCross_40 (v := 0) rfl ?_
          exact ea_iretE (pc := 41) dX12_isCross_41 rfl (ea_bn (Or.inl rfl)) EX EY
        · have EX := EX.trans (if_pos c5)
          refine ea_iconst (pc := 36) dX12_isCross_36 (v := 1) rfl ?_
          refine ea_goto (pc := 37) (tgt := 41) dX12_isCross_37 rfl ?_
          exact ea_iretE (pc := 41) dX12_isCross_41 rfl (ea_bn (Or.inr rfl)) EX EY
    · have EX := EX.trans (if_pos c7)
      have EY := EY.trans (if_pos c7)
      refine ea_iconst (pc := 8) dX12_isCross_8 (v := 0) rfl ?_
      exact ea_iretE (pc := 9) dX12_isCross_9 rfl (ea_bn (Or.inl rfl)) EX EY
noncomputable def gX12_turns (b0 : Nat) : Nat → Nat → Int32 → Int32 → Int32 → Int32 → ea_H → Option (Unit × ea_H)
  | 0, _, _, _, _, _, _ => none
  | f + 1, lbl, x1, x2, x3, x4, h =>
    (gd (vp_in x1 120) (ea_let (ea_wi h (b0 + 55) (Int32.toNatClampNeg x1) x3) fun H3 => (gd (vp_in x1 120) (ea_let (ea_wi H3 (b0 + 56) (Int32.toNatClampNeg x1) x4) fun H6 => (gd (vp_in x1 120) (ea_let (ea_wi H6 (b0 + 59) (Int32.toNatClampNeg x1) x2) fun H9 => (gd (vp_in x1 120) (gd (vp_in (((1000 : Int32) * x1) + (ea_i H9 (b0 + 50) (Int32.toNatClampNeg x1))) 120000) (ea_let (ea_wi H9 (b0 + 62) (Int32.toNatClampNeg (((1000 : Int32) * x1) + (ea_i H9 (b0 + 50) (Int32.toNatClampNeg x1)))) x2) fun H13 => (gd (vp_in (((1000 : Int32) * x1) + (ea_i H9 (b0 + 50) (Int32.toNatClampNeg x1))) 120000) (ea_let (ea_wi H13 (b0 + 63) (Int32.toNatClampNeg (((1000 : Int32) * x1) + (ea_i H9 (b0 + 50) (Int32.toNatClampNeg x1)))) x3) fun H16 => (gd (vp_in (((1000 : Int32) * x1) + (ea_i H9 (b0 + 50) (Int32.toNatClampNeg x1))) 120000) (ea_let (ea_wi H16 (b0 + 64) (Int32.toNatClampNeg (((1000 : Int32) * x1) + (ea_i H9 (b0 + 50) (Int32.toNatClampNeg x1)))) x4) fun H19 => (gd (vp_in x1 120) (gd (vp_in x1 120) (ea_let (ea_wi H19 (b0 + 50) (Int32.toNatClampNeg x1) ((ea_i H19 (b0 + 50) (Int32.toNatClampNeg x1)) + (1 : Int32))) fun H23 => (some ((), H23))))))))))))))))))
theorem tX12_turns {d : Nat} {b0 : Nat} {h0 : ea_H} (hd : 1 ≤ d) : ∀ (f lbl : Nat) (x1 : Int32) (x2 : Int32) (x3 : Int32) (x4 : Int32) (h : ea_H) (r : Unit) (h' : ea_H), gX12_turns b0 f lbl x1 x2 x3 x4 h = some (r, h') → ShM b0 h → (lbl = 0 → ea_W mX12_turns d h0 none h' 0 [(0, vR (some (b0 + 0))), (1, vI x1), (2, vI x2), (3, vI x3), (4, vI x4)] [] h) := by
  intro f
  induction f with
  | zero => intro lbl x1 x2 x3 x4 h r h' E; cases E
  | succ f ih =>
    intro lbl x1 x2 x3 x4 h r h' E hs
    unfold gX12_turns at E
    intro el
    subst el
    refine ea_aload_n (pc := 0) dX12_turns_0 rfl 0 rfl ?_
    refine ea_getR (pc := 1) dX12_turns_1 ec_12 (k := 81) (Nat.le_of_ble_eq_true rfl) rfl (Or.inl ew_1426) (hs.1 0 (by decide)).1 (hs.1 0 (by decide)).2.1 (hs.2 0 81 rfl) ?_
    refine ea_iload_n (pc := 4) dX12_turns_4 rfl 1 rfl ?_
    refine ea_iload_n (pc := 5) dX12_turns_5 rfl 3 rfl ?_
    obtain ⟨z1, E⟩ := gd_some E
    refine ea_iast (pc := 6) dX12_turns_6 (hs.1 55 (by decide)).1 (hs.1 55 (by decide)).2.1 (ea_vpl (hs.1 55 (by decide)).2.2 z1) ?_
    have hs2 : ShM b0 (ea_wi h (b0 + 55) (Int32.toNatClampNeg x1) x3) := ShM_wi hs
    obtain ⟨H3, eH3, E⟩ := let_some E
    refine ea_nm eH3 ?_
    have hsH3 : ShM b0 H3 := by rw [eH3]; exact hs2
    refine ea_aload_n (pc := 7) dX12_turns_7 rfl 0 rfl ?_
    refine ea_getR (pc := 8) dX12_turns_8 ec_12 (k := 82) (Nat.le_of_ble_eq_true rfl) rfl (Or.inl ew_1427) (hsH3.1 0 (by decide)).1 (hsH3.1 0 (by decide)).2.1 (hsH3.2 0 82 rfl) ?_
    refine ea_iload_n (pc := 11) dX12_turns_11 rfl 1 rfl ?_
    refine ea_iload (pc := 12) dX12_turns_12 4 rfl ?_
    obtain ⟨z4, E⟩ := gd_some E
    refine ea_iast (pc := 14) dX12_turns_14 (hsH3.1 56 (by decide)).1 (hsH3.1 56 (by decide)).2.1 (ea_vpl (hsH3.1 56 (by decide)).2.2 z4) ?_
    have hs5 : ShM b0 (ea_wi H3 (b0 + 56) (Int32.toNatClampNeg x1) x4) := ShM_wi hsH3
    obtain ⟨H6, eH6, E⟩ := let_some E
    refine ea_nm eH6 ?_
    have hsH6 : ShM b0 H6 := by rw [eH6]; exact hs5
    refine ea_aload_n (pc := 15) dX12_turns_15 rfl 0 rfl ?_
    refine ea_getR (pc := 16) dX12_turns_16 ec_12 (k := 85) (Nat.le_of_ble_eq_true rfl) rfl (Or.inl ew_1430) (hsH6.1 0 (by decide)).1 (hsH6.1 0 (by decide)).2.1 (hsH6.2 0 85 rfl) ?_
    refine ea_iload_n (pc := 19) dX12_turns_19 rfl 1 rfl ?_
    refine ea_iload_n (pc := 20) dX12_turns_20 rfl 2 rfl ?_
    obtain ⟨z7, E⟩ := gd_some E
    refine ea_iast (pc := 21) dX12_turns_21 (hsH6.1 59 (by decide)).1 (hsH6.1 59 (by decide)).2.1 (ea_vpl (hsH6.1 59 (by decide)).2.2 z7) ?_
    have hs8 : ShM b0 (ea_wi H6 (b0 + 59) (Int32.toNatClampNeg x1) x2) := ShM_wi hsH6
    obtain ⟨H9, eH9, E⟩ := let_some E
    refine ea_nm eH9 ?_
    have hsH9 : ShM b0 H9 := by rw [eH9]; exact hs8
    refine ea_sipush (pc := 22) dX12_turns_22 (v := 1000) rfl ?_
    refine ea_iload_n (pc := 25) dX12_turns_25 rfl 1 rfl ?_
    refine ea_imul (pc := 26) dX12_turns_26 ?_
    refine ea_aload_n (pc := 27) dX12_turns_27 rfl 0 rfl ?_
    refine ea_getR (pc := 28) dX12_turns_28 ec_12 (k := 76) (Nat.le_of_ble_eq_true rfl) rfl (Or.inl ew_1421) (hsH9.1 0 (by decide)).1 (hsH9.1 0 (by decide)).2.1 (hsH9.2 0 76 rfl) ?_
    refine ea_iload_n (pc := 31) dX12_turns_31 rfl 1 rfl ?_
    obtain ⟨z10, E⟩ := gd_some E
    refine ea_iald (pc := 32) dX12_turns_32 (hsH9.1 50 (by decide)).1 (hsH9.1 50 (by decide)).2.1 (ea_vpl (hsH9.1 50 (by decide)).2.2 z10) ?_
    refine ea_iadd (pc := 33) dX12_turns_33 ?_
    refine ea_istore (pc := 34) (lv' := [(0, vR (some (b0 + 0))), (1, vI x1), (2, vI x2), (3, vI x3), (4, vI x4), (5, vI (((1000 : Int32) * x1) + (ea_i H9 (b0 + 50) (Int32.toNatClampNeg x1))))]) dX12_turns_34 (Nat.le_of_ble_eq_true rfl) [1, 2, 3, 4, 5, 0] rfl ?_
    refine ea_aload_n (pc := 36) dX12_turns_36 rfl 0 rfl ?_
    refine ea_getR (pc := 37) dX12_turns_37 ec_12 (k := 88) (Nat.le_of_ble_eq_true rfl) rfl (Or.inl ew_1433) (hsH9.1 0 (by decide)).1 (hsH9.1 0 (by decide)).2.1 (hsH9.2 0 88 rfl) ?_
    refine ea_iload (pc := 40) dX12_turns_40 5 rfl ?_
    refine ea_iload_n (pc := 42) dX12_turns_42 rfl 2 rfl ?_
    obtain ⟨z11, E⟩ := gd_some E
    refine ea_iast (pc := 43) dX12_turns_43 (hsH9.1 62 (by decide)).1 (hsH9.1 62 (by decide)).2.1 (ea_vpl (hsH9.1 62 (by decide)).2.2 z11) ?_
    have hs12 : ShM b0 (ea_wi H9 (b0 + 62) (Int32.toNatClampNeg (((1000 : Int32) * x1) + (ea_i H9 (b0 + 50) (Int32.toNatClampNeg x1)))) x2) := ShM_wi hsH9
    obtain ⟨H13, eH13, E⟩ := let_some E
    refine ea_nm eH13 ?_
    have hsH13 : ShM b0 H13 := by rw [eH13]; exact hs12
    refine ea_aload_n (pc := 44) dX12_turns_44 rfl 0 rfl ?_
    refine ea_getR (pc := 45) dX12_turns_45 ec_12 (k := 89) (Nat.le_of_ble_eq_true rfl) rfl (Or.inl ew_1434) (hsH13.1 0 (by decide)).1 (hsH13.1 0 (by decide)).2.1 (hsH13.2 0 89 rfl) ?_
    refine ea_iload (pc := 48) dX12_turns_48 5 rfl ?_
    refine ea_iload_n (pc := 50) dX12_turns_50 rfl 3 rfl ?_
    obtain ⟨z14, E⟩ := gd_some E
    refine ea_iast (pc := 51) dX12_turns_51 (hsH13.1 63 (by decide)).1 (hsH13.1 63 (by decide)).2.1 (ea_vpl (hsH13.1 63 (by decide)).2.2 z14) ?_
    have hs15 : ShM b0 (ea_wi H13 (b0 + 63) (Int32.toNatClampNeg (((1000 : Int32) * x1) + (ea_i H9 (b0 + 50) (Int32.toNatClampNeg x1)))) x3) := ShM_wi hsH13
    obtain ⟨H16, eH16, E⟩ := let_some E
    refine ea_nm eH16 ?_
    have hsH16 : ShM b0 H16 := by rw [eH16]; exact hs15
    refine ea_aload_n (pc := 52) dX12_turns_52 rfl 0 rfl ?_
    refine ea_getR (pc := 53) dX12_turns_53 ec_12 (k := 90) (Nat.le_of_ble_eq_true rfl) rfl (Or.inl ew_1435) (hsH16.1 0 (by decide)).1 (hsH16.1 0 (by decide)).2.1 (hsH16.2 0 90 rfl) ?_
    refine ea_iload (pc := 56) dX12_turns_56 5 rfl ?_
    refine ea_iload (pc := 58) dX12_turns_58 4 rfl ?_
    obtain ⟨z17, E⟩ := gd_some E
    refine ea_iast (pc := 60) dX12_turns_60 (hsH16.1 64 (by decide)).1 (hsH16.1 64 (by decide)).2.1 (ea_vpl (hsH16.1 64 (by decide)).2.2 z17) ?_
    have hs18 : ShM b0 (ea_wi H16 (b0 + 64) (Int32.toNatClampNeg (((1000 : Int32) * x1) + (ea_i H9 (b0 + 50) (Int32.toNatClampNeg x1)))) x4) := ShM_wi hsH16
    obtain ⟨H19, eH19, E⟩ := let_some E
    refine ea_nm eH19 ?_
    have hsH19 : ShM b0 H19 := by rw [eH19]; exact hs18
    refine ea_aload_n (pc := 61) dX12_turns_61 rfl 0 rfl ?_
    refine ea_getR (pc := 62) dX12_turns_62 ec_12 (k := 76) (Nat.le_of_ble_eq_true rfl) rfl (Or.inl ew_1421) (hsH19.1 0 (by decide)).1 (hsH19.1 0 (by decide)).2.1 (hsH19.2 0 76 rfl) ?_
    refine ea_iload_n (pc := 65) dX12_turns_65 rfl 1 rfl ?_
    refine ea_dup2 (pc := 66) dX12_turns_66 rfl rfl ?_
    obtain ⟨z20, E⟩ := gd_some E
    refine ea_iald (pc := 67) dX12_turns_67 (hsH19.1 50 (by decide)).1 (hsH19.1 50 (by decide)).2.1 (ea_vpl (hsH19.1 50 (by decide)).2.2 z20) ?_
    refine ea_iconst (pc := 68) dX12_turns_68 (v := 1) rfl ?_
    refine ea_iadd (pc := 69) dX12_turns_69 ?_
    obtain ⟨z21, E⟩ := gd_some E
    refine ea_iast (pc := 70) dX12_turns_70 (hsH19.1 50 (by decide)).1 (hsH19.1 50 (by decide)).2.1 (ea_vpl (hsH19.1 50 (by decide)).2.2 z21) ?_
    have hs22 : ShM b0 (ea_wi H19 (b0 + 50) (Int32.toNatClampNeg x1) ((ea_i H19 (b0 + 50) (Int32.toNatClampNeg x1)) + (1 : Int32))) := ShM_wi hsH19
    obtain ⟨H23, eH23, E⟩ := let_some E
    refine ea_nm eH23 ?_
    have hsH23 : ShM b0 H23 := by rw [eH23]; exact hs22
    exact ea_vretO (pc := 71) dX12_turns_71 rfl E
noncomputable def qX12_turns (b0 : Nat) (x1 : Int32) (x2 : Int32) (x3 : Int32) (x4 : Int32) (h : ea_H) : Option (Unit × ea_H) := gX12_turns b0 1000000000 0 x1 x2 x3 x4 h
def okX12_turns (b0 : Nat) (x1 : Int32) (x2 : Int32) (x3 : Int32) (x4 : Int32) (h : ea_H) : Prop := ∃ x, qX12_turns b0 x1 x2 x3 x4 h = some x
noncomputable def wX12_turns (b0 : Nat) (x1 : Int32) (x2 : Int32) (x3 : Int32) (x4 : Int32) (h : ea_H) : ea_H := ((qX12_turns b0 x1 x2 x3 x4 h).getD ((), h)).2
theorem sX12_turns {d : Nat} {b0 : Nat} {x1 : Int32} {x2 : Int32} {x3 : Int32} {x4 : Int32} {h : ea_H} (hd : 1 ≤ d) (hs : ShM b0 h) (K : okX12_turns b0 x1 x2 x3 x4 h) : ea_Met mX12_turns d [vR (some (b0 + 0)), vI x1, vI x2, vI x3, vI x4] h none (wX12_turns b0 x1 x2 x3 x4 h) := by
  obtain ⟨⟨x, y⟩, K⟩ := K
  unfold wX12_turns
  rw [K]
  unfold qX12_turns at K
  exact ea_enter rfl (Nat.le_of_ble_eq_true rfl) ((tX12_turns hd 1000000000 0 x1 x2 x3 x4 h x y K hs) rfl)
theorem zX12_turns {b0 : Nat} : ∀ (f lbl : Nat) (x1 : Int32) (x2 : Int32) (x3 : Int32) (x4 : Int32) (h : ea_H) (r : Unit) (h' : ea_H), gX12_turns b0 f lbl x1 x2 x3 x4 h = some (r, h') → ShM b0 h → ShM b0 h' := by
  intro f
  induction f with
  | zero => intro lbl x1 x2 x3 x4 h r h' E; cases E
  | succ f ih =>
    intro lbl x1 x2 x3 x4 h r h' E hs
    unfold gX12_turns at E
    obtain ⟨z1, E⟩ := gd_some E
    obtain ⟨H3, eH3, E⟩ := let_some E
    have hsH3 : ShM b0 H3 := by rw [eH3]; exact (ShM_wi hs)
    obtain ⟨z4, E⟩ := gd_some E
    obtain ⟨H6, eH6, E⟩ := let_some E
    have hsH6 : ShM b0 H6 := by rw [eH6]; exact (ShM_wi hsH3)
    obtain ⟨z7, E⟩ := gd_some E
    obtain ⟨H9, eH9, E⟩ := let_some E
    have hsH9 : ShM b0 H9 := by rw [eH9]; exact (ShM_wi hsH6)
    obtain ⟨z10, E⟩ := gd_some E
    obtain ⟨z11, E⟩ := gd_some E
    obtain ⟨H13, eH13, E⟩ := let_some E
    have hsH13 : ShM b0 H13 := by rw [eH13]; exact (ShM_wi hsH9)
    obtain ⟨z14, E⟩ := gd_some E
    obtain ⟨H16, eH16, E⟩ := let_some E
    have hsH16 : ShM b0 H16 := by rw [eH16]; exact (ShM_wi hsH13)
    obtain ⟨z17, E⟩ := gd_some E
    obtain ⟨H19, eH19, E⟩ := let_some E
    have hsH19 : ShM b0 H19 := by rw [eH19]; exact (ShM_wi hsH16)
    obtain ⟨z20, E⟩ := gd_some E
    obtain ⟨z21, E⟩ := gd_some E
    obtain ⟨H23, eH23, E⟩ := let_some E
    have hsH23 : ShM b0 H23 := by rw [eH23]; exact (ShM_wi hsH19)
    exact ea_shO E hsH23
theorem shX12_turns {b0 : Nat} {x1 : Int32} {x2 : Int32} {x3 : Int32} {x4 : Int32} {h : ea_H} (hs : ShM b0 h) : ShM b0 (wX12_turns b0 x1 x2 x3 x4 h) := by
  unfold wX12_turns
  cases K : qX12_turns b0 x1 x2 x3 x4 h with
  | none => exact hs
  | some x => obtain ⟨x, y⟩ := x; unfold qX12_turns at K; exact zX12_turns _ _ _ _ _ _ _ _ _ K hs
noncomputable def gX12_gathers (b0 : Nat) : Nat → Nat → Int32 → Int32 → Int32 → ea_H → Option (Unit × ea_H)
  | 0, _, _, _, _, _ => none
  | f + 1, lbl, sx0, sx1, x1, h =>
    if lbl = 0 then (gd (vp_in x1 120) (if (ea_i h (b0 + 45) (Int32.toNatClampNeg x1)) = (1000000 : Int32) then (gX12_gathers b0 f 27 (0 : Int32) (1 : Int32) (x1 : Int32) h) else (gd (vp_in x1 120) (gX12_gathers b0 f 27 ((ea_i h (b0 + 45) (Int32.toNatClampNeg x1)) : Int32) (1 : Int32) (x1 : Int32) h)))) else
    if lbl = 27 then (gd (vp_in sx1 8) (ea_let (ea_wi h (b0 + 65) (Int32.toNatClampNeg sx1) sx0) fun H6 => (gd (vp_in x1 120) (gd (vp_in 2 8) (ea_let (ea_wi H6 (b0 + 65) (Int32.toNatClampNeg 2) (ea_i H6 (b0 + 41) (Int32.toNatClampNeg x1))) fun H10 => (gd (vp_in x1 120) (gd (vp_in 3 8) (ea_let (ea_wi H10 (b0 + 65) (Int32.toNatClampNeg 3) (ea_i H10 (b0 + 42) (Int32.toNatClampNeg x1))) fun H14 => (gd (vp_in x1 120) (gd (vp_in 4 8) (ea_let (ea_wi H14 (b0 + 65) (Int32.toNatClampNeg 4) (((ea_i H14 (b0 + 44) (Int32.toNatClampNeg x1)) - (ea_i H14 (b0 + 44) (Int32.toNatClampNeg x1)) / (1440 : Int32) * (1440 : Int32)) / (60 : Int32))) fun H18 => (gd (vp_in x1 120) (gd (vp_in 5 8) (ea_let (ea_wi H18 (b0 + 65) (Int32.toNatClampNeg 5) ((ea_i H18 (b0 + 44) (Int32.toNatClampNeg x1)) / (1440 : Int32))) fun H22 => (gd (vp_in x1 120) (gd (vp_in 6 8) (ea_let (ea_wi H22 (b0 + 65) (Int32.toNatClampNeg 6) (ea_i H22 (b0 + 38) (Int32.toNatClampNeg x1))) fun H26 => (gd (vp_in x1 120) (if (ea_i H26 (b0 + 52) (Int32.toNatClampNeg x1)) = (0 : Int32) then (gd (vp_in 7 8) (ea_let (ea_wi H26 (b0 + 65) (Int32.toNatClampNeg 7) 0) fun H30 => (some ((), H30)))) else (gd (vp_in 7 8) (ea_let (ea_wi H26 (b0 + 65) (Int32.toNatClampNeg 7) 1) fun H33 => (some ((), H33))))))))))))))))))))))) else none
theorem tX12_gathers {d : Nat} {b0 : Nat} {h0 : ea_H} (hd : 1 ≤ d) : ∀ (f lbl : Nat) (sx0 : Int32) (sx1 : Int32) (x1 : Int32) (h : ea_H) (r : Unit) (h' : ea_H), gX12_gathers b0 f lbl sx0 sx1 x1 h = some (r, h') → ShM b0 h → (lbl = 0 → ea_W mX12_gathers d h0 none h' 0 [(0, vR (some (b0 + 0))), (1, vI x1)] [] h) ∧ (lbl = 27 → ea_W mX12_gathers d h0 none h' 27 [(0, vR (some (b0 + 0))), (1, vI x1)] [vI sx0, vI sx1, vR (some (b0 + 65))] h) := by
  intro f
  induction f with
  | zero => intro lbl sx0 sx1 x1 h r h' E; cases E
  | succ f ih =>
    intro lbl sx0 sx1 x1 h r h' E hs
    unfold gX12_gathers at E
    refine ⟨?_, ?_⟩
    · intro el
      subst el
      have E := (if_pos rfl).symm.trans E
      refine ea_aload_n (pc := 0) dX12_gathers_0 rfl 0 rfl ?_
      refine ea_getR (pc := 1) dX12_gathers_1 ec_12 (k := 91) (Nat.le_of_ble_eq_true rfl) rfl (Or.inl ew_1436) (hs.1 0 (by decide)).1 (hs.1 0 (by decide)).2.1 (hs.2 0 91 rfl) ?_
      refine ea_iconst (pc := 4) dX12_gathers_4 (v := 1) rfl ?_
      refine ea_aload_n (pc := 5) dX12_gathers_5 rfl 0 rfl ?_
      refine ea_getR (pc := 6) dX12_gathers_6 ec_12 (k := 71) (Nat.le_of_ble_eq_true rfl) rfl (Or.inl ew_1416) (hs.1 0 (by decide)).1 (hs.1 0 (by decide)).2.1 (hs.2 0 71 rfl) ?_
      refine ea_iload_n (pc := 9) dX12_gathers_9 rfl 1 rfl ?_
      obtain ⟨z1, E⟩ := gd_some E
      refine ea_iald (pc := 10) dX12_gathers_10 (hs.1 45 (by decide)).1 (hs.1 45 (by decide)).2.1 (ea_vpl (hs.1 45 (by decide)).2.2 z1) ?_
      refine ea_ldcw (pc := 11) dX12_gathers_11 ew_1727 ?_
      refine ea_icmp_ne (pc := 14) (tgt := 21) dX12_gathers_14 rfl (fun c3 => ?_) (fun c3 => ?_)
      · have E := (if_neg c3).symm.trans E
        refine ea_aload_n (pc := 21) dX12_gathers_21 rfl 0 rfl ?_
        refine ea_getR (pc := 22) dX12_gathers_22 ec_12 (k := 71) (Nat.le_of_ble_eq_true rfl) rfl (Or.inl ew_1416) (hs.1 0 (by decide)).1 (hs.1 0 (by decide)).2.1 (hs.2 0 71 rfl) ?_
        refine ea_iload_n (pc := 25) dX12_gathers_25 rfl 1 rfl ?_
        obtain ⟨z2, E⟩ := gd_some E
        refine ea_iald (pc := 26) dX12_gathers_26 (hs.1 45 (by decide)).1 (hs.1 45 (by decide)).2.1 (ea_vpl (hs.1 45 (by decide)).2.2 z2) ?_
        exact ((ih 27 ((ea_i h (b0 + 45) (Int32.toNatClampNeg x1)) : Int32) (1 : Int32) (x1 : Int32) h _ _ E hs).2 rfl)
      · have E := (if_pos c3).symm.trans E
        refine ea_iconst (pc := 17) dX12_gathers_17 (v := 0) rfl ?_
        refine ea_goto (pc := 18) (tgt := 27) dX12_gathers_18 rfl ?_
        exact ((ih 27 (0 : Int32) (1 : Int32) (x1 : Int32) h _ _ E hs).2 rfl)
    intro el
    subst el
    have E := (if_neg (by decide)).symm.trans E
    have E := (if_pos rfl).symm.trans E
    obtain ⟨z4, E⟩ := gd_some E
    refine ea_iast (pc := 27) dX12_gathers_27 (hs.1 65 (by decide)).1 (hs.1 65 (by decide)).2.1 (ea_vpl (hs.1 65 (by decide)).2.2 z4) ?_
    have hs5 : ShM b0 (ea_wi h (b0 + 65) (Int32.toNatClampNeg sx1) sx0) := ShM_wi hs
    obtain ⟨H6, eH6, E⟩ := let_some E
    refine ea_nm eH6 ?_
    have hsH6 : ShM b0 H6 := by rw [eH6]; exact hs5
    refine ea_aload_n (pc := 28) dX12_gathers_28 rfl 0 rfl ?_
    refine ea_getR (pc := 29) dX12_gathers_29 ec_12 (k := 91) (Nat.le_of_ble_eq_true rfl) rfl (Or.inl ew_1436) (hsH6.1 0 (by decide)).1 (hsH6.1 0 (by decide)).2.1 (hsH6.2 0 91 rfl) ?_
    refine ea_iconst (pc := 32) dX12_gathers_32 (v := 2) rfl ?_
    refine ea_aload_n (pc := 33) dX12_gathers_33 rfl 0 rfl ?_
    refine ea_getR (pc := 34) dX12_gathers_34 ec_12 (k := 67) (Nat.le_of_ble_eq_true rfl) rfl (Or.inl ew_1412) (hsH6.1 0 (by decide)).1 (hsH6.1 0 (by decide)).2.1 (hsH6.2 0 67 rfl) ?_
    refine ea_iload_n (pc := 37) dX12_gathers_37 rfl 1 rfl ?_
    obtain ⟨z7, E⟩ := gd_some E
    refine ea_iald (pc := 38) dX12_gathers_38 (hsH6.1 41 (by decide)).1 (hsH6.1 41 (by decide)).2.1 (ea_vpl (hsH6.1 41 (by decide)).2.2 z7) ?_
    obtain ⟨z8, E⟩ := gd_some E
    refine ea_iast (pc := 39) dX12_gathers_39 (hsH6.1 65 (by decide)).1 (hsH6.1 65 (by decide)).2.1 (ea_vpl (hsH6.1 65 (by decide)).2.2 z8) ?_
    have hs9 : ShM b0 (ea_wi H6 (b0 + 65) (Int32.toNatClampNeg 2) (ea_i H6 (b0 + 41) (Int32.toNatClampNeg x1))) := ShM_wi hsH6
    obtain ⟨H10, eH10, E⟩ := let_some E
    refine ea_nm eH10 ?_
    have hsH10 : ShM b0 H10 := by rw [eH10]; exact hs9
    refine ea_aload_n (pc := 40) dX12_gathers_40 rfl 0 rfl ?_
    refine ea_getR (pc := 41) dX12_gathers_41 ec_12 (k := 91) (Nat.le_of_ble_eq_true rfl) rfl (Or.inl ew_1436) (hsH10.1 0 (by decide)).1 (hsH10.1 0 (by decide)).2.1 (hsH10.2 0 91 rfl) ?_
    refine ea_iconst (pc := 44) dX12_gathers_44 (v := 3) rfl ?_
    refine ea_aload_n (pc := 45) dX12_gathers_45 rfl 0 rfl ?_
    refine ea_getR (pc := 46) dX12_gathers_46 ec_12 (k := 68) (Nat.le_of_ble_eq_true rfl) rfl (Or.inl ew_1413) (hsH10.1 0 (by decide)).1 (hsH10.1 0 (by decide)).2.1 (hsH10.2 0 68 rfl) ?_
    refine ea_iload_n (pc := 49) dX12_gathers_49 rfl 1 rfl ?_
    obtain ⟨z11, E⟩ := gd_some E
    refine ea_iald (pc := 50) dX12_gathers_50 (hsH10.1 42 (by decide)).1 (hsH10.1 42 (by decide)).2.1 (ea_vpl (hsH10.1 42 (by decide)).2.2 z11) ?_
    obtain ⟨z12, E⟩ := gd_some E
    refine ea_iast (pc := 51) dX12_gathers_51 (hsH10.1 65 (by decide)).1 (hsH10.1 65 (by decide)).2.1 (ea_vpl (hsH10.1 65 (by decide)).2.2 z12) ?_
    have hs13 : ShM b0 (ea_wi H10 (b0 + 65) (Int32.toNatClampNeg 3) (ea_i H10 (b0 + 42) (Int32.toNatClampNeg x1))) := ShM_wi hsH10
    obtain ⟨H14, eH14, E⟩ := let_some E
    refine ea_nm eH14 ?_
    have hsH14 : ShM b0 H14 := by rw [eH14]; exact hs13
    refine ea_aload_n (pc := 52) dX12_gathers_52 rfl 0 rfl ?_
    refine ea_getR (pc := 53) dX12_gathers_53 ec_12 (k := 91) (Nat.le_of_ble_eq_true rfl) rfl (Or.inl ew_1436) (hsH14.1 0 (by decide)).1 (hsH14.1 0 (by decide)).2.1 (hsH14.2 0 91 rfl) ?_
    refine ea_iconst (pc := 56) dX12_gathers_56 (v := 4) rfl ?_
    refine ea_aload_n (pc := 57) dX12_gathers_57 rfl 0 rfl ?_
    refine ea_getR (pc := 58) dX12_gathers_58 ec_12 (k := 70) (Nat.le_of_ble_eq_true rfl) rfl (Or.inl ew_1415) (hsH14.1 0 (by decide)).1 (hsH14.1 0 (by decide)).2.1 (hsH14.2 0 70 rfl) ?_
    refine ea_iload_n (pc := 61) dX12_gathers_61 rfl 1 rfl ?_
    obtain ⟨z15, E⟩ := gd_some E
    refine ea_iald (pc := 62) dX12_gathers_62 (hsH14.1 44 (by decide)).1 (hsH14.1 44 (by decide)).2.1 (ea_vpl (hsH14.1 44 (by decide)).2.2 z15) ?_
    refine ea_sipush (pc := 63) dX12_gathers_63 (v := 1440) rfl ?_
    refine ea_irem (pc := 66) dX12_gathers_66 (by decide) ?_
    refine ea_bipush (pc := 67) dX12_gathers_67 (v := 60) rfl ?_
    refine ea_idiv (pc := 69) dX12_gathers_69 (by decide) ?_
    obtain ⟨z16, E⟩ := gd_some E
    refine ea_iast (pc := 70) dX12_gathers_70 (hsH14.1 65 (by decide)).1 (hsH14.1 65 (by decide)).2.1 (ea_vpl (hsH14.1 65 (by decide)).2.2 z16) ?_
    have hs17 : ShM b0 (ea_wi H14 (b0 + 65) (Int32.toNatClampNeg 4) (((ea_i H14 (b0 + 44) (Int32.toNatClampNeg x1)) - (ea_i H14 (b0 + 44) (Int32.toNatClampNeg x1)) / (1440 : Int32) * (1440 : Int32)) / (60 : Int32))) := ShM_wi hsH14
    obtain ⟨H18, eH18, E⟩ := let_some E
    refine ea_nm eH18 ?_
    have hsH18 : ShM b0 H18 := by rw [eH18]; exact hs17
    refine ea_aload_n (pc := 71) dX12_gathers_71 rfl 0 rfl ?_
    refine ea_getR (pc := 72) dX12_gathers_72 ec_12 (k := 91) (Nat.le_of_ble_eq_true rfl) rfl (Or.inl ew_1436) (hsH18.1 0 (by decide)).1 (hsH18.1 0 (by decide)).2.1 (hsH18.2 0 91 rfl) ?_
    refine ea_iconst (pc := 75) dX12_gathers_75 (v := 5) rfl ?_
    refine ea_aload_n (pc := 76) dX12_gathers_76 rfl 0 rfl ?_
    refine ea_getR (pc := 77) dX12_gathers_77 ec_12 (k := 70) (Nat.le_of_ble_eq_true rfl) rfl (Or.inl ew_1415) (hsH18.1 0 (by decide)).1 (hsH18.1 0 (by decide)).2.1 (hsH18.2 0 70 rfl) ?_
    refine ea_iload_n (pc := 80) dX12_gathers_80 rfl 1 rfl ?_
    obtain ⟨z19, E⟩ := gd_some E
    refine ea_iald (pc := 81) dX12_gathers_81 (hsH18.1 44 (by decide)).1 (hsH18.1 44 (by decide)).2.1 (ea_vpl (hsH18.1 44 (by decide)).2.2 z19) ?_
    refine ea_sipush (pc := 82) dX12_gathers_82 (v := 1440) rfl ?_
    refine ea_idiv (pc := 85) dX12_gathers_85 (by decide) ?_
    obtain ⟨z20, E⟩ := gd_some E
    refine ea_iast (pc := 86) dX12_gathers_86 (hsH18.1 65 (by decide)).1 (hsH18.1 65 (by decide)).2.1 (ea_vpl (hsH18.1 65 (by decide)).2.2 z20) ?_
    have hs21 : ShM b0 (ea_wi H18 (b0 + 65) (Int32.toNatClampNeg 5) ((ea_i H18 (b0 + 44) (Int32.toNatClampNeg x1)) / (1440 : Int32))) := ShM_wi hsH18
    obtain ⟨H22, eH22, E⟩ := let_some E
    refine ea_nm eH22 ?_
    have hsH22 : ShM b0 H22 := by rw [eH22]; exact hs21
    refine ea_aload_n (pc := 87) dX12_gathers_87 rfl 0 rfl ?_
    refine ea_getR (pc := 88) dX12_gathers_88 ec_12 (k := 91) (Nat.le_of_ble_eq_true rfl) rfl (Or.inl ew_1436) (hsH22.1 0 (by decide)).1 (hsH22.1 0 (by decide)).2.1 (hsH22.2 0 91 rfl) ?_
    refine ea_bipush (pc := 91) dX12_gathers_91 (v := 6) rfl ?_
    refine ea_aload_n (pc := 93) dX12_gathers_93 rfl 0 rfl ?_
    refine ea_getR (pc := 94) dX12_gathers_94 ec_12 (k := 64) (Nat.le_of_ble_eq_true rfl) rfl (Or.inl ew_1409) (hsH22.1 0 (by decide)).1 (hsH22.1 0 (by decide)).2.1 (hsH22.2 0 64 rfl) ?_
    refine ea_iload_n (pc := 97) dX12_gathers_97 rfl 1 rfl ?_
    obtain ⟨z23, E⟩ := gd_some E
    refine ea_iald (pc := 98) dX12_gathers_98 (hsH22.1 38 (by decide)).1 (hsH22.1 38 (by decide)).2.1 (ea_vpl (hsH22.1 38 (by decide)).2.2 z23) ?_
    obtain ⟨z24, E⟩ := gd_some E
    refine ea_iast (pc := 99) dX12_gathers_99 (hsH22.1 65 (by decide)).1 (hsH22.1 65 (by decide)).2.1 (ea_vpl (hsH22.1 65 (by decide)).2.2 z24) ?_
    have hs25 : ShM b0 (ea_wi H22 (b0 + 65) (Int32.toNatClampNeg 6) (ea_i H22 (b0 + 38) (Int32.toNatClampNeg x1))) := ShM_wi hsH22
    obtain ⟨H26, eH26, E⟩ := let_some E
    refine ea_nm eH26 ?_
    have hsH26 : ShM b0 H26 := by rw [eH26]; exact hs25
    refine ea_aload_n (pc := 100) dX12_gathers_100 rfl 0 rfl ?_
    refine ea_getR (pc := 101) dX12_gathers_101 ec_12 (k := 91) (Nat.le_of_ble_eq_true rfl) rfl (Or.inl ew_1436) (hsH26.1 0 (by decide)).1 (hsH26.1 0 (by decide)).2.1 (hsH26.2 0 91 rfl) ?_
    refine ea_bipush (pc := 104) dX12_gathers_104 (v := 7) rfl ?_
    refine ea_aload_n (pc := 106) dX12_gathers_106 rfl 0 rfl ?_
    refine ea_getR (pc := 107) dX12_gathers_107 ec_12 (k := 78) (Nat.le_of_ble_eq_true rfl) rfl (Or.inl ew_1423) (hsH26.1 0 (by decide)).1 (hsH26.1 0 (by decide)).2.1 (hsH26.2 0 78 rfl) ?_
    refine ea_iload_n (pc := 110) dX12_gathers_110 rfl 1 rfl ?_
    obtain ⟨z27, E⟩ := gd_some E
    refine ea_zald (pc := 111) dX12_gathers_111 (hsH26.1 52 (by decide)).1 (hsH26.1 52 (by decide)).2.1 (ea_vpl (hsH26.1 52 (by decide)).2.2 z27) ?_
    refine ea_if_eq (pc := 112) (tgt := 119) dX12_gathers_112 rfl (fun c34 => ?_) (fun c34 => ?_)
    · have E := (if_pos c34).symm.trans E
      refine ea_iconst (pc := 119) dX12_gathers_119 (v := 0) rfl ?_
      obtain ⟨z28, E⟩ := gd_some E
      refine ea_iast (pc := 120) dX12_gathers_120 (hsH26.1 65 (by decide)).1 (hsH26.1 65 (by decide)).2.1 (ea_vpl (hsH26.1 65 (by decide)).2.2 z28) ?_
      have hs29 : ShM b0 (ea_wi H26 (b0 + 65) (Int32.toNatClampNeg 7) 0) := ShM_wi hsH26
      obtain ⟨H30, eH30, E⟩ := let_some E
      refine ea_nm eH30 ?_
      have hsH30 : ShM b0 H30 := by rw [eH30]; exact hs29
      exact ea_vretO (pc := 121) dX12_gathers_121 rfl E
    · have E := (if_neg c34).symm.trans E
      refine ea_iconst (pc := 115) dX12_gathers_115 (v := 1) rfl ?_
      refine ea_goto (pc := 116) (tgt := 120) dX12_gathers_116 rfl ?_
      obtain ⟨z31, E⟩ := gd_some E
      refine ea_iast (pc := 120) dX12_gathers_120 (hsH26.1 65 (by decide)).1 (hsH26.1 65 (by decide)).2.1 (ea_vpl (hsH26.1 65 (by decide)).2.2 z31) ?_
      have hs32 : ShM b0 (ea_wi H26 (b0 + 65) (Int32.toNatClampNeg 7) 1) := ShM_wi hsH26
      obtain ⟨H33, eH33, E⟩ := let_some E
      refine ea_nm eH33 ?_
      have hsH33 : ShM b0 H33 := by rw [eH33]; exact hs32
      exact ea_vretO (pc := 121) dX12_gathers_121 rfl E
noncomputable def qX12_gathers (b0 : Nat) (x1 : Int32) (h : ea_H) : Option (Unit × ea_H) := gX12_gathers b0 1000000000 0 0 0 x1 h
def okX12_gathers (b0 : Nat) (x1 : Int32) (h : ea_H) : Prop := ∃ x, qX12_gathers b0 x1 h = some x
noncomputable def wX12_gathers (b0 : Nat) (x1 : Int32) (h : ea_H) : ea_H := ((qX12_gathers b0 x1 h).getD ((), h)).2
theorem sX12_gathers {d : Nat} {b0 : Nat} {x1 : Int32} {h : ea_H} (hd : 1 ≤ d) (hs : ShM b0 h) (K : okX12_gathers b0 x1 h) : ea_Met mX12_gathers d [vR (some (b0 + 0)), vI x1] h none (wX12_gathers b0 x1 h) := by
  obtain ⟨⟨x, y⟩, K⟩ := K
  unfold wX12_gathers
  rw [K]
  unfold qX12_gathers at K
  exact ea_enter rfl (Nat.le_of_ble_eq_true rfl) ((tX12_gathers hd 1000000000 0 0 0 x1 h x y K hs).1 rfl)
theorem zX12_gathers {b0 : Nat} : ∀ (f lbl : Nat) (sx0 : Int32) (sx1 : Int32) (x1 : Int32) (h : ea_H) (r : Unit) (h' : ea_H), gX12_gathers b0 f lbl sx0 sx1 x1 h = some (r, h') → ShM b0 h → ShM b0 h' := by
  intro f
  induction f with
  | zero => intro lbl sx0 sx1 x1 h r h' E; cases E
  | succ f ih =>
    intro lbl sx0 sx1 x1 h r h' E hs
    unfold gX12_gathers at E
    by_cases el0 : lbl = 0
    · have E := (if_pos el0).symm.trans E
      obtain ⟨z1, E⟩ := gd_some E
      by_cases c3 : (ea_i h (b0 + 45) (Int32.toNatClampNeg x1)) = (1000000 : Int32)
      · have E := (if_pos c3).symm.trans E
        exact ih 27 (0 : Int32) (1 : Int32) (x1 : Int32) h _ _ E hs
      have E := (if_neg c3).symm.trans E
      obtain ⟨z2, E⟩ := gd_some E
      exact ih 27 ((ea_i h (b0 + 45) (Int32.toNatClampNeg x1)) : Int32) (1 : Int32) (x1 : Int32) h _ _ E hs
    have E := (if_neg el0).symm.trans E
    by_cases el1 : lbl = 27
    · have E := (if_pos el1).symm.trans E
      obtain ⟨z4, E⟩ := gd_some E
      obtain ⟨H6, eH6, E⟩ := let_some E
      have hsH6 : ShM b0 H6 := by rw [eH6]; exact (ShM_wi hs)
      obtain ⟨z7, E⟩ := gd_some E
      obtain ⟨z8, E⟩ := gd_some E
      obtain ⟨H10, eH10, E⟩ := let_some E
      have hsH10 : ShM b0 H10 := by rw [eH10]; exact (ShM_wi hsH6)
      obtain ⟨z11, E⟩ := gd_some E
      obtain ⟨z12, E⟩ := gd_some E
      obtain ⟨H14, eH14, E⟩ := let_some E
      have hsH14 : ShM b0 H14 := by rw [eH14]; exact (ShM_wi hsH10)
      obtain ⟨z15, E⟩ := gd_some E
      obtain ⟨z16, E⟩ := gd_some E
      obtain ⟨H18, eH18, E⟩ := let_some E
      have hsH18 : ShM b0 H18 := by rw [eH18]; exact (ShM_wi hsH14)
      obtain ⟨z19, E⟩ := gd_some E
      obtain ⟨z20, E⟩ := gd_some E
      obtain ⟨H22, eH22, E⟩ := let_some E
      have hsH22 : ShM b0 H22 := by rw [eH22]; exact (ShM_wi hsH18)
      obtain ⟨z23, E⟩ := gd_some E
      obtain ⟨z24, E⟩ := gd_some E
      obtain ⟨H26, eH26, E⟩ := let_some E
      have hsH26 : ShM b0 H26 := by rw [eH26]; exact (ShM_wi hsH22)
      obtain ⟨z27, E⟩ := gd_some E
      by_cases c34 : (ea_i H26 (b0 + 52) (Int32.toNatClampNeg x1)) = (0 : Int32)
      · have E := (if_pos c34).symm.trans E
        obtain ⟨z28, E⟩ := gd_some E
        obtain ⟨H30, eH30, E⟩ := let_some E
        have hsH30 : ShM b0 H30 := by rw [eH30]; exact (ShM_wi hsH26)
        exact ea_shO E hsH30
      have E := (if_neg c34).symm.trans E
      obtain ⟨z31, E⟩ := gd_some E
      obtain ⟨H33, eH33, E⟩ := let_some E
      have hsH33 : ShM b0 H33 := by rw [eH33]; exact (ShM_wi hsH26)
      exact ea_shO E hsH33
    have E := (if_neg el1).symm.trans E
    cases E
theorem shX12_gathers {b0 : Nat} {x1 : Int32} {h : ea_H} (hs : ShM b0 h) : ShM b0 (wX12_gathers b0 x1 h) := by
  unfold wX12_gathers
  cases K : qX12_gathers b0 x1 h with
  | none => exact hs
  | some x => obtain ⟨x, y⟩ := x; unfold qX12_gathers at K; exact zX12_gathers _ _ _ _ _ _ _ _ K hs
noncomputable def gX12_comesTo (b0 : Nat) : Nat → Nat → Int32 → Int32 → Int32 → Int32 → Int32 → ea_H → Option (Int32 × ea_H)
  | 0, _, _, _, _, _, _, _ => none
  | f + 1, lbl, x1, x2, x3, x4, x5, h =>
    if lbl = 0 then (gX12_comesTo b0 f 6 (x1 : Int32) 0 (x3 : Int32) (0 : Int32) (x2 : Int32) h) else
    if lbl = 6 then (if x3 ≤ x5 then (some ((ea_i h (b0 + 37) 0), h)) else (gd (vp_in (((1220 : Int32) * x1) + ((2 : Int32) * x5)) 7320) (gd (vp_in ((((1220 : Int32) * x1) + ((2 : Int32) * x5)) + (1 : Int32)) 7320) (if (8 : Int32) ≤ (ea_i h (b0 + 32) (Int32.toNatClampNeg (((1220 : Int32) * x1) + ((2 : Int32) * x5)))) then (if (ea_i h (b0 + 32) (Int32.toNatClampNeg (((1220 : Int32) * x1) + ((2 : Int32) * x5)))) = (11 : Int32) then (gd (vp_in (x4 - (1 : Int32)) 620) (gd ((¬ (ea_i h (b0 + 32) (Int32.toNatClampNeg ((((1220 : Int32) * x1) + ((2 : Int32) * x5)) + (1 : Int32)))) = 0)) (gd (vp_in (x4 - (1 : Int32)) 620) (ea_let (ea_wi h (b0 + 37) (Int32.toNatClampNeg (x4 - (1 : Int32))) ((ea_i h (b0 + 37) (Int32.toNatClampNeg (x4 - (1 : Int32)))) / (ea_i h (b0 + 32) (Int32.toNatClampNeg ((((1220 : Int32) * x1) + ((2 : Int32) * x5)) + (1 : Int32)))))) fun H18 => (gX12_comesTo b0 f 6 (x1 : Int32) 0 (x3 : Int32) (x4 : Int32) ((x5 + (1 : Int32)) : Int32) H18))))) else (if (ea_i h (b0 + 32) (Int32.toNatClampNeg (((1220 : Int32) * x1) + ((2 : Int32) * x5)))) = (15 : Int32) then (gd (vp_in (x4 - (1 : Int32)) 620) (gd (vp_in (x4 - (1 : Int32)) 620) (ea_let (ea_wi h (b0 + 37) (Int32.toNatClampNeg (x4 - (1 : Int32))) ((1 : Int32) - (ea_i h (b0 + 37) (Int32.toNatClampNeg (x4 - (1 : Int32)))))) fun H12 => (gX12_comesTo b0 f 6 (x1 : Int32) 0 (x3 : Int32) (x4 : Int32) ((x5 + (1 : Int32)) : Int32) H12)))) else (gd (vp_in ((x4 + ((-1) : Int32)) - (1 : Int32)) 620) (gd (vp_in (x4 + ((-1) : Int32)) 620) (gd (vp_in ((x4 + ((-1) : Int32)) - (1 : Int32)) 620) (ea_let (ea_wi h (b0 + 37) (Int32.toNatClampNeg ((x4 + ((-1) : Int32)) - (1 : Int32))) (vX12_both ((ea_i h (b0 + 32) (Int32.toNatClampNeg (((1220 : Int32) * x1) + ((2 : Int32) * x5)))) : Int32) ((ea_i h (b0 + 37) (Int32.toNatClampNeg ((x4 + ((-1) : Int32)) - (1 : Int32)))) : Int32) ((ea_i h (b0 + 37) (Int32.toNatClampNeg (x4 + ((-1) : Int32)))) : Int32) h)) fun H8 => (gX12_comesTo b0 f 6 (x1 : Int32) 0 (x3 : Int32) ((x4 + ((-1) : Int32)) : Int32) ((x5 + (1 : Int32)) : Int32) H8))))))) else (if (ea_i h (b0 + 32) (Int32.toNatClampNeg (((1220 : Int32) * x1) + ((2 : Int32) * x5)))) = (0 : Int32) then (gd (vp_in x4 620) (ea_let (ea_wi h (b0 + 37) (Int32.toNatClampNeg x4) (ea_i h (b0 + 32) (Int32.toNatClampNeg ((((1220 : Int32) * x1) + ((2 : Int32) * x5)) + (1 : Int32))))) fun H26 => (gX12_comesTo b0 f 6 (x1 : Int32) 0 (x3 : Int32) ((x4 + (1 : Int32)) : Int32) ((x5 + (1 : Int32)) : Int32) H26))) else (gd (vp_in (ea_i h (b0 + 32) (Int32.toNatClampNeg (((1220 : Int32) * x1) + ((2 : Int32) * x5)))) 8) (gd (vp_in x4 620) (ea_let (ea_wi h (b0 + 37) (Int32.toNatClampNeg x4) (ea_i h (b0 + 65) (Int32.toNatClampNeg (ea_i h (b0 + 32) (Int32.toNatClampNeg (((1220 : Int32) * x1) + ((2 : Int32) * x5))))))) fun H23 => (gX12_comesTo b0 f 6 (x1 : Int32) 0 (x3 : Int32) ((x4 + (1 : Int32)) : Int32) ((x5 + (1 : Int32)) : Int32) H23))))))))) else none
theorem tX12_comesTo {d : Nat} {b0 : Nat} {h0 : ea_H} (hd : 2 ≤ d) : ∀ (f lbl : Nat) (x1 : Int32) (x2 : Int32) (x3 : Int32) (x4 : Int32) (x5 : Int32) (h : ea_H) (r : Int32) (h' : ea_H), gX12_comesTo b0 f lbl x1 x2 x3 x4 x5 h = some (r, h') → ShM b0 h → (lbl = 0 → ea_W mX12_comesTo d h0 (some (vI r)) h' 0 [(0, vR (some (b0 + 0))), (1, vI x1), (2, vI x2), (3, vI x3)] [] h) ∧ (lbl = 6 → ea_W mX12_comesTo d h0 (some (vI r)) h' 6 [(0, vR (some (b0 + 0))), (1, vI x1), (3, vI x3), (4, vI x4), (5, vI x5)] [] h) := by
  intro f
  induction f with
  | zero => intro lbl x1 x2 x3 x4 x5 h r h' E; cases E
  | succ f ih =>
    intro lbl x1 x2 x3 x4 x5 h r h' E hs
    unfold gX12_comesTo at E
    refine ⟨?_, ?_⟩
    · intro el
      subst el
      have E := (if_pos rfl).symm.trans E
      refine ea_iconst (pc := 0) dX12_comesTo_0 (v := 0) rfl ?_
      refine ea_istore (pc := 1) (lv' := [(0, vR (some (b0 + 0))), (1, vI x1), (2, vI x2), (3, vI x3), (4, vI 0)]) dX12_comesTo_1 (Nat.le_of_ble_eq_true rfl) [1, 2, 3, 4, 0] rfl ?_
      refine ea_iload_n (pc := 3) dX12_comesTo_3 rfl 2 rfl ?_
      refine ea_istore (pc := 4) (lv' := [(0, vR (some (b0 + 0))), (1, vI x1), (3, vI x3), (4, vI 0), (5, vI x2)]) dX12_comesTo_4 (Nat.le_of_ble_eq_true rfl) [1, 2, 4, 5, 0] rfl ?_
      exact ((ih 6 (x1 : Int32) 0 (x3 : Int32) (0 : Int32) (x2 : Int32) h _ _ E hs).2 rfl)
    intro el
    subst el
    have E := (if_neg (by decide)).symm.trans E
    have E := (if_pos rfl).symm.trans E
    refine ea_iload (pc := 6) dX12_comesTo_6 4 rfl ?_
    refine ea_iload_n (pc := 8) dX12_comesTo_8 rfl 2 rfl ?_
    refine ea_icmp_ge (pc := 9) (tgt := 178) dX12_comesTo_9 rfl (fun c29 => ?_) (fun c29 => ?_)
    · have E := (if_pos c29).symm.trans E
      refine ea_aload_n (pc := 178) dX12_comesTo_178 rfl 0 rfl ?_
      refine ea_getR (pc := 179) dX12_comesTo_179 ec_12 (k := 42) (Nat.le_of_ble_eq_true rfl) rfl (Or.inl ew_1387) (hs.1 0 (by decide)).1 (hs.1 0 (by decide)).2.1 (hs.2 0 42 rfl) ?_
      refine ea_iconst (pc := 182) dX12_comesTo_182 (v := 0) rfl ?_
      refine ea_iald (pc := 183) dX12_comesTo_183 (hs.1 37 (by decide)).1 (hs.1 37 (by decide)).2.1 (ea_vpl (n := 620) (hs.1 37 (by decide)).2.2 (by unfold vp_in; decide)) ?_
      exact ea_iretO (pc := 184) dX12_comesTo_184 rfl rfl E
    · have E := (if_neg c29).symm.trans E
      refine ea_aload_n (pc := 12) dX12_comesTo_12 rfl 0 rfl ?_
      refine ea_getR (pc := 13) dX12_comesTo_13 ec_12 (k := 37) (Nat.le_of_ble_eq_true rfl) rfl (Or.inl ew_1382) (hs.1 0 (by decide)).1 (hs.1 0 (by decide)).2.1 (hs.2 0 37 rfl) ?_
      refine ea_sipush (pc := 16) dX12_comesTo_16 (v := 1220) rfl ?_
      refine ea_iload_n (pc := 19) dX12_comesTo_19 rfl 1 rfl ?_
      refine ea_imul (pc := 20) dX12_comesTo_20 ?_
      refine ea_iconst (pc := 21) dX12_comesTo_21 (v := 2) rfl ?_
      refine ea_iload (pc := 22) dX12_comesTo_22 4 rfl ?_
      refine ea_imul (pc := 24) dX12_comesTo_24 ?_
      refine ea_iadd (pc := 25) dX12_comesTo_25 ?_
      obtain ⟨z1, E⟩ := gd_some E
      refine ea_iald (pc := 26) dX12_comesTo_26 (hs.1 32 (by decide)).1 (hs.1 32 (by decide)).2.1 (ea_vpl (hs.1 32 (by decide)).2.2 z1) ?_
      refine ea_istore (pc := 27) (lv' := [(0, vR (some (b0 + 0))), (1, vI x1), (3, vI x3), (4, vI x4), (5, vI x5), (6, vI (ea_i h (b0 + 32) (Int32.toNatClampNeg (((1220 : Int32) * x1) + ((2 : Int32) * x5)))))]) dX12_comesTo_27 (Nat.le_of_ble_eq_true rfl) [1, 2, 3, 4, 5, 0] rfl ?_
      refine ea_aload_n (pc := 29) dX12_comesTo_29 rfl 0 rfl ?_
      refine ea_getR (pc := 30) dX12_comesTo_30 ec_12 (k := 37) (Nat.le_of_ble_eq_true rfl) rfl (Or.inl ew_1382) (hs.1 0 (by decide)).1 (hs.1 0 (by decide)).2.1 (hs.2 0 37 rfl) ?_
      refine ea_sipush (pc := 33) dX12_comesTo_33 (v := 1220) rfl ?_
      refine ea_iload_n (pc := 36) dX12_comesTo_36 rfl 1 rfl ?_
      refine ea_imul (pc := 37) dX12_comesTo_37 ?_
      refine ea_iconst (pc := 38) dX12_comesTo_38 (v := 2) rfl ?_
      refine ea_iload (pc := 39) dX12_comesTo_39 4 rfl ?_
      refine ea_imul (pc := 41) dX12_comesTo_41 ?_
      refine ea_iadd (pc := 42) dX12_comesTo_42 ?_
      refine ea_iconst (pc := 43) dX12_comesTo_43 (v := 1) rfl ?_
      refine ea_iadd (pc := 44) dX12_comesTo_44 ?_
      obtain ⟨z2, E⟩ := gd_some E
      refine ea_iald (pc := 45) dX12_comesTo_45 (hs.1 32 (by decide)).1 (hs.1 32 (by decide)).2.1 (ea_vpl (hs.1 32 (by decide)).2.2 z2) ?_
      refine ea_istore (pc := 46) (lv' := [(0, vR (some (b0 + 0))), (1, vI x1), (3, vI x3), (4, vI x4), (5, vI x5), (6, vI (ea_i h (b0 + 32) (Int32.toNatClampNeg (((1220 : Int32) * x1) + ((2 : Int32) * x5))))), (7, vI (ea_i h (b0 + 32) (Int32.toNatClampNeg ((((1220 : Int32) * x1) + ((2 : Int32) * x5)) + (1 : Int32)))))]) dX12_comesTo_46 (Nat.le_of_ble_eq_true rfl) [1, 2, 3, 4, 5, 6, 0] rfl ?_
      refine ea_iload (pc := 48) dX12_comesTo_48 5 rfl ?_
      refine ea_bipush (pc := 50) dX12_comesTo_50 (v := 8) rfl ?_
      refine ea_icmp_ge (pc := 52) (tgt := 85) dX12_comesTo_52 rfl (fun c28 => ?_) (fun c28 => ?_)
      · have E := (if_pos c28).symm.trans E
        refine ea_iload (pc := 85) dX12_comesTo_85 5 rfl ?_
        refine ea_bipush (pc := 87) dX12_comesTo_87 (v := 11) rfl ?_
        refine ea_icmp_ne (pc := 89) (tgt := 109) dX12_comesTo_89 rfl (fun c19 => ?_) (fun c19 => ?_)
        · have E := (if_neg c19).symm.trans E
          refine ea_iload (pc := 109) dX12_comesTo_109 5 rfl ?_
          refine ea_bipush (pc := 111) dX12_comesTo_111 (v := 15) rfl ?_
          refine ea_icmp_ne (pc := 113) (tgt := 139) dX12_comesTo_113 rfl (fun c13 => ?_) (fun c13 => ?_)
          · have E := (if_neg c13).symm.trans E
            refine ea_iinc (pc := 139) (v := (-1)) (lv' := [(0, vR (some (b0 + 0))), (1, vI x1), (3, vI x3), (4, vI (x4 + ((-1) : Int32))), (5, vI x5), (6, vI (ea_i h (b0 + 32) (Int32.toNatClampNeg (((1220 : Int32) * x1) + ((2 : Int32) * x5)))))]) dX12_comesTo_139 3 rfl rfl (Nat.le_of_ble_eq_true rfl) [1, 2, 3, 0, 4, 5] rfl ?_
            refine ea_aload_n (pc := 142) dX12_comesTo_142 rfl 0 rfl ?_
            refine ea_getR (pc := 143) dX12_comesTo_143 ec_12 (k := 42) (Nat.le_of_ble_eq_true rfl) rfl (Or.inl ew_1387) (hs.1 0 (by decide)).1 (hs.1 0 (by decide)).2.1 (hs.2 0 42 rfl) ?_
            refine ea_iload (pc := 146) dX12_comesTo_146 3 rfl ?_
            refine ea_iconst (pc := 148) dX12_comesTo_148 (v := 1) rfl ?_
            refine ea_isub (pc := 149) dX12_comesTo_149 ?_
            refine ea_iload (pc := 150) dX12_comesTo_150 5 rfl ?_
            refine ea_aload_n (pc := 152) dX12_comesTo_152 rfl 0 rfl ?_
            refine ea_getR (pc := 153) dX12_comesTo_153 ec_12 (k := 42) (Nat.le_of_ble_eq_true rfl) rfl (Or.inl ew_1387) (hs.1 0 (by decide)).1 (hs.1 0 (by decide)).2.1 (hs.2 0 42 rfl) ?_
            refine ea_iload (pc := 156) dX12_comesTo_156 3 rfl ?_
            refine ea_iconst (pc := 158) dX12_comesTo_158 (v := 1) rfl ?_
            refine ea_isub (pc := 159) dX12_comesTo_159 ?_
            obtain ⟨z3, E⟩ := gd_some E
            refine ea_iald (pc := 160) dX12_comesTo_160 (hs.1 37 (by decide)).1 (hs.1 37 (by decide)).2.1 (ea_vpl (hs.1 37 (by decide)).2.2 z3) ?_
            refine ea_aload_n (pc := 161) dX12_comesTo_161 rfl 0 rfl ?_
            refine ea_getR (pc := 162) dX12_comesTo_162 ec_12 (k := 42) (Nat.le_of_ble_eq_true rfl) rfl (Or.inl ew_1387) (hs.1 0 (by decide)).1 (hs.1 0 (by decide)).2.1 (hs.2 0 42 rfl) ?_
            refine ea_iload (pc := 165) dX12_comesTo_165 3 rfl ?_
            obtain ⟨z4, E⟩ := gd_some E
            refine ea_iald (pc := 167) dX12_comesTo_167 (hs.1 37 (by decide)).1 (hs.1 37 (by decide)).2.1 (ea_vpl (hs.1 37 (by decide)).2.2 z4) ?_
            refine ea_callS (pc := 168) (d' := d - 1) (As := [vI (ea_i h (b0 + 32) (Int32.toNatClampNeg (((1220 : Int32) * x1) + ((2 : Int32) * x5)))), vI (ea_i h (b0 + 37) (Int32.toNatClampNeg ((x4 + ((-1) : Int32)) - (1 : Int32)))), vI (ea_i h (b0 + 37) (Int32.toNatClampNeg (x4 + ((-1) : Int32))))]) (st := [vI ((x4 + ((-1) : Int32)) - (1 : Int32)), vR (some (b0 + 37))]) dX12_comesTo_168 kX12_both (sX12_both (d := d - 1) (by omega)) (by omega) rfl (Nat.le_of_ble_eq_true rfl) ew_2007 ew_2008 ?_
            obtain ⟨z6, E⟩ := gd_some E
            refine ea_iast (pc := 171) dX12_comesTo_171 (hs.1 37 (by decide)).1 (hs.1 37 (by decide)).2.1 (ea_vpl (hs.1 37 (by decide)).2.2 z6) ?_
            have hs7 : ShM b0 (ea_wi h (b0 + 37) (Int32.toNatClampNeg ((x4 + ((-1) : Int32)) - (1 : Int32))) (vX12_both ((ea_i h (b0 + 32) (Int32.toNatClampNeg (((1220 : Int32) * x1) + ((2 : Int32) * x5)))) : Int32) ((ea_i h (b0 + 37) (Int32.toNatClampNeg ((x4 + ((-1) : Int32)) - (1 : Int32)))) : Int32) ((ea_i h (b0 + 37) (Int32.toNatClampNeg (x4 + ((-1) : Int32)))) : Int32) h)) := ShM_wi hs
            obtain ⟨H8, eH8, E⟩ := let_some E
            refine ea_nm eH8 ?_
            have hsH8 : ShM b0 H8 := by rw [eH8]; exact hs7
            refine ea_iinc (pc := 172) (v := 1) (lv' := [(0, vR (some (b0 + 0))), (1, vI x1), (3, vI x3), (4, vI (x4 + ((-1) : Int32))), (5, vI (x5 + (1 : Int32)))]) dX12_comesTo_172 4 rfl rfl (Nat.le_of_ble_eq_true rfl) [1, 2, 3, 4, 0] rfl ?_
            refine ea_goto (pc := 175) (tgt := 6) dX12_comesTo_175 rfl ?_
            exact ((ih 6 (x1 : Int32) 0 (x3 : Int32) ((x4 + ((-1) : Int32)) : Int32) ((x5 + (1 : Int32)) : Int32) H8 _ _ E hsH8).2 rfl)
          · have E := (if_pos c13).symm.trans E
            refine ea_aload_n (pc := 116) dX12_comesTo_116 rfl 0 rfl ?_
            refine ea_getR (pc := 117) dX12_comesTo_117 ec_12 (k := 42) (Nat.le_of_ble_eq_true rfl) rfl (Or.inl ew_1387) (hs.1 0 (by decide)).1 (hs.1 0 (by decide)).2.1 (hs.2 0 42 rfl) ?_
            refine ea_iload (pc := 120) dX12_comesTo_120 3 rfl ?_
            refine ea_iconst (pc := 122) dX12_comesTo_122 (v := 1) rfl ?_
            refine ea_isub (pc := 123) dX12_comesTo_123 ?_
            refine ea_iconst (pc := 124) dX12_comesTo_124 (v := 1) rfl ?_
            refine ea_aload_n (pc := 125) dX12_comesTo_125 rfl 0 rfl ?_
            refine ea_getR (pc := 126) dX12_comesTo_126 ec_12 (k := 42) (Nat.le_of_ble_eq_true rfl) rfl (Or.inl ew_1387) (hs.1 0 (by decide)).1 (hs.1 0 (by decide)).2.1 (hs.2 0 42 rfl) ?_
            refine ea_iload (pc := 129) dX12_comesTo_129 3 rfl ?_
            refine ea_iconst (pc := 131) dX12_comesTo_131 (v := 1) rfl ?_
            refine ea_isub (pc := 132) dX12_comesTo_132 ?_
            obtain ⟨z9, E⟩ := gd_some E
            refine ea_iald (pc := 133) dX12_comesTo_133 (hs.1 37 (by decide)).1 (hs.1 37 (by decide)).2.1 (ea_vpl (hs.1 37 (by decide)).2.2 z9) ?_
            refine ea_isub (pc := 134) dX12_comesTo_134 ?_
            obtain ⟨z10, E⟩ := gd_some E
            refine ea_iast (pc := 135) dX12_comesTo_135 (hs.1 37 (by decide)).1 (hs.1 37 (by decide)).2.1 (ea_vpl (hs.1 37 (by decide)).2.2 z10) ?_
            have hs11 : ShM b0 (ea_wi h (b0 + 37) (Int32.toNatClampNeg (x4 - (1 : Int32))) ((1 : Int32) - (ea_i h (b0 + 37) (Int32.toNatClampNeg (x4 - (1 : Int32)))))) := ShM_wi hs
            obtain ⟨H12, eH12, E⟩ := let_some E
            refine ea_nm eH12 ?_
            have hsH12 : ShM b0 H12 := by rw [eH12]; exact hs11
            refine ea_goto (pc := 136) (tgt := 172) dX12_comesTo_136 rfl ?_
            refine ea_iinc (pc := 172) (v := 1) (lv' := [(0, vR (some (b0 + 0))), (1, vI x1), (3, vI x3), (4, vI x4), (5, vI (x5 + (1 : Int32)))]) dX12_comesTo_172 4 rfl rfl (Nat.le_of_ble_eq_true rfl) [1, 2, 3, 4, 0] rfl ?_
            refine ea_goto (pc := 175) (tgt := 6) dX12_comesTo_175 rfl ?_
            exact ((ih 6 (x1 : Int32) 0 (x3 : Int32) (x4 : Int32) ((x5 + (1 : Int32)) : Int32) H12 _ _ E hsH12).2 rfl)
        · have E := (if_pos c19).symm.trans E
          refine ea_aload_n (pc := 92) dX12_comesTo_92 rfl 0 rfl ?_
          refine ea_getR (pc := 93) dX12_comesTo_93 ec_12 (k := 42) (Nat.le_of_ble_eq_true rfl) rfl (Or.inl ew_1387) (hs.1 0 (by decide)).1 (hs.1 0 (by decide)).2.1 (hs.2 0 42 rfl) ?_
          refine ea_iload (pc := 96) dX12_comesTo_96 3 rfl ?_
          refine ea_iconst (pc := 98) dX12_comesTo_98 (v := 1) rfl ?_
          refine ea_isub (pc := 99) dX12_comesTo_99 ?_
          refine ea_dup2 (pc := 100) dX12_comesTo_100 rfl rfl ?_
          obtain ⟨z14, E⟩ := gd_some E
          refine ea_iald (pc := 101) dX12_comesTo_101 (hs.1 37 (by decide)).1 (hs.1 37 (by decide)).2.1 (ea_vpl (hs.1 37 (by decide)).2.2 z14) ?_
          refine ea_iload (pc := 102) dX12_comesTo_102 6 rfl ?_
          obtain ⟨z15, E⟩ := gd_some E
          refine ea_idiv (pc := 104) dX12_comesTo_104 z15 ?_
          obtain ⟨z16, E⟩ := gd_some E
          refine ea_iast (pc := 105) dX12_comesTo_105 (hs.1 37 (by decide)).1 (hs.1 37 (by decide)).2.1 (ea_vpl (hs.1 37 (by decide)).2.2 z16) ?_
          have hs17 : ShM b0 (ea_wi h (b0 + 37) (Int32.toNatClampNeg (x4 - (1 : Int32))) ((ea_i h (b0 + 37) (Int32.toNatClampNeg (x4 - (1 : Int32)))) / (ea_i h (b0 + 32) (Int32.toNatClampNeg ((((1220 : Int32) * x1) + ((2 : Int32) * x5)) + (1 : Int32)))))) := ShM_wi hs
          obtain ⟨H18, eH18, E⟩ := let_some E
          refine ea_nm eH18 ?_
          have hsH18 : ShM b0 H18 := by rw [eH18]; exact hs17
          refine ea_goto (pc := 106) (tgt := 172) dX12_comesTo_106 rfl ?_
          refine ea_iinc (pc := 172) (v := 1) (lv' := [(0, vR (some (b0 + 0))), (1, vI x1), (3, vI x3), (4, vI x4), (5, vI (x5 + (1 : Int32)))]) dX12_comesTo_172 4 rfl rfl (Nat.le_of_ble_eq_true rfl) [1, 2, 3, 4, 0] rfl ?_
          refine ea_goto (pc := 175) (tgt := 6) dX12_comesTo_175 rfl ?_
          exact ((ih 6 (x1 : Int32) 0 (x3 : Int32) (x4 : Int32) ((x5 + (1 : Int32)) : Int32) H18 _ _ E hsH18).2 rfl)
      · have E := (if_neg c28).symm.trans E
        refine ea_aload_n (pc := 55) dX12_comesTo_55 rfl 0 rfl ?_
        refine ea_getR (pc := 56) dX12_comesTo_56 ec_12 (k := 42) (Nat.le_of_ble_eq_true rfl) rfl (Or.inl ew_1387) (hs.1 0 (by decide)).1 (hs.1 0 (by decide)).2.1 (hs.2 0 42 rfl) ?_
        refine ea_iload (pc := 59) dX12_comesTo_59 3 rfl ?_
        refine ea_iload (pc := 61) dX12_comesTo_61 5 rfl ?_
        refine ea_if_ne (pc := 63) (tgt := 71) dX12_comesTo_63 rfl (fun c27 => ?_) (fun c27 => ?_)
        · have E := (if_neg c27).symm.trans E
          refine ea_aload_n (pc := 71) dX12_comesTo_71 rfl 0 rfl ?_
          refine ea_getR (pc := 72) dX12_comesTo_72 ec_12 (k := 91) (Nat.le_of_ble_eq_true rfl) rfl (Or.inl ew_1436) (hs.1 0 (by decide)).1 (hs.1 0 (by decide)).2.1 (hs.2 0 91 rfl) ?_
          refine ea_iload (pc := 75) dX12_comesTo_75 5 rfl ?_
          obtain ⟨z20, E⟩ := gd_some E
          refine ea_iald (pc := 77) dX12_comesTo_77 (hs.1 65 (by decide)).1 (hs.1 65 (by decide)).2.1 (ea_vpl (hs.1 65 (by decide)).2.2 z20) ?_
          obtain ⟨z21, E⟩ := gd_some E
          refine ea_iast (pc := 78) dX12_comesTo_78 (hs.1 37 (by decide)).1 (hs.1 37 (by decide)).2.1 (ea_vpl (hs.1 37 (by decide)).2.2 z21) ?_
          have hs22 : ShM b0 (ea_wi h (b0 + 37) (Int32.toNatClampNeg x4) (ea_i h (b0 + 65) (Int32.toNatClampNeg (ea_i h (b0 + 32) (Int32.toNatClampNeg (((1220 : Int32) * x1) + ((2 : Int32) * x5))))))) := ShM_wi hs
          obtain ⟨H23, eH23, E⟩ := let_some E
          refine ea_nm eH23 ?_
          have hsH23 : ShM b0 H23 := by rw [eH23]; exact hs22
          refine ea_iinc (pc := 79) (v := 1) (lv' := [(0, vR (some (b0 + 0))), (1, vI x1), (3, vI x3), (4, vI (x4 + (1 : Int32))), (5, vI x5)]) dX12_comesTo_79 3 rfl rfl (Nat.le_of_ble_eq_true rfl) [1, 2, 3, 0, 4] rfl ?_
          refine ea_goto (pc := 82) (tgt := 172) dX12_comesTo_82 rfl ?_
          refine ea_iinc (pc := 172) (v := 1) (lv' := [(0, vR (some (b0 + 0))), (1, vI x1), (3, vI x3), (4, vI (x4 + (1 : Int32))), (5, vI (x5 + (1 : Int32)))]) dX12_comesTo_172 4 rfl rfl (Nat.le_of_ble_eq_true rfl) [1, 2, 3, 4, 0] rfl ?_
          refine ea_goto (pc := 175) (tgt := 6) dX12_comesTo_175 rfl ?_
          exact ((ih 6 (x1 : Int32) 0 (x3 : Int32) ((x4 + (1 : Int32)) : Int32) ((x5 + (1 : Int32)) : Int32) H23 _ _ E hsH23).2 rfl)
        · have E := (if_pos c27).symm.trans E
          refine ea_iload (pc := 66) dX12_comesTo_66 6 rfl ?_
          refine ea_goto (pc := 68) (tgt := 78) dX12_comesTo_68 rfl ?_
          obtain ⟨z24, E⟩ := gd_some E
          refine ea_iast (pc := 78) dX12_comesTo_78 (hs.1 37 (by decide)).1 (hs.1 37 (by decide)).2.1 (ea_vpl (hs.1 37 (by decide)).2.2 z24) ?_
          have hs25 : ShM b0 (ea_wi h (b0 + 37) (Int32.toNatClampNeg x4) (ea_i h (b0 + 32) (Int32.toNatClampNeg ((((1220 : Int32) * x1) + ((2 : Int32) * x5)) + (1 : Int32))))) := ShM_wi hs
          obtain ⟨H26, eH26, E⟩ := let_some E
          refine ea_nm eH26 ?_
          have hsH26 : ShM b0 H26 := by rw [eH26]; exact hs25
          refine ea_iinc (pc := 79) (v := 1) (lv' := [(0, vR (some (b0 + 0))), (1, vI x1), (3, vI x3), (4, vI (x4 + (1 : Int32))), (5, vI x5)]) dX12_comesTo_79 3 rfl rfl (Nat.le_of_ble_eq_true rfl) [1, 2, 3, 0, 4] rfl ?_
          refine ea_goto (pc := 82) (tgt := 172) dX12_comesTo_82 rfl ?_
          refine ea_iinc (pc := 172) (v := 1) (lv' := [(0, vR (some (b0 + 0))), (1, vI x1), (3, vI x3), (4, vI (x4 + (1 : Int32))), (5, vI (x5 + (1 : Int32)))]) dX12_comesTo_172 4 rfl rfl (Nat.le_of_ble_eq_true rfl) [1, 2, 3, 4, 0] rfl ?_
          refine ea_goto (pc := 175) (tgt := 6) dX12_comesTo_175 rfl ?_
          exact ((ih 6 (x1 : Int32) 0 (x3 : Int32) ((x4 + (1 : Int32)) : Int32) ((x5 + (1 : Int32)) : Int32) H26 _ _ E hsH26).2 rfl)
noncomputable def qX12_comesTo (b0 : Nat) (x1 : Int32) (x2 : Int32) (x3 : Int32) (h : ea_H) : Option (Int32 × ea_H) := gX12_comesTo b0 1000000000 0 x1 x2 x3 0 0 h
def okX12_comesTo (b0 : Nat) (x1 : Int32) (x2 : Int32) (x3 : Int32) (h : ea_H) : Prop := ∃ x, qX12_comesTo b0 x1 x2 x3 h = some x
noncomputable def vX12_comesTo (b0 : Nat) (x1 : Int32) (x2 : Int32) (x3 : Int32) (h : ea_H) : Int32 := ((qX12_comesTo b0 x1 x2 x3 h).getD (0, h)).1
noncomputable def wX12_comesTo (b0 : Nat) (x1 : Int32) (x2 : Int32) (x3 : Int32) (h : ea_H) : ea_H := ((qX12_comesTo b0 x1 x2 x3 h).getD (0, h)).2
theorem sX12_comesTo {d : Nat} {b0 : Nat} {x1 : Int32} {x2 : Int32} {x3 : Int32} {h : ea_H} (hd : 2 ≤ d) (hs : ShM b0 h) (K : okX12_comesTo b0 x1 x2 x3 h) : ea_Met mX12_comesTo d [vR (some (b0 + 0)), vI x1, vI x2, vI x3] h (some (vI (vX12_comesTo b0 x1 x2 x3 h))) (wX12_comesTo b0 x1 x2 x3 h) := by
  obtain ⟨⟨x, y⟩, K⟩ := K
  unfold wX12_comesTo vX12_comesTo
  rw [K]
  unfold qX12_comesTo at K
  exact ea_enter rfl (Nat.le_of_ble_eq_true rfl) ((tX12_comesTo hd 1000000000 0 x1 x2 x3 0 0 h x y K hs).1 rfl)
theorem zX12_comesTo {b0 : Nat} : ∀ (f lbl : Nat) (x1 : Int32) (x2 : Int32) (x3 : Int32) (x4 : Int32) (x5 : Int32) (h : ea_H) (r : Int32) (h' : ea_H), gX12_comesTo b0 f lbl x1 x2 x3 x4 x5 h = some (r, h') → ShM b0 h → ShM b0 h' := by
  intro f
  induction f with
  | zero => intro lbl x1 x2 x3 x4 x5 h r h' E; cases E
  | succ f ih =>
    intro lbl x1 x2 x3 x4 x5 h r h' E hs
    unfold gX12_comesTo at E
    by_cases el0 : lbl = 0
    · have E := (if_pos el0).symm.trans E
      exact ih 6 (x1 : Int32) 0 (x3 : Int32) (0 : Int32) (x2 : Int32) h _ _ E hs
    have E := (if_neg el0).symm.trans E
    by_cases el1 : lbl = 6
    · have E := (if_pos el1).symm.trans E
      by_cases c29 : x3 ≤ x5
      · have E := (if_pos c29).symm.trans E
        exact ea_shO E hs
      have E := (if_neg c29).symm.trans E
      obtain ⟨z1, E⟩ := gd_some E
      obtain ⟨z2, E⟩ := gd_some E
      by_cases c28 : (8 : Int32) ≤ (ea_i h (b0 + 32) (Int32.toNatClampNeg (((1220 : Int32) * x1) + ((2 : Int32) * x5))))
      · have E := (if_pos c28).symm.trans E
        by_cases c19 : (ea_i h (b0 + 32) (Int32.toNatClampNeg (((1220 : Int32) * x1) + ((2 : Int32) * x5)))) = (11 : Int32)
        · have E := (if_pos c19).symm.trans E
          obtain ⟨z14, E⟩ := gd_some E
          obtain ⟨z15, E⟩ := gd_some E
          obtain ⟨z16, E⟩ := gd_some E
          obtain ⟨H18, eH18, E⟩ := let_some E
          have hsH18 : ShM b0 H18 := by rw [eH18]; exact (ShM_wi hs)
          exact ih 6 (x1 : Int32) 0 (x3 : Int32) (x4 : Int32) ((x5 + (1 : Int32)) : Int32) H18 _ _ E hsH18
        have E := (if_neg c19).symm.trans E
        by_cases c13 : (ea_i h (b0 + 32) (Int32.toNatClampNeg (((1220 : Int32) * x1) + ((2 : Int32) * x5)))) = (15 : Int32)
        · have E := (if_pos c13).symm.trans E
          obtain ⟨z9, E⟩ := gd_some E
          obtain ⟨z10, E⟩ := gd_some E
          obtain ⟨H12, eH12, E⟩ := let_some E
          have hsH12 : ShM b0 H12 := by rw [eH12]; exact (ShM_wi hs)
          exact ih 6 (x1 : Int32) 0 (x3 : Int32) (x4 : Int32) ((x5 + (1 : Int32)) : Int32) H12 _ _ E hsH12
        have E := (if_neg c13).symm.trans E
        obtain ⟨z3, E⟩ := gd_some E
        obtain ⟨z4, E⟩ := gd_some E
        obtain ⟨z6, E⟩ := gd_some E
        obtain ⟨H8, eH8, E⟩ := let_some E
        have hsH8 : ShM b0 H8 := by rw [eH8]; exact (ShM_wi hs)
        exact ih 6 (x1 : Int32) 0 (x3 : Int32) ((x4 + ((-1) : Int32)) : Int32) ((x5 + (1 : Int32)) : Int32) H8 _ _ E hsH8
      have E := (if_neg c28).symm.trans E
      by_cases c27 : (ea_i h (b0 + 32) (Int32.toNatClampNeg (((1220 : Int32) * x1) + ((2 : Int32) * x5)))) = (0 : Int32)
      · have E := (if_pos c27).symm.trans E
        obtain ⟨z24, E⟩ := gd_some E
        obtain ⟨H26, eH26, E⟩ := let_some E
        have hsH26 : ShM b0 H26 := by rw [eH26]; exact (ShM_wi hs)
        exact ih 6 (x1 : Int32) 0 (x3 : Int32) ((x4 + (1 : Int32)) : Int32) ((x5 + (1 : Int32)) : Int32) H26 _ _ E hsH26
      have E := (if_neg c27).symm.trans E
      obtain ⟨z20, E⟩ := gd_some E
      obtain ⟨z21, E⟩ := gd_some E
      obtain ⟨H23, eH23, E⟩ := let_some E
      have hsH23 : ShM b0 H23 := by rw [eH23]; exact (ShM_wi hs)
      exact ih 6 (x1 : Int32) 0 (x3 : Int32) ((x4 + (1 : Int32)) : Int32) ((x5 + (1 : Int32)) : Int32) H23 _ _ E hsH23
    have E := (if_neg el1).symm.trans E
    cases E
theorem shX12_comesTo {b0 : Nat} {x1 : Int32} {x2 : Int32} {x3 : Int32} {h : ea_H} (hs : ShM b0 h) : ShM b0 (wX12_comesTo b0 x1 x2 x3 h) := by
  unfold wX12_comesTo
  cases K : qX12_comesTo b0 x1 x2 x3 h with
  | none => exact hs
  | some x => obtain ⟨x, y⟩ := x; unfold qX12_comesTo at K; exact zX12_comesTo _ _ _ _ _ _ _ _ _ _ K hs
noncomputable def gX12_lineOf (b0 : Nat) : Nat → Nat → Int32 → Int32 → Int32 → ea_H → Option (Int32 × ea_H)
  | 0, _, _, _, _, _ => none
  | f + 1, lbl, x1, x2, x3, h =>
    if lbl = 0 then (gd ((okX12_gathers b0 (x1 : Int32) h)) (ea_let (wX12_gathers b0 (x1 : Int32) h) fun H3 => (gX12_lineOf b0 f 7 0 (x2 : Int32) (0 : Int32) H3))) else
    if lbl = 7 then (gd (vp_in x2 6) (if (ea_i h (b0 + 29) (Int32.toNatClampNeg x2)) ≤ x3 then (some (((-1) : Int32), h)) else (gd (vp_in (((24 : Int32) * x2) + x3) 144) (gd (vp_in ((((25 : Int32) * x2) + x3) + (1 : Int32)) 150) (if (ea_i h (b0 + 31) (Int32.toNatClampNeg (((24 : Int32) * x2) + x3))) = (ea_i h (b0 + 30) (Int32.toNatClampNeg ((((25 : Int32) * x2) + x3) + (1 : Int32)))) then (some (x3, h)) else (gd ((okX12_comesTo b0 (x2 : Int32) ((ea_i h (b0 + 31) (Int32.toNatClampNeg (((24 : Int32) * x2) + x3))) : Int32) ((ea_i h (b0 + 30) (Int32.toNatClampNeg ((((25 : Int32) * x2) + x3) + (1 : Int32)))) : Int32) h)) (ea_let (wX12_comesTo b0 (x2 : Int32) ((ea_i h (b0 + 31) (Int32.toNatClampNeg (((24 : Int32) * x2) + x3))) : Int32) ((ea_i h (b0 + 30) (Int32.toNatClampNeg ((((25 : Int32) * x2) + x3) + (1 : Int32)))) : Int32) h) fun H9 => (if (vX12_comesTo b0 (x2 : Int32) ((ea_i h (b0 + 31) (Int32.toNatClampNeg (((24 : Int32) * x2) + x3))) : Int32) ((ea_i h (b0 + 30) (Int32.toNatClampNeg ((((25 : Int32) * x2) + x3) + (1 : Int32)))) : Int32) h) = (1 : Int32) then (some (x3, H9)) else (gX12_lineOf b0 f 7 0 (x2 : Int32) ((x3 + (1 : Int32)) : Int32) H9))))))))) else none
theorem tX12_lineOf {d : Nat} {b0 : Nat} {h0 : ea_H} (hd : 3 ≤ d) : ∀ (f lbl : Nat) (x1 : Int32) (x2 : Int32) (x3 : Int32) (h : ea_H) (r : Int32) (h' : ea_H), gX12_lineOf b0 f lbl x1 x2 x3 h = some (r, h') → ShM b0 h → (lbl = 0 → ea_W mX12_lineOf d h0 (some (vI r)) h' 0 [(0, vR (some (b0 + 0))), (1, vI x1), (2, vI x2)] [] h) ∧ (lbl = 7 → ea_W mX12_lineOf d h0 (some (vI r)) h' 7 [(0, vR (some (b0 + 0))), (2, vI x2), (3, vI x3)] [] h) := by
  intro f
  induction f with
  | zero => intro lbl x1 x2 x3 h r h' E; cases E
  | succ f ih =>
    intro lbl x1 x2 x3 h r h' E hs
    unfold gX12_lineOf at E
    refine ⟨?_, ?_⟩
    · intro el
      subst el
      have E := (if_pos rfl).symm.trans E
      refine ea_aload_n (pc := 0) dX12_lineOf_0 rfl 0 rfl ?_
      refine ea_iload_n (pc := 1) dX12_lineOf_1 rfl 1 rfl ?_
      obtain ⟨z1, E⟩ := gd_some E
      refine ea_callV (pc := 2) (d' := d - 1) (As := [vI x1]) (st := []) dX12_lineOf_2 kX12_gathers (sX12_gathers (d := d - 1) (by omega) hs z1) (by omega) rfl (Nat.le_of_ble_eq_true rfl) ew_1999 ew_2001 ew_86 (ci := 12) rfl (by decide) (hs.1 0 (by decide)).1 (hs.1 0 (by decide)).2.1 ?_
      have hs2 : ShM b0 (wX12_gathers b0 (x1 : Int32) h) := shX12_gathers hs
      obtain ⟨H3, eH3, E⟩ := let_some E
      refine ea_nm eH3 ?_
      have hsH3 : ShM b0 H3 := by rw [eH3]; exact hs2
      refine ea_iconst (pc := 5) dX12_lineOf_5 (v := 0) rfl ?_
      refine ea_istore_n (pc := 6) (lv' := [(0, vR (some (b0 + 0))), (2, vI x2), (3, vI 0)]) dX12_lineOf_6 rfl (Nat.le_of_ble_eq_true rfl) [1, 3, 0] rfl ?_
      exact ((ih 7 0 (x2 : Int32) (0 : Int32) H3 _ _ E hsH3).2 rfl)
    intro el
    subst el
    have E := (if_neg (by decide)).symm.trans E
    have E := (if_pos rfl).symm.trans E
    refine ea_iload_n (pc := 7) dX12_lineOf_7 rfl 2 rfl ?_
    refine ea_aload_n (pc := 8) dX12_lineOf_8 rfl 0 rfl ?_
    refine ea_getR (pc := 9) dX12_lineOf_9 ec_12 (k := 34) (Nat.le_of_ble_eq_true rfl) rfl (Or.inl ew_1379) (hs.1 0 (by decide)).1 (hs.1 0 (by decide)).2.1 (hs.2 0 34 rfl) ?_
    refine ea_iload_n (pc := 12) dX12_lineOf_12 rfl 1 rfl ?_
    obtain ⟨z4, E⟩ := gd_some E
    refine ea_iald (pc := 13) dX12_lineOf_13 (hs.1 29 (by decide)).1 (hs.1 29 (by decide)).2.1 (ea_vpl (hs.1 29 (by decide)).2.2 z4) ?_
    refine ea_icmp_ge (pc := 14) (tgt := 73) dX12_lineOf_14 rfl (fun c12 => ?_) (fun c12 => ?_)
    · have E := (if_pos c12).symm.trans E
      refine ea_iconst (pc := 73) dX12_lineOf_73 (v := (-1)) rfl ?_
      exact ea_iretO (pc := 74) dX12_lineOf_74 rfl rfl E
    · have E := (if_neg c12).symm.trans E
      refine ea_aload_n (pc := 17) dX12_lineOf_17 rfl 0 rfl ?_
      refine ea_getR (pc := 18) dX12_lineOf_18 ec_12 (k := 36) (Nat.le_of_ble_eq_true rfl) rfl (Or.inl ew_1381) (hs.1 0 (by decide)).1 (hs.1 0 (by decide)).2.1 (hs.2 0 36 rfl) ?_
      refine ea_bipush (pc := 21) dX12_lineOf_21 (v := 24) rfl ?_
      refine ea_iload_n (pc := 23) dX12_lineOf_23 rfl 1 rfl ?_
      refine ea_imul (pc := 24) dX12_lineOf_24 ?_
      refine ea_iload_n (pc := 25) dX12_lineOf_25 rfl 2 rfl ?_
      refine ea_iadd (pc := 26) dX12_lineOf_26 ?_
      obtain ⟨z5, E⟩ := gd_some E
      refine ea_iald (pc := 27) dX12_lineOf_27 (hs.1 31 (by decide)).1 (hs.1 31 (by decide)).2.1 (ea_vpl (hs.1 31 (by decide)).2.2 z5) ?_
      refine ea_istore (pc := 28) (lv' := [(0, vR (some (b0 + 0))), (2, vI x2), (3, vI x3), (4, vI (ea_i h (b0 + 31) (Int32.toNatClampNeg (((24 : Int32) * x2) + x3))))]) dX12_lineOf_28 (Nat.le_of_ble_eq_true rfl) [1, 2, 3, 0] rfl ?_
      refine ea_aload_n (pc := 30) dX12_lineOf_30 rfl 0 rfl ?_
      refine ea_getR (pc := 31) dX12_lineOf_31 ec_12 (k := 35) (Nat.le_of_ble_eq_true rfl) rfl (Or.inl ew_1380) (hs.1 0 (by decide)).1 (hs.1 0 (by decide)).2.1 (hs.2 0 35 rfl) ?_
      refine ea_bipush (pc := 34) dX12_lineOf_34 (v := 25) rfl ?_
      refine ea_iload_n (pc := 36) dX12_lineOf_36 rfl 1 rfl ?_
      refine ea_imul (pc := 37) dX12_lineOf_37 ?_
      refine ea_iload_n (pc := 38) dX12_lineOf_38 rfl 2 rfl ?_
      refine ea_iadd (pc := 39) dX12_lineOf_39 ?_
      refine ea_iconst (pc := 40) dX12_lineOf_40 (v := 1) rfl ?_
      refine ea_iadd (pc := 41) dX12_lineOf_41 ?_
      obtain ⟨z6, E⟩ := gd_some E
      refine ea_iald (pc := 42) dX12_lineOf_42 (hs.1 30 (by decide)).1 (hs.1 30 (by decide)).2.1 (ea_vpl (hs.1 30 (by decide)).2.2 z6) ?_
      refine ea_istore (pc := 43) (lv' := [(0, vR (some (b0 + 0))), (2, vI x2), (3, vI x3), (4, vI (ea_i h (b0 + 31) (Int32.toNatClampNeg (((24 : Int32) * x2) + x3)))), (5, vI (ea_i h (b0 + 30) (Int32.toNatClampNeg ((((25 : Int32) * x2) + x3) + (1 : Int32)))))]) dX12_lineOf_43 (Nat.le_of_ble_eq_true rfl) [1, 2, 3, 4, 0] rfl ?_
      refine ea_iload (pc := 45) dX12_lineOf_45 3 rfl ?_
      refine ea_iload (pc := 47) dX12_lineOf_47 4 rfl ?_
      refine ea_icmp_eq (pc := 49) (tgt := 65) dX12_lineOf_49 rfl (fun c11 => ?_) (fun c11 => ?_)
      · have E := (if_pos c11).symm.trans E
        refine ea_iload_n (pc := 65) dX12_lineOf_65 rfl 2 rfl ?_
        exact ea_iretO (pc := 66) dX12_lineOf_66 rfl rfl E
      · have E := (if_neg c11).symm.trans E
        refine ea_aload_n (pc := 52) dX12_lineOf_52 rfl 0 rfl ?_
        refine ea_iload_n (pc := 53) dX12_lineOf_53 rfl 1 rfl ?_
        refine ea_iload (pc := 54) dX12_lineOf_54 3 rfl ?_
        refine ea_iload (pc := 56) dX12_lineOf_56 4 rfl ?_
        obtain ⟨z7, E⟩ := gd_some E
        refine ea_callV (pc := 58) (d' := d - 1) (As := [vI x2, vI (ea_i h (b0 + 31) (Int32.toNatClampNeg (((24 : Int32) * x2) + x3))), vI (ea_i h (b0 + 30) (Int32.toNatClampNeg ((((25 : Int32) * x2) + x3) + (1 : Int32))))]) (st := []) dX12_lineOf_58 kX12_comesTo (sX12_comesTo (d := d - 1) (by omega) hs z7) (by omega) rfl (Nat.le_of_ble_eq_true rfl) ew_2003 ew_2005 ew_87 (ci := 12) rfl (by decide) (hs.1 0 (by decide)).1 (hs.1 0 (by decide)).2.1 ?_
        have hs8 : ShM b0 (wX12_comesTo b0 (x2 : Int32) ((ea_i h (b0 + 31) (Int32.toNatClampNeg (((24 : Int32) * x2) + x3))) : Int32) ((ea_i h (b0 + 30) (Int32.toNatClampNeg ((((25 : Int32) * x2) + x3) + (1 : Int32)))) : Int32) h) := shX12_comesTo hs
        obtain ⟨H9, eH9, E⟩ := let_some E
        refine ea_nm eH9 ?_
        have hsH9 : ShM b0 H9 := by rw [eH9]; exact hs8
        refine ea_iconst (pc := 61) dX12_lineOf_61 (v := 1) rfl ?_
        refine ea_icmp_ne (pc := 62) (tgt := 67) dX12_lineOf_62 rfl (fun c10 => ?_) (fun c10 => ?_)
        · have E := (if_neg c10).symm.trans E
          refine ea_iinc (pc := 67) (v := 1) (lv' := [(0, vR (some (b0 + 0))), (2, vI x2), (3, vI (x3 + (1 : Int32)))]) dX12_lineOf_67 2 rfl rfl (Nat.le_of_ble_eq_true rfl) [1, 2, 0] rfl ?_
          refine ea_goto (pc := 70) (tgt := 7) dX12_lineOf_70 rfl ?_
          exact ((ih 7 0 (x2 : Int32) ((x3 + (1 : Int32)) : Int32) H9 _ _ E hsH9).2 rfl)
        · have E := (if_pos c10).symm.trans E
          refine ea_iload_n (pc := 65) dX12_lineOf_65 rfl 2 rfl ?_
          exact ea_iretO (pc := 66) dX12_lineOf_66 rfl rfl E
noncomputable def qX12_lineOf (b0 : Nat) (x1 : Int32) (x2 : Int32) (h : ea_H) : Option (Int32 × ea_H) := gX12_lineOf b0 1000000000 0 x1 x2 0 h
def okX12_lineOf (b0 : Nat) (x1 : Int32) (x2 : Int32) (h : ea_H) : Prop := ∃ x, qX12_lineOf b0 x1 x2 h = some x
noncomputable def vX12_lineOf (b0 : Nat) (x1 : Int32) (x2 : Int32) (h : ea_H) : Int32 := ((qX12_lineOf b0 x1 x2 h).getD (0, h)).1
noncomputable def wX12_lineOf (b0 : Nat) (x1 : Int32) (x2 : Int32) (h : ea_H) : ea_H := ((qX12_lineOf b0 x1 x2 h).getD (0, h)).2
theorem sX12_lineOf {d : Nat} {b0 : Nat} {x1 : Int32} {x2 : Int32} {h : ea_H} (hd : 3 ≤ d) (hs : ShM b0 h) (K : okX12_lineOf b0 x1 x2 h) : ea_Met mX12_lineOf d [vR (some (b0 + 0)), vI x1, vI x2] h (some (vI (vX12_lineOf b0 x1 x2 h))) (wX12_lineOf b0 x1 x2 h) := by
  obtain ⟨⟨x, y⟩, K⟩ := K
  unfold wX12_lineOf vX12_lineOf
  rw [K]
  unfold qX12_lineOf at K
  exact ea_enter rfl (Nat.le_of_ble_eq_true rfl) ((tX12_lineOf hd 1000000000 0 x1 x2 0 h x y K hs).1 rfl)
theorem zX12_lineOf {b0 : Nat} : ∀ (f lbl : Nat) (x1 : Int32) (x2 : Int32) (x3 : Int32) (h : ea_H) (r : Int32) (h' : ea_H), gX12_lineOf b0 f lbl x1 x2 x3 h = some (r, h') → ShM b0 h → ShM b0 h' := by
  intro f
  induction f with
  | zero => intro lbl x1 x2 x3 h r h' E; cases E
  | succ f ih =>
    intro lbl x1 x2 x3 h r h' E hs
    unfold gX12_lineOf at E
    by_cases el0 : lbl = 0
    · have E := (if_pos el0).symm.trans E
      obtain ⟨z1, E⟩ := gd_some E
      obtain ⟨H3, eH3, E⟩ := let_some E
      have hsH3 : ShM b0 H3 := by rw [eH3]; exact (shX12_gathers hs)
      exact ih 7 0 (x2 : Int32) (0 : Int32) H3 _ _ E hsH3
    have E := (if_neg el0).symm.trans E
    by_cases el1 : lbl = 7
    · have E := (if_pos el1).symm.trans E
      obtain ⟨z4, E⟩ := gd_some E
      by_cases c12 : (ea_i h (b0 + 29) (Int32.toNatClampNeg x2)) ≤ x3
      · have E := (if_pos c12).symm.trans E
        exact ea_shO E hs
      have E := (if_neg c12).symm.trans E
      obtain ⟨z5, E⟩ := gd_some E
      obtain ⟨z6, E⟩ := gd_some E
      by_cases c11 : (ea_i h (b0 + 31) (Int32.toNatClampNeg (((24 : Int32) * x2) + x3))) = (ea_i h (b0 + 30) (Int32.toNatClampNeg ((((25 : Int32) * x2) + x3) + (1 : Int32))))
      · have E := (if_pos c11).symm.trans E
        exact ea_shO E hs
      have E := (if_neg c11).symm.trans E
      obtain ⟨z7, E⟩ := gd_some E
      obtain ⟨H9, eH9, E⟩ := let_some E
      have hsH9 : ShM b0 H9 := by rw [eH9]; exact (shX12_comesTo hs)
      by_cases c10 : (vX12_comesTo b0 (x2 : Int32) ((ea_i h (b0 + 31) (Int32.toNatClampNeg (((24 : Int32) * x2) + x3))) : Int32) ((ea_i h (b0 + 30) (Int32.toNatClampNeg ((((25 : Int32) * x2) + x3) + (1 : Int32)))) : Int32) h) = (1 : Int32)
      · have E := (if_pos c10).symm.trans E
        exact ea_shO E hsH9
      have E := (if_neg c10).symm.trans E
      exact ih 7 0 (x2 : Int32) ((x3 + (1 : Int32)) : Int32) H9 _ _ E hsH9
    have E := (if_neg el1).symm.trans E
    cases E
theorem shX12_lineOf {b0 : Nat} {x1 : Int32} {x2 : Int32} {h : ea_H} (hs : ShM b0 h) : ShM b0 (wX12_lineOf b0 x1 x2 h) := by
  unfold wX12_lineOf
  cases K : qX12_lineOf b0 x1 x2 h with
  | none => exact hs
  | some x => obtain ⟨x, y⟩ := x; unfold qX12_lineOf at K; exact zX12_lineOf _ _ _ _ _ _ _ _ K hs
noncomputable def gX12_chargeBy (b0 : Nat) : Nat → Nat → Int32 → Int32 → Int32 → Int32 → ea_H → Option (Int32 × ea_H)
  | 0, _, _, _, _, _, _ => none
  | f + 1, lbl, sx0, x1, x2, x4, h =>
    if lbl = 0 then (gd ((okX12_isFree b0 (x1 : Int32) (x2 : Int32) h)) (if (vX12_isFree b0 (x1 : Int32) (x2 : Int32) h) = (0 : Int32) then (gd ((okX12_lineOf b0 (x1 : Int32) (x2 : Int32) h)) (ea_let (wX12_lineOf b0 (x1 : Int32) (x2 : Int32) h) fun H4 => (if (vX12_lineOf b0 (x1 : Int32) (x2 : Int32) h) = ((-1) : Int32) then (gX12_chargeBy b0 f 54 (0 : Int32) (x1 : Int32) (x2 : Int32) 0 H4) else (gd (vp_in (((25 : Int32) * x2) + (vX12_lineOf b0 (x1 : Int32) (x2 : Int32) h)) 150) (gd (vp_in (((24 : Int32) * x2) + (vX12_lineOf b0 (x1 : Int32) (x2 : Int32) h)) 144) (gd ((okX12_comesTo b0 (x2 : Int32) ((ea_i H4 (b0 + 30) (Int32.toNatClampNeg (((25 : Int32) * x2) + (vX12_lineOf b0 (x1 : Int32) (x2 : Int32) h)))) : Int32) ((ea_i H4 (b0 + 31) (Int32.toNatClampNeg (((24 : Int32) * x2) + (vX12_lineOf b0 (x1 : Int32) (x2 : Int32) h)))) : Int32) H4)) (ea_let (wX12_comesTo b0 (x2 : Int32) ((ea_i H4 (b0 + 30) (Int32.toNatClampNeg (((25 : Int32) * x2) + (vX12_lineOf b0 (x1 : Int32) (x2 : Int32) h)))) : Int32) ((ea_i H4 (b0 + 31) (Int32.toNatClampNeg (((24 : Int32) * x2) + (vX12_lineOf b0 (x1 : Int32) (x2 : Int32) h)))) : Int32) H4) fun H9 => (gX12_chargeBy b0 f 54 ((vX12_comesTo b0 (x2 : Int32) ((ea_i H4 (b0 + 30) (Int32.toNatClampNeg (((25 : Int32) * x2) + (vX12_lineOf b0 (x1 : Int32) (x2 : Int32) h)))) : Int32) ((ea_i H4 (b0 + 31) (Int32.toNatClampNeg (((24 : Int32) * x2) + (vX12_lineOf b0 (x1 : Int32) (x2 : Int32) h)))) : Int32) H4) : Int32) (x1 : Int32) (x2 : Int32) 0 H9)))))))) else (some ((0 : Int32), h)))) else
    if lbl = 54 then (if (0 : Int32) ≤ sx0 then (if sx0 ≤ (99999 : Int32) then (gX12_chargeBy b0 f 81 (sx0 : Int32) (x1 : Int32) (x2 : Int32) 0 h) else (gX12_chargeBy b0 f 81 (99999 : Int32) (x1 : Int32) (x2 : Int32) 0 h)) else (gX12_chargeBy b0 f 81 (0 : Int32) (x1 : Int32) (x2 : Int32) 0 h)) else
    if lbl = 81 then (gd (vp_in x1 120) (gd (vp_in x2 6) (if ((ea_i h (b0 + 44) (Int32.toNatClampNeg x1)) - (ea_i h (b0 + 44) (Int32.toNatClampNeg x1)) / (1440 : Int32) * (1440 : Int32)) ≤ (ea_i h (b0 + 24) (Int32.toNatClampNeg x2)) then (gX12_chargeBy b0 f 113 0 (x1 : Int32) (x2 : Int32) (sx0 : Int32) h) else (gd (vp_in x2 6) (gX12_chargeBy b0 f 113 0 (x1 : Int32) (x2 : Int32) ((sx0 + (ea_i h (b0 + 23) (Int32.toNatClampNeg x2))) : Int32) h))))) else
    if lbl = 113 then (gd (vp_in x1 120) (if (ea_i h (b0 + 38) (Int32.toNatClampNeg x1)) = (3 : Int32) then (gd (vp_in x2 6) (gX12_chargeBy b0 f 134 0 (x1 : Int32) (x2 : Int32) ((x4 + (ea_i h (b0 + 26) (Int32.toNatClampNeg x2))) : Int32) h)) else (gX12_chargeBy b0 f 134 0 (x1 : Int32) (x2 : Int32) (x4 : Int32) h))) else
    if lbl = 134 then (gd (vp_in x1 120) (if (ea_i h (b0 + 38) (Int32.toNatClampNeg x1)) = (4 : Int32) then (gd (vp_in x2 6) (some ((x4 + (ea_i h (b0 + 27) (Int32.toNatClampNeg x2))), h))) else (some (x4, h)))) else none
theorem tX12_chargeBy {d : Nat} {b0 : Nat} {h0 : ea_H} (hd : 4 ≤ d) : ∀ (f lbl : Nat) (sx0 : Int32) (x1 : Int32) (x2 : Int32) (x4 : Int32) (h : ea_H) (r : Int32) (h' : ea_H), gX12_chargeBy b0 f lbl sx0 x1 x2 x4 h = some (r, h') → ShM b0 h → (lbl = 0 → ea_W mX12_chargeBy d h0 (some (vI r)) h' 0 [(0, vR (some (b0 + 0))), (1, vI x1), (2, vI x2)] [] h) ∧ (lbl = 54 → ea_W mX12_chargeBy d h0 (some (vI r)) h' 54 [(0, vR (some (b0 + 0))), (1, vI x1), (2, vI x2)] [vI sx0] h) ∧ (lbl = 81 → ea_W mX12_chargeBy d h0 (some (vI r)) h' 81 [(0, vR (some (b0 + 0))), (1, vI x1), (2, vI x2)] [vI sx0] h) ∧ (lbl = 113 → ea_W mX12_chargeBy d h0 (some (vI r)) h' 113 [(0, vR (some (b0 + 0))), (1, vI x1), (2, vI x2), (4, vI x4)] [] h) ∧ (lbl = 134 → ea_W mX12_chargeBy d h0 (some (vI r)) h' 134 [(0, vR (some (b0 + 0))), (1, vI x1), (2, vI x2), (4, vI x4)] [] h) := by
  intro f
  induction f with
  | zero => intro lbl sx0 x1 x2 x4 h r h' E; cases E
  | succ f ih =>
    intro lbl sx0 x1 x2 x4 h r h' E hs
    unfold gX12_chargeBy at E
    refine ⟨?_, ?_⟩
    · intro el
      subst el
      have E := (if_pos rfl).symm.trans E
      refine ea_aload_n (pc := 0) dX12_chargeBy_0 rfl 0 rfl ?_
      refine ea_iload_n (pc := 1) dX12_chargeBy_1 rfl 1 rfl ?_
      refine ea_iload_n (pc := 2) dX12_chargeBy_2 rfl 2 rfl ?_
      obtain ⟨z1, E⟩ := gd_some E
      refine ea_callV (pc := 3) (d' := d - 1) (As := [vI x1, vI x2]) (st := []) dX12_chargeBy_3 kX12_isFree (sX12_isFree (d := d - 1) (by omega) hs z1) (by omega) rfl (Nat.le_of_ble_eq_true rfl) ew_1987 ew_1989 ew_83 (ci := 12) rfl (by decide) (hs.1 0 (by decide)).1 (hs.1 0 (by decide)).2.1 ?_
      refine ea_if_eq (pc := 6) (tgt := 11) dX12_chargeBy_6 rfl (fun c11 => ?_) (fun c11 => ?_)
      · have E := (if_pos c11).symm.trans E
        refine ea_aload_n (pc := 11) dX12_chargeBy_11 rfl 0 rfl ?_
        refine ea_iload_n (pc := 12) dX12_chargeBy_12 rfl 1 rfl ?_
        refine ea_iload_n (pc := 13) dX12_chargeBy_13 rfl 2 rfl ?_
        obtain ⟨z2, E⟩ := gd_some E
        refine ea_callV (pc := 14) (d' := d - 1) (As := [vI x1, vI x2]) (st := []) dX12_chargeBy_14 kX12_lineOf (sX12_lineOf (d := d - 1) (by omega) hs z2) (by omega) rfl (Nat.le_of_ble_eq_true rfl) ew_1995 ew_1997 ew_85 (ci := 12) rfl (by decide) (hs.1 0 (by decide)).1 (hs.1 0 (by decide)).2.1 ?_
        have hs3 : ShM b0 (wX12_lineOf b0 (x1 : Int32) (x2 : Int32) h) := shX12_lineOf hs
        obtain ⟨H4, eH4, E⟩ := let_some E
        refine ea_nm eH4 ?_
        have hsH4 : ShM b0 H4 := by rw [eH4]; exact hs3
        refine ea_istore_n (pc := 17) (lv' := [(0, vR (some (b0 + 0))), (1, vI x1), (2, vI x2), (3, vI (vX12_lineOf b0 (x1 : Int32) (x2 : Int32) h))]) dX12_chargeBy_17 rfl (Nat.le_of_ble_eq_true rfl) [1, 2, 3, 0] rfl ?_
        refine ea_iload_n (pc := 18) dX12_chargeBy_18 rfl 3 rfl ?_
        refine ea_iconst (pc := 19) dX12_chargeBy_19 (v := (-1)) rfl ?_
        refine ea_icmp_ne (pc := 20) (tgt := 27) dX12_chargeBy_20 rfl (fun c10 => ?_) (fun c10 => ?_)
        · have E := (if_neg c10).symm.trans E
          refine ea_aload_n (pc := 27) dX12_chargeBy_27 rfl 0 rfl ?_
          refine ea_iload_n (pc := 28) dX12_chargeBy_28 rfl 2 rfl ?_
          refine ea_aload_n (pc := 29) dX12_chargeBy_29 rfl 0 rfl ?_
          refine ea_getR (pc := 30) dX12_chargeBy_30 ec_12 (k := 35) (Nat.le_of_ble_eq_true rfl) rfl (Or.inl ew_1380) (hsH4.1 0 (by decide)).1 (hsH4.1 0 (by decide)).2.1 (hsH4.2 0 35 rfl) ?_
          refine ea_bipush (pc := 33) dX12_chargeBy_33 (v := 25) rfl ?_
          refine ea_iload_n (pc := 35) dX12_chargeBy_35 rfl 2 rfl ?_
          refine ea_imul (pc := 36) dX12_chargeBy_36 ?_
          refine ea_iload_n (pc := 37) dX12_chargeBy_37 rfl 3 rfl ?_
          refine ea_iadd (pc := 38) dX12_chargeBy_38 ?_
          obtain ⟨z5, E⟩ := gd_some E
          refine ea_iald (pc := 39) dX12_chargeBy_39 (hsH4.1 30 (by decide)).1 (hsH4.1 30 (by decide)).2.1 (ea_vpl (hsH4.1 30 (by decide)).2.2 z5) ?_
          refine ea_aload_n (pc := 40) dX12_chargeBy_40 rfl 0 rfl ?_
          refine ea_getR (pc := 41) dX12_chargeBy_41 ec_12 (k := 36) (Nat.le_of_ble_eq_true rfl) rfl (Or.inl ew_1381) (hsH4.1 0 (by decide)).1 (hsH4.1 0 (by decide)).2.1 (hsH4.2 0 36 rfl) ?_
          refine ea_bipush (pc := 44) dX12_chargeBy_44 (v := 24) rfl ?_
          refine ea_iload_n (pc := 46) dX12_chargeBy_46 rfl 2 rfl ?_
          refine ea_imul (pc := 47) dX12_chargeBy_47 ?_
          refine ea_iload_n (pc := 48) dX12_chargeBy_48 rfl 3 rfl ?_
          refine ea_iadd (pc := 49) dX12_chargeBy_49 ?_
          obtain ⟨z6, E⟩ := gd_some E
          refine ea_iald (pc := 50) dX12_chargeBy_50 (hsH4.1 31 (by decide)).1 (hsH4.1 31 (by decide)).2.1 (ea_vpl (hsH4.1 31 (by decide)).2.2 z6) ?_
          obtain ⟨z7, E⟩ := gd_some E
          refine ea_callV (pc := 51) (d' := d - 1) (As := [vI x2, vI (ea_i H4 (b0 + 30) (Int32.toNatClampNeg (((25 : Int32) * x2) + (vX12_lineOf b0 (x1 : Int32) (x2 : Int32) h)))), vI (ea_i H4 (b0 + 31) (Int32.toNatClampNeg (((24 : Int32) * x2) + (vX12_lineOf b0 (x1 : Int32) (x2 : Int32) h))))]) (st := []) dX12_chargeBy_51 kX12_comesTo (sX12_comesTo (d := d - 1) (by omega) hsH4 z7) (by omega) rfl (Nat.le_of_ble_eq_true rfl) ew_2003 ew_2005 ew_87 (ci := 12) rfl (by decide) (hsH4.1 0 (by decide)).1 (hsH4.1 0 (by decide)).2.1 ?_
          have hs8 : ShM b0 (wX12_comesTo b0 (x2 : Int32) ((ea_i H4 (b0 + 30) (Int32.toNatClampNeg (((25 : Int32) * x2) + (vX12_lineOf b0 (x1 : Int32) (x2 : Int32) h)))) : Int32) ((ea_i H4 (b0 + 31) (Int32.toNatClampNeg (((24 : Int32) * x2) + (vX12_lineOf b0 (x1 : Int32) (x2 : Int32) h)))) : Int32) H4) := shX12_comesTo hsH4
          obtain ⟨H9, eH9, E⟩ := let_some E
          refine ea_nm eH9 ?_
          have hsH9 : ShM b0 H9 := by rw [eH9]; exact hs8
          exact (ea_fewer [0, 1, 2] rfl ((ih 54 ((vX12_comesTo b0 (x2 : Int32) ((ea_i H4 (b0 + 30) (Int32.toNatClampNeg (((25 : Int32) * x2) + (vX12_lineOf b0 (x1 : Int32) (x2 : Int32) h)))) : Int32) ((ea_i H4 (b0 + 31) (Int32.toNatClampNeg (((24 : Int32) * x2) + (vX12_lineOf b0 (x1 : Int32) (x2 : Int32) h)))) : Int32) H4) : Int32) (x1 : Int32) (x2 : Int32) 0 H9 _ _ E hsH9).2.1 rfl))
        · have E := (if_pos c10).symm.trans E
          refine ea_iconst (pc := 23) dX12_chargeBy_23 (v := 0) rfl ?_
          refine ea_goto (pc := 24) (tgt := 54) dX12_chargeBy_24 rfl ?_
          exact (ea_fewer [0, 1, 2] rfl ((ih 54 (0 : Int32) (x1 : Int32) (x2 : Int32) 0 H4 _ _ E hsH4).2.1 rfl))
      · have E := (if_neg c11).symm.trans E
        refine ea_iconst (pc := 9) dX12_chargeBy_9 (v := 0) rfl ?_
        exact ea_iretO (pc := 10) dX12_chargeBy_10 rfl rfl E
    refine ⟨?_, ?_⟩
    · intro el
      subst el
      have E := (if_neg (by decide)).symm.trans E
      have E := (if_pos rfl).symm.trans E
      refine ea_istore (pc := 54) (lv' := [(0, vR (some (b0 + 0))), (1, vI x1), (2, vI x2), (4, vI sx0)]) dX12_chargeBy_54 (Nat.le_of_ble_eq_true rfl) [1, 2, 3, 0] rfl ?_
      refine ea_iload (pc := 56) dX12_chargeBy_56 3 rfl ?_
      refine ea_if_ge (pc := 58) (tgt := 65) dX12_chargeBy_58 rfl (fun c13 => ?_) (fun c13 => ?_)
      · have E := (if_pos c13).symm.trans E
        refine ea_iload (pc := 65) dX12_chargeBy_65 3 rfl ?_
        refine ea_ldcw (pc := 67) dX12_chargeBy_67 ew_2010 ?_
        refine ea_icmp_le (pc := 70) (tgt := 79) dX12_chargeBy_70 rfl (fun c12 => ?_) (fun c12 => ?_)
        · have E := (if_pos c12).symm.trans E
          refine ea_iload (pc := 79) dX12_chargeBy_79 3 rfl ?_
          exact (ea_fewer [0, 1, 2] rfl ((ih 81 (sx0 : Int32) (x1 : Int32) (x2 : Int32) 0 h _ _ E hs).2.2.1 rfl))
        · have E := (if_neg c12).symm.trans E
          refine ea_ldcw (pc := 73) dX12_chargeBy_73 ew_2010 ?_
          refine ea_goto (pc := 76) (tgt := 81) dX12_chargeBy_76 rfl ?_
          exact (ea_fewer [0, 1, 2] rfl ((ih 81 (99999 : Int32) (x1 : Int32) (x2 : Int32) 0 h _ _ E hs).2.2.1 rfl))
      · have E := (if_neg c13).symm.trans E
        refine ea_iconst (pc := 61) dX12_chargeBy_61 (v := 0) rfl ?_
        refine ea_goto (pc := 62) (tgt := 81) dX12_chargeBy_62 rfl ?_
        exact (ea_fewer [0, 1, 2] rfl ((ih 81 (0 : Int32) (x1 : Int32) (x2 : Int32) 0 h _ _ E hs).2.2.1 rfl))
    refine ⟨?_, ?_⟩
    · intro el
      subst el
      have E := (if_neg (by decide)).symm.trans E
      have E := (if_neg (by decide)).symm.trans E
      have E := (if_pos rfl).symm.trans E
      refine ea_istore (pc := 81) (lv' := [(0, vR (some (b0 + 0))), (1, vI x1), (2, vI x2), (4, vI sx0)]) dX12_chargeBy_81 (Nat.le_of_ble_eq_true rfl) [1, 2, 3, 0] rfl ?_
      refine ea_aload_n (pc := 83) dX12_chargeBy_83 rfl 0 rfl ?_
      refine ea_getR (pc := 84) dX12_chargeBy_84 ec_12 (k := 70) (Nat.le_of_ble_eq_true rfl) rfl (Or.inl ew_1415) (hs.1 0 (by decide)).1 (hs.1 0 (by decide)).2.1 (hs.2 0 70 rfl) ?_
      refine ea_iload_n (pc := 87) dX12_chargeBy_87 rfl 1 rfl ?_
      obtain ⟨z14, E⟩ := gd_some E
      refine ea_iald (pc := 88) dX12_chargeBy_88 (hs.1 44 (by decide)).1 (hs.1 44 (by decide)).2.1 (ea_vpl (hs.1 44 (by decide)).2.2 z14) ?_
      refine ea_sipush (pc := 89) dX12_chargeBy_89 (v := 1440) rfl ?_
      refine ea_irem (pc := 92) dX12_chargeBy_92 (by decide) ?_
      refine ea_aload_n (pc := 93) dX12_chargeBy_93 rfl 0 rfl ?_
      refine ea_getR (pc := 94) dX12_chargeBy_94 ec_12 (k := 29) (Nat.le_of_ble_eq_true rfl) rfl (Or.inl ew_1374) (hs.1 0 (by decide)).1 (hs.1 0 (by decide)).2.1 (hs.2 0 29 rfl) ?_
      refine ea_iload_n (pc := 97) dX12_chargeBy_97 rfl 2 rfl ?_
      obtain ⟨z15, E⟩ := gd_some E
      refine ea_iald (pc := 98) dX12_chargeBy_98 (hs.1 24 (by decide)).1 (hs.1 24 (by decide)).2.1 (ea_vpl (hs.1 24 (by decide)).2.2 z15) ?_
      refine ea_icmp_le (pc := 99) (tgt := 113) dX12_chargeBy_99 rfl (fun c17 => ?_) (fun c17 => ?_)
      · have E := (if_pos c17).symm.trans E
        exact ((ih 113 0 (x1 : Int32) (x2 : Int32) (sx0 : Int32) h _ _ E hs).2.2.2.1 rfl)
      · have E := (if_neg c17).symm.trans E
        refine ea_iload (pc := 102) dX12_chargeBy_102 3 rfl ?_
        refine ea_aload_n (pc := 104) dX12_chargeBy_104 rfl 0 rfl ?_
        refine ea_getR (pc := 105) dX12_chargeBy_105 ec_12 (k := 28) (Nat.le_of_ble_eq_true rfl) rfl (Or.inl ew_1373) (hs.1 0 (by decide)).1 (hs.1 0 (by decide)).2.1 (hs.2 0 28 rfl) ?_
        refine ea_iload_n (pc := 108) dX12_chargeBy_108 rfl 2 rfl ?_
        obtain ⟨z16, E⟩ := gd_some E
        refine ea_iald (pc := 109) dX12_chargeBy_109 (hs.1 23 (by decide)).1 (hs.1 23 (by decide)).2.1 (ea_vpl (hs.1 23 (by decide)).2.2 z16) ?_
        refine ea_iadd (pc := 110) dX12_chargeBy_110 ?_
        refine ea_istore (pc := 111) (lv' := [(0, vR (some (b0 + 0))), (1, vI x1), (2, vI x2), (4, vI (sx0 + (ea_i h (b0 + 23) (Int32.toNatClampNeg x2))))]) dX12_chargeBy_111 (Nat.le_of_ble_eq_true rfl) [1, 2, 3, 0] rfl ?_
        exact ((ih 113 0 (x1 : Int32) (x2 : Int32) ((sx0 + (ea_i h (b0 + 23) (Int32.toNatClampNeg x2))) : Int32) h _ _ E hs).2.2.2.1 rfl)
    refine ⟨?_, ?_⟩
    · intro el
      subst el
      have E := (if_neg (by decide)).symm.trans E
      have E := (if_neg (by decide)).symm.trans E
      have E := (if_neg (by decide)).symm.trans E
      have E := (if_pos rfl).symm.trans E
      refine ea_aload_n (pc := 113) dX12_chargeBy_113 rfl 0 rfl ?_
      refine ea_getR (pc := 114) dX12_chargeBy_114 ec_12 (k := 64) (Nat.le_of_ble_eq_true rfl) rfl (Or.inl ew_1409) (hs.1 0 (by decide)).1 (hs.1 0 (by decide)).2.1 (hs.2 0 64 rfl) ?_
      refine ea_iload_n (pc := 117) dX12_chargeBy_117 rfl 1 rfl ?_
      obtain ⟨z18, E⟩ := gd_some E
      refine ea_iald (pc := 118) dX12_chargeBy_118 (hs.1 38 (by decide)).1 (hs.1 38 (by decide)).2.1 (ea_vpl (hs.1 38 (by decide)).2.2 z18) ?_
      refine ea_iconst (pc := 119) dX12_chargeBy_119 (v := 3) rfl ?_
      refine ea_icmp_ne (pc := 120) (tgt := 134) dX12_chargeBy_120 rfl (fun c20 => ?_) (fun c20 => ?_)
      · have E := (if_neg c20).symm.trans E
        exact ((ih 134 0 (x1 : Int32) (x2 : Int32) (x4 : Int32) h _ _ E hs).2.2.2.2 rfl)
      · have E := (if_pos c20).symm.trans E
        refine ea_iload (pc := 123) dX12_chargeBy_123 3 rfl ?_
        refine ea_aload_n (pc := 125) dX12_chargeBy_125 rfl 0 rfl ?_
        refine ea_getR (pc := 126) dX12_chargeBy_126 ec_12 (k := 31) (Nat.le_of_ble_eq_true rfl) rfl (Or.inl ew_1376) (hs.1 0 (by decide)).1 (hs.1 0 (by decide)).2.1 (hs.2 0 31 rfl) ?_
        refine ea_iload_n (pc := 129) dX12_chargeBy_129 rfl 2 rfl ?_
        obtain ⟨z19, E⟩ := gd_some E
        refine ea_iald (pc := 130) dX12_chargeBy_130 (hs.1 26 (by decide)).1 (hs.1 26 (by decide)).2.1 (ea_vpl (hs.1 26 (by decide)).2.2 z19) ?_
        refine ea_iadd (pc := 131) dX12_chargeBy_131 ?_
        refine ea_istore (pc := 132) (lv' := [(0, vR (some (b0 + 0))), (1, vI x1), (2, vI x2), (4, vI (x4 + (ea_i h (b0 + 26) (Int32.toNatClampNeg x2))))]) dX12_chargeBy_132 (Nat.le_of_ble_eq_true rfl) [1, 2, 3, 0] rfl ?_
        exact ((ih 134 0 (x1 : Int32) (x2 : Int32) ((x4 + (ea_i h (b0 + 26) (Int32.toNatClampNeg x2))) : Int32) h _ _ E hs).2.2.2.2 rfl)
    intro el
    subst el
    have E := (if_neg (by decide)).symm.trans E
    have E := (if_neg (by decide)).symm.trans E
    have E := (if_neg (by decide)).symm.trans E
    have E := (if_neg (by decide)).symm.trans E
    have E := (if_pos rfl).symm.trans E
    refine ea_aload_n (pc := 134) dX12_chargeBy_134 rfl 0 rfl ?_
    refine ea_getR (pc := 135) dX12_chargeBy_135 ec_12 (k := 64) (Nat.le_of_ble_eq_true rfl) rfl (Or.inl ew_1409) (hs.1 0 (by decide)).1 (hs.1 0 (by decide)).2.1 (hs.2 0 64 rfl) ?_
    refine ea_iload_n (pc := 138) dX12_chargeBy_138 rfl 1 rfl ?_
    obtain ⟨z21, E⟩ := gd_some E
    refine ea_iald (pc := 139) dX12_chargeBy_139 (hs.1 38 (by decide)).1 (hs.1 38 (by decide)).2.1 (ea_vpl (hs.1 38 (by decide)).2.2 z21) ?_
    refine ea_iconst (pc := 140) dX12_chargeBy_140 (v := 4) rfl ?_
    refine ea_icmp_ne (pc := 141) (tgt := 155) dX12_chargeBy_141 rfl (fun c23 => ?_) (fun c23 => ?_)
    · have E := (if_neg c23).symm.trans E
      refine ea_iload (pc := 155) dX12_chargeBy_155 3 rfl ?_
      exact ea_iretO (pc := 157) dX12_chargeBy_157 rfl rfl E
    · have E := (if_pos c23).symm.trans E
      refine ea_iload (pc := 144) dX12_chargeBy_144 3 rfl ?_
      refine ea_aload_n (pc := 146) dX12_chargeBy_146 rfl 0 rfl ?_
      refine ea_getR (pc := 147) dX12_chargeBy_147 ec_12 (k := 32) (Nat.le_of_ble_eq_true rfl) rfl (Or.inl ew_1377) (hs.1 0 (by decide)).1 (hs.1 0 (by decide)).2.1 (hs.2 0 32 rfl) ?_
      refine ea_iload_n (pc := 150) dX12_chargeBy_150 rfl 2 rfl ?_
      obtain ⟨z22, E⟩ := gd_some E
      refine ea_iald (pc := 151) dX12_chargeBy_151 (hs.1 27 (by decide)).1 (hs.1 27 (by decide)).2.1 (ea_vpl (hs.1 27 (by decide)).2.2 z22) ?_
      refine ea_iadd (pc := 152) dX12_chargeBy_152 ?_
      refine ea_istore (pc := 153) (lv' := [(4, vI (x4 + (ea_i h (b0 + 27) (Int32.toNatClampNeg x2))))]) dX12_chargeBy_153 (Nat.le_of_ble_eq_true rfl) [0] rfl ?_
      refine ea_iload (pc := 155) dX12_chargeBy_155 0 rfl ?_
      exact ea_iretO (pc := 157) dX12_chargeBy_157 rfl rfl E
noncomputable def qX12_chargeBy (b0 : Nat) (x1 : Int32) (x2 : Int32) (h : ea_H) : Option (Int32 × ea_H) := gX12_chargeBy b0 1000000000 0 0 x1 x2 0 h
def okX12_chargeBy (b0 : Nat) (x1 : Int32) (x2 : Int32) (h : ea_H) : Prop := ∃ x, qX12_chargeBy b0 x1 x2 h = some x
noncomputable def vX12_chargeBy (b0 : Nat) (x1 : Int32) (x2 : Int32) (h : ea_H) : Int32 := ((qX12_chargeBy b0 x1 x2 h).getD (0, h)).1
noncomputable def wX12_chargeBy (b0 : Nat) (x1 : Int32) (x2 : Int32) (h : ea_H) : ea_H := ((qX12_chargeBy b0 x1 x2 h).getD (0, h)).2
theorem sX12_chargeBy {d : Nat} {b0 : Nat} {x1 : Int32} {x2 : Int32} {h : ea_H} (hd : 4 ≤ d) (hs : ShM b0 h) (K : okX12_chargeBy b0 x1 x2 h) : ea_Met mX12_chargeBy d [vR (some (b0 + 0)), vI x1, vI x2] h (some (vI (vX12_chargeBy b0 x1 x2 h))) (wX12_chargeBy b0 x1 x2 h) := by
  obtain ⟨⟨x, y⟩, K⟩ := K
  unfold wX12_chargeBy vX12_chargeBy
  rw [K]
  unfold qX12_chargeBy at K
  exact ea_enter rfl (Nat.le_of_ble_eq_true rfl) ((tX12_chargeBy hd 1000000000 0 0 x1 x2 0 h x y K hs).1 rfl)
theorem zX12_chargeBy {b0 : Nat} : ∀ (f lbl : Nat) (sx0 : Int32) (x1 : Int32) (x2 : Int32) (x4 : Int32) (h : ea_H) (r : Int32) (h' : ea_H), gX12_chargeBy b0 f lbl sx0 x1 x2 x4 h = some (r, h') → ShM b0 h → ShM b0 h' := by
  intro f
  induction f with
  | zero => intro lbl sx0 x1 x2 x4 h r h' E; cases E
  | succ f ih =>
    intro lbl sx0 x1 x2 x4 h r h' E hs
    unfold gX12_chargeBy at E
    by_cases el0 : lbl = 0
    · have E := (if_pos el0).symm.trans E
      obtain ⟨z1, E⟩ := gd_some E
      by_cases c11 : (vX12_isFree b0 (x1 : Int32) (x2 : Int32) h) = (0 : Int32)
      · have E := (if_pos c11).symm.trans E
        obtain ⟨z2, E⟩ := gd_some E
        obtain ⟨H4, eH4, E⟩ := let_some E
        have hsH4 : ShM b0 H4 := by rw [eH4]; exact (shX12_lineOf hs)
        by_cases c10 : (vX12_lineOf b0 (x1 : Int32) (x2 : Int32) h) = ((-1) : Int32)
        · have E := (if_pos c10).symm.trans E
          exact ih 54 (0 : Int32) (x1 : Int32) (x2 : Int32) 0 H4 _ _ E hsH4
        have E := (if_neg c10).symm.trans E
        obtain ⟨z5, E⟩ := gd_some E
        obtain ⟨z6, E⟩ := gd_some E
        obtain ⟨z7, E⟩ := gd_some E
        obtain ⟨H9, eH9, E⟩ := let_some E
        have hsH9 : ShM b0 H9 := by rw [eH9]; exact (shX12_comesTo hsH4)
        exact ih 54 ((vX12_comesTo b0 (x2 : Int32) ((ea_i H4 (b0 + 30) (Int32.toNatClampNeg (((25 : Int32) * x2) + (vX12_lineOf b0 (x1 : Int32) (x2 : Int32) h)))) : Int32) ((ea_i H4 (b0 + 31) (Int32.toNatClampNeg (((24 : Int32) * x2) + (vX12_lineOf b0 (x1 : Int32) (x2 : Int32) h)))) : Int32) H4) : Int32) (x1 : Int32) (x2 : Int32) 0 H9 _ _ E hsH9
      have E := (if_neg c11).symm.trans E
      exact ea_shO E hs
    have E := (if_neg el0).symm.trans E
    by_cases el1 : lbl = 54
    · have E := (if_pos el1).symm.trans E
      by_cases c13 : (0 : Int32) ≤ sx0
      · have E := (if_pos c13).symm.trans E
        by_cases c12 : sx0 ≤ (99999 : Int32)
        · have E := (if_pos c12).symm.trans E
          exact ih 81 (sx0 : Int32) (x1 : Int32) (x2 : Int32) 0 h _ _ E hs
        have E := (if_neg c12).symm.trans E
        exact ih 81 (99999 : Int32) (x1 : Int32) (x2 : Int32) 0 h _ _ E hs
      have E := (if_neg c13).symm.trans E
      exact ih 81 (0 : Int32) (x1 : Int32) (x2 : Int32) 0 h _ _ E hs
    have E := (if_neg el1).symm.trans E
    by_cases el2 : lbl = 81
    · have E := (if_pos el2).symm.trans E
      obtain ⟨z14, E⟩ := gd_some E
      obtain ⟨z15, E⟩ := gd_some E
      by_cases c17 : ((ea_i h (b0 + 44) (Int32.toNatClampNeg x1)) - (ea_i h (b0 + 44) (Int32.toNatClampNeg x1)) / (1440 : Int32) * (1440 : Int32)) ≤ (ea_i h (b0 + 24) (Int32.toNatClampNeg x2))
      · have E := (if_pos c17).symm.trans E
        exact ih 113 0 (x1 : Int32) (x2 : Int32) (sx0 : Int32) h _ _ E hs
      have E := (if_neg c17).symm.trans E
      obtain ⟨z16, E⟩ := gd_some E
      exact ih 113 0 (x1 : Int32) (x2 : Int32) ((sx0 + (ea_i h (b0 + 23) (Int32.toNatClampNeg x2))) : Int32) h _ _ E hs
    have E := (if_neg el2).symm.trans E
    by_cases el3 : lbl = 113
    · have E := (if_pos el3).symm.trans E
      obtain ⟨z18, E⟩ := gd_some E
      by_cases c20 : (ea_i h (b0 + 38) (Int32.toNatClampNeg x1)) = (3 : Int32)
      · have E := (if_pos c20).symm.trans E
        obtain ⟨z19, E⟩ := gd_some E
        exact ih 134 0 (x1 : Int32) (x2 : Int32) ((x4 + (ea_i h (b0 + 26) (Int32.toNatClampNeg x2))) : Int32) h _ _ E hs
      have E := (if_neg c20).symm.trans E
      exact ih 134 0 (x1 : Int32) (x2 : Int32) (x4 : Int32) h _ _ E hs
    have E := (if_neg el3).symm.trans E
    by_cases el4 : lbl = 134
    · have E := (if_pos el4).symm.trans E
      obtain ⟨z21, E⟩ := gd_some E
      by_cases c23 : (ea_i h (b0 + 38) (Int32.toNatClampNeg x1)) = (4 : Int32)
      · have E := (if_pos c23).symm.trans E
        obtain ⟨z22, E⟩ := gd_some E
        exact ea_shO E hs
      have E := (if_neg c23).symm.trans E
      exact ea_shO E hs
    have E := (if_neg el4).symm.trans E
    cases E
theorem shX12_chargeBy {b0 : Nat} {x1 : Int32} {x2 : Int32} {h : ea_H} (hs : ShM b0 h) : ShM b0 (wX12_chargeBy b0 x1 x2 h) := by
  unfold wX12_chargeBy
  cases K : qX12_chargeBy b0 x1 x2 h with
  | none => exact hs
  | some x => obtain ⟨x, y⟩ := x; unfold qX12_chargeBy at K; exact zX12_chargeBy _ _ _ _ _ _ _ _ _ K hs
noncomputable def gX12_post (b0 : Nat) : Nat → Nat → Int32 → Int32 → Int32 → Int32 → Int32 → Int32 → Int32 → Int32 → Int32 → Int32 → ea_H → Option (Int32 × ea_H)
  | 0, _, _, _, _, _, _, _, _, _, _, _, _ => none
  | f + 1, lbl, sx0, sx1, x1, x2, x3, x4, x5, x6, x7, x8, h =>
    if lbl = 0 then (if (vX12_isIn (x1 : Int32) (0 : Int32) (4 : Int32) h) = (0 : Int32) then (some (((-1) : Int32), h)) else (if (vX12_isTown b0 (x2 : Int32) h) = (0 : Int32) then (some (((-1) : Int32), h)) else (if (vX12_isTown b0 (x3 : Int32) h) = (0 : Int32) then (some (((-1) : Int32), h)) else (if x2 = x3 then (some (((-1) : Int32), h)) else (if (vX12_isIn (x4 : Int32) (1 : Int32) (9 : Int32) h) = (0 : Int32) then (some (((-1) : Int32), h)) else (if (vX12_isIn (x5 : Int32) (0 : Int32) (99 : Int32) h) = (0 : Int32) then (some (((-1) : Int32), h)) else (if (vX12_isIn (x6 : Int32) (0 : Int32) (9 : Int32) h) = (0 : Int32) then (some (((-1) : Int32), h)) else (if (ea_i h (b0 + 0) 63) = (120 : Int32) then (some (((-1) : Int32), h)) else (ea_let (ea_wi h (b0 + 0) 63 ((ea_i h (b0 + 0) 63) + (1 : Int32))) fun H8 => (gd (vp_in (ea_i h (b0 + 0) 63) 120) (ea_let (ea_wi H8 (b0 + 38) (Int32.toNatClampNeg (ea_i h (b0 + 0) 63)) x1) fun H11 => (gd (vp_in (ea_i h (b0 + 0) 63) 120) (ea_let (ea_wi H11 (b0 + 39) (Int32.toNatClampNeg (ea_i h (b0 + 0) 63)) x2) fun H14 => (gd (vp_in (ea_i h (b0 + 0) 63) 120) (ea_let (ea_wi H14 (b0 + 40) (Int32.toNatClampNeg (ea_i h (b0 + 0) 63)) x3) fun H17 => (gd (vp_in (ea_i h (b0 + 0) 63) 120) (ea_let (ea_wi H17 (b0 + 41) (Int32.toNatClampNeg (ea_i h (b0 + 0) 63)) x4) fun H20 => (gd (vp_in (ea_i h (b0 + 0) 63) 120) (ea_let (ea_wi H20 (b0 + 42) (Int32.toNatClampNeg (ea_i h (b0 + 0) 63)) x5) fun H23 => (gd (vp_in (ea_i h (b0 + 0) 63) 120) (ea_let (ea_wi H23 (b0 + 43) (Int32.toNatClampNeg (ea_i h (b0 + 0) 63)) x6) fun H26 => (gd (vp_in (ea_i h (b0 + 0) 63) 120) (ea_let (ea_wi H26 (b0 + 44) (Int32.toNatClampNeg (ea_i h (b0 + 0) 63)) (ea_i H26 (b0 + 0) 0)) fun H29 => (gd ((okX12_milesOf b0 (x2 : Int32) (x3 : Int32) (0 : Int32) H29)) (ea_let (wX12_milesOf b0 (x2 : Int32) (x3 : Int32) (0 : Int32) H29) fun H32 => (gd (vp_in (ea_i h (b0 + 0) 63) 120) (ea_let (ea_wi H32 (b0 + 45) (Int32.toNatClampNeg (ea_i h (b0 + 0) 63)) (vX12_milesOf b0 (x2 : Int32) (x3 : Int32) (0 : Int32) H29)) fun H35 => (gd ((okX12_isCross b0 (x2 : Int32) (x3 : Int32) H35)) (ea_let (wX12_isCross b0 (x2 : Int32) (x3 : Int32) H35) fun H38 => (gd (vp_in (ea_i h (b0 + 0) 63) 120) (gd (((vX12_isCross b0 (x2 : Int32) (x3 : Int32) H35) = 0 ∨ (vX12_isCross b0 (x2 : Int32) (x3 : Int32) H35) = 1)) (ea_let (ea_wi H38 (b0 + 52) (Int32.toNatClampNeg (ea_i h (b0 + 0) 63)) (vX12_isCross b0 (x2 : Int32) (x3 : Int32) H35)) fun H42 => (gd (vp_in (ea_i h (b0 + 0) 63) 120) (ea_let (ea_wi H42 (b0 + 46) (Int32.toNatClampNeg (ea_i h (b0 + 0) 63)) 0) fun H45 => (gX12_post b0 f 190 0 0 0 (x2 : Int32) 0 0 0 (x6 : Int32) ((ea_i h (b0 + 0) 63) : Int32) (0 : Int32) H45))))))))))))))))))))))))))))))))))) else
    if lbl = 190 then (if x7 < x8 then (gd ((okX12_actOn b0 (((ea_i h (b0 + 0) 0) / (1440 : Int32)) : Int32) h)) (ea_let (wX12_actOn b0 (((ea_i h (b0 + 0) 0) / (1440 : Int32)) : Int32) h) fun H56 => (gd (vp_in x7 120) (ea_let (ea_wi H56 (b0 + 47) (Int32.toNatClampNeg x7) (vX12_actOn b0 (((ea_i h (b0 + 0) 0) / (1440 : Int32)) : Int32) h)) fun H59 => (gd (vp_in x7 120) (if (ea_i H59 (b0 + 47) (Int32.toNatClampNeg x7)) = ((-1) : Int32) then (gX12_post b0 f 320 (0 : Int32) (x7 : Int32) 0 (x2 : Int32) 0 0 0 0 (x7 : Int32) 0 H59) else (gd (vp_in x7 120) (gd ((okX12_isFree b0 (x7 : Int32) ((ea_i H59 (b0 + 47) (Int32.toNatClampNeg x7)) : Int32) H59)) (if (vX12_isFree b0 (x7 : Int32) ((ea_i H59 (b0 + 47) (Int32.toNatClampNeg x7)) : Int32) H59) = (0 : Int32) then (gX12_post b0 f 320 (0 : Int32) (x7 : Int32) 0 (x2 : Int32) 0 0 0 0 (x7 : Int32) 0 H59) else (gX12_post b0 f 320 (1 : Int32) (x7 : Int32) 0 (x2 : Int32) 0 0 0 0 (x7 : Int32) 0 H59)))))))))) else (gd (vp_in x7 120) (gd (vp_in x8 120) (if (ea_i h (b0 + 38) (Int32.toNatClampNeg x8)) = (2 : Int32) then (gd (vp_in x8 120) (if (ea_i h (b0 + 43) (Int32.toNatClampNeg x8)) = x6 then (gd (vp_in x8 120) (if ((ea_i h (b0 + 44) (Int32.toNatClampNeg x8)) / (1440 : Int32)) = ((ea_i h (b0 + 0) 0) / (1440 : Int32)) then (gd (vp_in x7 120) (ea_let (ea_wi h (b0 + 46) (Int32.toNatClampNeg x7) ((ea_i h (b0 + 46) (Int32.toNatClampNeg x7)) + (1 : Int32))) fun H80 => (gX12_post b0 f 190 0 0 0 (x2 : Int32) 0 0 0 (x6 : Int32) (x7 : Int32) ((x8 + (1 : Int32)) : Int32) H80))) else (gd (vp_in x7 120) (ea_let (ea_wi h (b0 + 46) (Int32.toNatClampNeg x7) ((ea_i h (b0 + 46) (Int32.toNatClampNeg x7)) + (0 : Int32))) fun H77 => (gX12_post b0 f 190 0 0 0 (x2 : Int32) 0 0 0 (x6 : Int32) (x7 : Int32) ((x8 + (1 : Int32)) : Int32) H77))))) else (gd (vp_in x7 120) (ea_let (ea_wi h (b0 + 46) (Int32.toNatClampNeg x7) ((ea_i h (b0 + 46) (Int32.toNatClampNeg x7)) + (0 : Int32))) fun H73 => (gX12_post b0 f 190 0 0 0 (x2 : Int32) 0 0 0 (x6 : Int32) (x7 : Int32) ((x8 + (1 : Int32)) : Int32) H73))))) else (gd (vp_in x7 120) (ea_let (ea_wi h (b0 + 46) (Int32.toNatClampNeg x7) ((ea_i h (b0 + 46) (Int32.toNatClampNeg x7)) + (0 : Int32))) fun H69 => (gX12_post b0 f 190 0 0 0 (x2 : Int32) 0 0 0 (x6 : Int32) (x7 : Int32) ((x8 + (1 : Int32)) : Int32) H69))))))) else
    if lbl = 320 then (gd (vp_in sx1 120) (gd ((sx0 = 0 ∨ sx0 = 1)) (ea_let (ea_wi h (b0 + 53) (Int32.toNatClampNeg sx1) sx0) fun H88 => (gd (vp_in x7 120) (if (ea_i H88 (b0 + 47) (Int32.toNatClampNeg x7)) = ((-1) : Int32) then (gX12_post b0 f 355 (0 : Int32) (x7 : Int32) 0 (x2 : Int32) 0 0 0 0 (x7 : Int32) 0 H88) else (gd (vp_in x7 120) (gd ((okX12_chargeBy b0 (x7 : Int32) ((ea_i H88 (b0 + 47) (Int32.toNatClampNeg x7)) : Int32) H88)) (ea_let (wX12_chargeBy b0 (x7 : Int32) ((ea_i H88 (b0 + 47) (Int32.toNatClampNeg x7)) : Int32) H88) fun H93 => (gX12_post b0 f 355 ((vX12_chargeBy b0 (x7 : Int32) ((ea_i H88 (b0 + 47) (Int32.toNatClampNeg x7)) : Int32) H88) : Int32) (x7 : Int32) 0 (x2 : Int32) 0 0 0 0 (x7 : Int32) 0 H93))))))))) else
    if lbl = 355 then (gd (vp_in sx1 120) (ea_let (ea_wi h (b0 + 48) (Int32.toNatClampNeg sx1) sx0) fun H97 => (gd (vp_in x7 120) (if (ea_i H97 (b0 + 47) (Int32.toNatClampNeg x7)) = ((-1) : Int32) then (gX12_post b0 f 390 ((-1) : Int32) (x7 : Int32) 0 (x2 : Int32) 0 0 0 0 (x7 : Int32) 0 H97) else (gd (vp_in x7 120) (gd ((okX12_lineOf b0 (x7 : Int32) ((ea_i H97 (b0 + 47) (Int32.toNatClampNeg x7)) : Int32) H97)) (ea_let (wX12_lineOf b0 (x7 : Int32) ((ea_i H97 (b0 + 47) (Int32.toNatClampNeg x7)) : Int32) H97) fun H102 => (gX12_post b0 f 390 ((vX12_lineOf b0 (x7 : Int32) ((ea_i H97 (b0 + 47) (Int32.toNatClampNeg x7)) : Int32) H97) : Int32) (x7 : Int32) 0 (x2 : Int32) 0 0 0 0 (x7 : Int32) 0 H102)))))))) else
    if lbl = 390 then (gd (vp_in sx1 120) (ea_let (ea_wi h (b0 + 49) (Int32.toNatClampNeg sx1) sx0) fun H106 => (gd (vp_in x7 120) (ea_let (ea_wi H106 (b0 + 57) (Int32.toNatClampNeg x7) (-1)) fun H109 => (gd ((okX12_turns b0 (x7 : Int32) ((ea_i H109 (b0 + 0) 0) : Int32) (0 : Int32) (x2 : Int32) H109)) (ea_let (wX12_turns b0 (x7 : Int32) ((ea_i H109 (b0 + 0) 0) : Int32) (0 : Int32) (x2 : Int32) H109) fun H112 => (some (x7, H112)))))))) else none
theorem tX12_post {d : Nat} {b0 : Nat} {h0 : ea_H} (hd : 5 ≤ d) : ∀ (f lbl : Nat) (sx0 : Int32) (sx1 : Int32) (x1 : Int32) (x2 : Int32) (x3 : Int32) (x4 : Int32) (x5 : Int32) (x6 : Int32) (x7 : Int32) (x8 : Int32) (h : ea_H) (r : Int32) (h' : ea_H), gX12_post b0 f lbl sx0 sx1 x1 x2 x3 x4 x5 x6 x7 x8 h = some (r, h') → ShM b0 h → (lbl = 0 → ea_W mX12_post d h0 (some (vI r)) h' 0 [(0, vR (some (b0 + 0))), (1, vI x1), (2, vI x2), (3, vI x3), (4, vI x4), (5, vI x5), (6, vI x6)] [] h) ∧ (lbl = 190 → ea_W mX12_post d h0 (some (vI r)) h' 190 [(0, vR (some (b0 + 0))), (2, vI x2), (6, vI x6), (7, vI x7), (8, vI x8)] [] h) ∧ (lbl = 320 → ea_W mX12_post d h0 (some (vI r)) h' 320 [(0, vR (some (b0 + 0))), (2, vI x2), (7, vI x7)] [vI sx0, vI sx1, vR (some (b0 + 53))] h) ∧ (lbl = 355 → ea_W mX12_post d h0 (some (vI r)) h' 355 [(0, vR (some (b0 + 0))), (2, vI x2), (7, vI x7)] [vI sx0, vI sx1, vR (some (b0 + 48))] h) ∧ (lbl = 390 → ea_W mX12_post d h0 (some (vI r)) h' 390 [(0, vR (some (b0 + 0))), (2, vI x2), (7, vI x7)] [vI sx0, vI sx1, vR (some (b0 + 49))] h) := by
  intro f
  induction f with
  | zero => intro lbl sx0 sx1 x1 x2 x3 x4 x5 x6 x7 x8 h r h' E; cases E
  | succ f ih =>
    intro lbl sx0 sx1 x1 x2 x3 x4 x5 x6 x7 x8 h r h' E hs
    unfold gX12_post at E
    refine ⟨?_, ?_⟩
    · intro el
      subst el
      have E := (if_pos rfl).symm.trans E
      refine ea_iload_n (pc := 0) dX12_post_0 rfl 1 rfl ?_
      refine ea_iconst (pc := 1) dX12_post_1 (v := 0) rfl ?_
      refine ea_iconst (pc := 2) dX12_post_2 (v := 4) rfl ?_
      refine ea_callS (pc := 3) (d' := d - 1) (As := [vI x1, vI 0, vI 4]) (st := []) dX12_post_3 kX12_isIn (sX12_isIn (d := d - 1) (by omega)) (by omega) rfl (Nat.le_of_ble_eq_true rfl) ew_1712 ew_1713 ?_
      refine ea_if_eq (pc := 6) (tgt := 72) dX12_post_6 rfl (fun c53 => ?_) (fun c53 => ?_)
      · have E := (if_pos c53).symm.trans E
        refine ea_iconst (pc := 72) dX12_post_72 (v := (-1)) rfl ?_
        exact ea_iretO (pc := 73) dX12_post_73 rfl rfl E
      · have E := (if_neg c53).symm.trans E
        refine ea_aload_n (pc := 9) dX12_post_9 rfl 0 rfl ?_
        refine ea_iload_n (pc := 10) dX12_post_10 rfl 2 rfl ?_
        refine ea_callV (pc := 11) (d' := d - 1) (As := [vI x2]) (st := []) dX12_post_11 kX12_isTown (sX12_isTown (d := d - 1) (by omega) hs) (by omega) rfl (Nat.le_of_ble_eq_true rfl) ew_1708 ew_1710 ew_47 (ci := 12) rfl (by decide) (hs.1 0 (by decide)).1 (hs.1 0 (by decide)).2.1 ?_
        refine ea_if_eq (pc := 14) (tgt := 72) dX12_post_14 rfl (fun c52 => ?_) (fun c52 => ?_)
        · have E := (if_pos c52).symm.trans E
          refine ea_iconst (pc := 72) dX12_post_72 (v := (-1)) rfl ?_
          exact ea_iretO (pc := 73) dX12_post_73 rfl rfl E
        · have E := (if_neg c52).symm.trans E
          refine ea_aload_n (pc := 17) dX12_post_17 rfl 0 rfl ?_
          refine ea_iload_n (pc := 18) dX12_post_18 rfl 3 rfl ?_
          refine ea_callV (pc := 19) (d' := d - 1) (As := [vI x3]) (st := []) dX12_post_19 kX12_isTown (sX12_isTown (d := d - 1) (by omega) hs) (by omega) rfl (Nat.le_of_ble_eq_true rfl) ew_1708 ew_1710 ew_47 (ci := 12) rfl (by decide) (hs.1 0 (by decide)).1 (hs.1 0 (by decide)).2.1 ?_
          refine ea_if_eq (pc := 22) (tgt := 72) dX12_post_22 rfl (fun c51 => ?_) (fun c51 => ?_)
          · have E := (if_pos c51).symm.trans E
            refine ea_iconst (pc := 72) dX12_post_72 (v := (-1)) rfl ?_
            exact ea_iretO (pc := 73) dX12_post_73 rfl rfl E
          · have E := (if_neg c51).symm.trans E
            refine ea_iload_n (pc := 25) dX12_post_25 rfl 2 rfl ?_
            refine ea_iload_n (pc := 26) dX12_post_26 rfl 3 rfl ?_
            refine ea_icmp_eq (pc := 27) (tgt := 72) dX12_post_27 rfl (fun c50 => ?_) (fun c50 => ?_)
            · have E := (if_pos c50).symm.trans E
              refine ea_iconst (pc := 72) dX12_post_72 (v := (-1)) rfl ?_
              exact ea_iretO (pc := 73) dX12_post_73 rfl rfl E
            · have E := (if_neg c50).symm.trans E
              refine ea_iload (pc := 30) dX12_post_30 4 rfl ?_
              refine ea_iconst (pc := 32) dX12_post_32 (v := 1) rfl ?_
              refine ea_bipush (pc := 33) dX12_post_33 (v := 9) rfl ?_
              refine ea_callS (pc := 35) (d' := d - 1) (As := [vI x4, vI 1, vI 9]) (st := []) dX12_post_35 kX12_isIn (sX12_isIn (d := d - 1) (by omega)) (by omega) rfl (Nat.le_of_ble_eq_true rfl) ew_1712 ew_1713 ?_
              refine ea_if_eq (pc := 38) (tgt := 72) dX12_post_38 rfl (fun c49 => ?_) (fun c49 => ?_)
              · have E := (if_pos c49).symm.trans E
                refine ea_iconst (pc := 72) dX12_post_72 (v := (-1)) rfl ?_
                exact ea_iretO (pc := 73) dX12_post_73 rfl rfl E
              · have E := (if_neg c49).symm.trans E
                refine ea_iload (pc := 41) dX12_post_41 5 rfl ?_
                refine ea_iconst (pc := 43) dX12_post_43 (v := 0) rfl ?_
                refine ea_bipush (pc := 44) dX12_post_44 (v := 99) rfl ?_
                refine ea_callS (pc := 46) (d' := d - 1) (As := [vI x5, vI 0, vI 99]) (st := []) dX12_post_46 kX12_isIn (sX12_isIn (d := d - 1) (by omega)) (by omega) rfl (Nat.le_of_ble_eq_true rfl) ew_1712 ew_1713 ?_
                refine ea_if_eq (pc := 49) (tgt := 72) dX12_post_49 rfl (fun c48 => ?_) (fun c48 => ?_)
                · have E := (if_pos c48).symm.trans E
                  refine ea_iconst (pc := 72) dX12_post_72 (v := (-1)) rfl ?_
                  exact ea_iretO (pc := 73) dX12_post_73 rfl rfl E
                · have E := (if_neg c48).symm.trans E
                  refine ea_iload (pc := 52) dX12_post_52 6 rfl ?_
                  refine ea_iconst (pc := 54) dX12_post_54 (v := 0) rfl ?_
                  refine ea_bipush (pc := 55) dX12_post_55 (v := 9) rfl ?_
                  refine ea_callS (pc := 57) (d' := d - 1) (As := [vI x6, vI 0, vI 9]) (st := []) dX12_post_57 kX12_isIn (sX12_isIn (d := d - 1) (by omega)) (by omega) rfl (Nat.le_of_ble_eq_true rfl) ew_1712 ew_1713 ?_
                  refine ea_if_eq (pc := 60) (tgt := 72) dX12_post_60 rfl (fun c47 => ?_) (fun c47 => ?_)
                  · have E := (if_pos c47).symm.trans E
                    refine ea_iconst (pc := 72) dX12_post_72 (v := (-1)) rfl ?_
                    exact ea_iretO (pc := 73) dX12_post_73 rfl rfl E
                  · have E := (if_neg c47).symm.trans E
                    refine ea_aload_n (pc := 63) dX12_post_63 rfl 0 rfl ?_
                    refine ea_getI (pc := 64) dX12_post_64 ec_12 (k := 63) (Nat.le_of_ble_eq_true rfl) rfl (Or.inl ew_1408) (hs.1 0 (by decide)).1 (hs.1 0 (by decide)).2.1 ?_
                    refine ea_bipush (pc := 67) dX12_post_67 (v := 120) rfl ?_
                    refine ea_icmp_ne (pc := 69) (tgt := 74) dX12_post_69 rfl (fun c46 => ?_) (fun c46 => ?_)
                    · have E := (if_neg c46).symm.trans E
                      refine ea_aload_n (pc := 74) dX12_post_74 rfl 0 rfl ?_
                      refine ea_getI (pc := 75) dX12_post_75 ec_12 (k := 63) (Nat.le_of_ble_eq_true rfl) rfl (Or.inl ew_1408) (hs.1 0 (by decide)).1 (hs.1 0 (by decide)).2.1 ?_
                      refine ea_istore (pc := 78) (lv' := [(0, vR (some (b0 + 0))), (1, vI x1), (2, vI x2), (3, vI x3), (4, vI x4), (5, vI x5), (6, vI x6), (7, vI (ea_i h (b0 + 0) 63))]) dX12_post_78 (Nat.le_of_ble_eq_true rfl) [1, 2, 3, 4, 5, 6, 7, 0] rfl ?_
                      refine ea_aload_n (pc := 80) dX12_post_80 rfl 0 rfl ?_
                      refine ea_dup (pc := 81) dX12_post_81 rfl ?_
                      refine ea_getI (pc := 82) dX12_post_82 ec_12 (k := 63) (Nat.le_of_ble_eq_true rfl) rfl (Or.inl ew_1408) (hs.1 0 (by decide)).1 (hs.1 0 (by decide)).2.1 ?_
                      refine ea_iconst (pc := 85) dX12_post_85 (v := 1) rfl ?_
                      refine ea_iadd (pc := 86) dX12_post_86 ?_
                      refine ea_putI (pc := 87) dX12_post_87 ec_12 (k := 63) (Nat.le_of_ble_eq_true rfl) rfl (Or.inl ⟨rfl, Or.inl ew_1408⟩) rfl rfl (hs.1 0 (by decide)).1 (hs.1 0 (by decide)).2.1 ?_
                      have hs7 : ShM b0 (ea_wi h (b0 + 0) 63 ((ea_i h (b0 + 0) 63) + (1 : Int32))) := ShM_wi hs
                      obtain ⟨H8, eH8, E⟩ := let_some E
                      refine ea_nm eH8 ?_
                      have hsH8 : ShM b0 H8 := by rw [eH8]; exact hs7
                      refine ea_aload_n (pc := 90) dX12_post_90 rfl 0 rfl ?_
                      refine ea_getR (pc := 91) dX12_post_91 ec_12 (k := 64) (Nat.le_of_ble_eq_true rfl) rfl (Or.inl ew_1409) (hsH8.1 0 (by decide)).1 (hsH8.1 0 (by decide)).2.1 (hsH8.2 0 64 rfl) ?_
                      refine ea_iload (pc := 94) dX12_post_94 7 rfl ?_
                      refine ea_iload_n (pc := 96) dX12_post_96 rfl 1 rfl ?_
                      obtain ⟨z9, E⟩ := gd_some E
                      refine ea_iast (pc := 97) dX12_post_97 (hsH8.1 38 (by decide)).1 (hsH8.1 38 (by decide)).2.1 (ea_vpl (hsH8.1 38 (by decide)).2.2 z9) ?_
                      have hs10 : ShM b0 (ea_wi H8 (b0 + 38) (Int32.toNatClampNeg (ea_i h (b0 + 0) 63)) x1) := ShM_wi hsH8
                      obtain ⟨H11, eH11, E⟩ := let_some E
                      refine ea_nm eH11 ?_
                      have hsH11 : ShM b0 H11 := by rw [eH11]; exact hs10
                      refine ea_aload_n (pc := 98) dX12_post_98 rfl 0 rfl ?_
                      refine ea_getR (pc := 99) dX12_post_99 ec_12 (k := 65) (Nat.le_of_ble_eq_true rfl) rfl (Or.inl ew_1410) (hsH11.1 0 (by decide)).1 (hsH11.1 0 (by decide)).2.1 (hsH11.2 0 65 rfl) ?_
                      refine ea_iload (pc := 102) dX12_post_102 7 rfl ?_
                      refine ea_iload_n (pc := 104) dX12_post_104 rfl 2 rfl ?_
                      obtain ⟨z12, E⟩ := gd_some E
                      refine ea_iast (pc := 105) dX12_post_105 (hsH11.1 39 (by decide)).1 (hsH11.1 39 (by decide)).2.1 (ea_vpl (hsH11.1 39 (by decide)).2.2 z12) ?_
                      have hs13 : ShM b0 (ea_wi H11 (b0 + 39) (Int32.toNatClampNeg (ea_i h (b0 + 0) 63)) x2) := ShM_wi hsH11
                      obtain ⟨H14, eH14, E⟩ := let_some E
                      refine ea_nm eH14 ?_
                      have hsH14 : ShM b0 H14 := by rw [eH14]; exact hs13
                      refine ea_aload_n (pc := 106) dX12_post_106 rfl 0 rfl ?_
                      refine ea_getR (pc := 107) dX12_post_107 ec_12 (k := 66) (Nat.le_of_ble_eq_true rfl) rfl (Or.inl ew_1411) (hsH14.1 0 (by decide)).1 (hsH14.1 0 (by decide)).2.1 (hsH14.2 0 66 rfl) ?_
                      refine ea_iload (pc := 110) dX12_post_110 7 rfl ?_
                      refine ea_iload_n (pc := 112) dX12_post_112 rfl 3 rfl ?_
                      obtain ⟨z15, E⟩ := gd_some E
                      refine ea_iast (pc := 113) dX12_post_113 (hsH14.1 40 (by decide)).1 (hsH14.1 40 (by decide)).2.1 (ea_vpl (hsH14.1 40 (by decide)).2.2 z15) ?_
                      have hs16 : ShM b0 (ea_wi H14 (b0 + 40) (Int32.toNatClampNeg (ea_i h (b0 + 0) 63)) x3) := ShM_wi hsH14
                      obtain ⟨H17, eH17, E⟩ := let_some E
                      refine ea_nm eH17 ?_
                      have hsH17 : ShM b0 H17 := by rw [eH17]; exact hs16
                      refine ea_aload_n (pc := 114) dX12_post_114 rfl 0 rfl ?_
                      refine ea_getR (pc := 115) dX12_post_115 ec_12 (k := 67) (Nat.le_of_ble_eq_true rfl) rfl (Or.inl ew_1412) (hsH17.1 0 (by decide)).1 (hsH17.1 0 (by decide)).2.1 (hsH17.2 0 67 rfl) ?_
                      refine ea_iload (pc := 118) dX12_post_118 7 rfl ?_
                      refine ea_iload (pc := 120) dX12_post_120 4 rfl ?_
                      obtain ⟨z18, E⟩ := gd_some E
                      refine ea_iast (pc := 122) dX12_post_122 (hsH17.1 41 (by decide)).1 (hsH17.1 41 (by decide)).2.1 (ea_vpl (hsH17.1 41 (by decide)).2.2 z18) ?_
                      have hs19 : ShM b0 (ea_wi H17 (b0 + 41) (Int32.toNatClampNeg (ea_i h (b0 + 0) 63)) x4) := ShM_wi hsH17
                      obtain ⟨H20, eH20, E⟩ := let_some E
                      refine ea_nm eH20 ?_
                      have hsH20 : ShM b0 H20 := by rw [eH20]; exact hs19
                      refine ea_aload_n (pc := 123) dX12_post_123 rfl 0 rfl ?_
                      refine ea_getR (pc := 124) dX12_post_124 ec_12 (k := 68) (Nat.le_of_ble_eq_true rfl) rfl (Or.inl ew_1413) (hsH20.1 0 (by decide)).1 (hsH20.1 0 (by decide)).2.1 (hsH20.2 0 68 rfl) ?_
                      refine ea_iload (pc := 127) dX12_post_127 7 rfl ?_
                      refine ea_iload (pc := 129) dX12_post_129 5 rfl ?_
                      obtain ⟨z21, E⟩ := gd_some E
                      refine ea_iast (pc := 131) dX12_post_131 (hsH20.1 42 (by decide)).1 (hsH20.1 42 (by decide)).2.1 (ea_vpl (hsH20.1 42 (by decide)).2.2 z21) ?_
                      have hs22 : ShM b0 (ea_wi H20 (b0 + 42) (Int32.toNatClampNeg (ea_i h (b0 + 0) 63)) x5) := ShM_wi hsH20
                      obtain ⟨H23, eH23, E⟩ := let_some E
                      refine ea_nm eH23 ?_
                      have hsH23 : ShM b0 H23 := by rw [eH23]; exact hs22
                      refine ea_aload_n (pc := 132) dX12_post_132 rfl 0 rfl ?_
                      refine ea_getR (pc := 133) dX12_post_133 ec_12 (k := 69) (Nat.le_of_ble_eq_true rfl) rfl (Or.inl ew_1414) (hsH23.1 0 (by decide)).1 (hsH23.1 0 (by decide)).2.1 (hsH23.2 0 69 rfl) ?_
                      refine ea_iload (pc := 136) dX12_post_136 7 rfl ?_
                      refine ea_iload (pc := 138) dX12_post_138 6 rfl ?_
                      obtain ⟨z24, E⟩ := gd_some E
                      refine ea_iast (pc := 140) dX12_post_140 (hsH23.1 43 (by decide)).1 (hsH23.1 43 (by decide)).2.1 (ea_vpl (hsH23.1 43 (by decide)).2.2 z24) ?_
                      have hs25 : ShM b0 (ea_wi H23 (b0 + 43) (Int32.toNatClampNeg (ea_i h (b0 + 0) 63)) x6) := ShM_wi hsH23
                      obtain ⟨H26, eH26, E⟩ := let_some E
                      refine ea_nm eH26 ?_
                      have hsH26 : ShM b0 H26 := by rw [eH26]; exact hs25
                      refine ea_aload_n (pc := 141) dX12_post_141 rfl 0 rfl ?_
                      refine ea_getR (pc := 142) dX12_post_142 ec_12 (k := 70) (Nat.le_of_ble_eq_true rfl) rfl (Or.inl ew_1415) (hsH26.1 0 (by decide)).1 (hsH26.1 0 (by decide)).2.1 (hsH26.2 0 70 rfl) ?_
                      refine ea_iload (pc := 145) dX12_post_145 7 rfl ?_
                      refine ea_aload_n (pc := 147) dX12_post_147 rfl 0 rfl ?_
                      refine ea_getI (pc := 148) dX12_post_148 ec_12 (k := 0) (Nat.le_of_ble_eq_true rfl) rfl (Or.inl ew_1345) (hsH26.1 0 (by decide)).1 (hsH26.1 0 (by decide)).2.1 ?_
                      obtain ⟨z27, E⟩ := gd_some E
                      refine ea_iast (pc := 151) dX12_post_151 (hsH26.1 44 (by decide)).1 (hsH26.1 44 (by decide)).2.1 (ea_vpl (hsH26.1 44 (by decide)).2.2 z27) ?_
                      have hs28 : ShM b0 (ea_wi H26 (b0 + 44) (Int32.toNatClampNeg (ea_i h (b0 + 0) 63)) (ea_i H26 (b0 + 0) 0)) := ShM_wi hsH26
                      obtain ⟨H29, eH29, E⟩ := let_some E
                      refine ea_nm eH29 ?_
                      have hsH29 : ShM b0 H29 := by rw [eH29]; exact hs28
                      refine ea_aload_n (pc := 152) dX12_post_152 rfl 0 rfl ?_
                      refine ea_getR (pc := 153) dX12_post_153 ec_12 (k := 71) (Nat.le_of_ble_eq_true rfl) rfl (Or.inl ew_1416) (hsH29.1 0 (by decide)).1 (hsH29.1 0 (by decide)).2.1 (hsH29.2 0 71 rfl) ?_
                      refine ea_iload (pc := 156) dX12_post_156 7 rfl ?_
                      refine ea_aload_n (pc := 158) dX12_post_158 rfl 0 rfl ?_
                      refine ea_iload_n (pc := 159) dX12_post_159 rfl 2 rfl ?_
                      refine ea_iload_n (pc := 160) dX12_post_160 rfl 3 rfl ?_
                      refine ea_iconst (pc := 161) dX12_post_161 (v := 0) rfl ?_
                      obtain ⟨z30, E⟩ := gd_some E
                      refine ea_callV (pc := 162) (d' := d - 1) (As := [vI x2, vI x3, vI 0]) (st := [vI (ea_i h (b0 + 0) 63), vR (some (b0 + 45))]) dX12_post_162 kX12_milesOf (sX12_milesOf (d := d - 1) (by omega) hsH29 z30) (by omega) rfl (Nat.le_of_ble_eq_true rfl) ew_1719 ew_1721 ew_48 (ci := 12) rfl (by decide) (hsH29.1 0 (by decide)).1 (hsH29.1 0 (by decide)).2.1 ?_
                      have hs31 : ShM b0 (wX12_milesOf b0 (x2 : Int32) (x3 : Int32) (0 : Int32) H29) := shX12_milesOf hsH29
                      obtain ⟨H32, eH32, E⟩ := let_some E
                      refine ea_nm eH32 ?_
                      have hsH32 : ShM b0 H32 := by rw [eH32]; exact hs31
                      obtain ⟨z33, E⟩ := gd_some E
                      refine ea_iast (pc := 165) dX12_post_165 (hsH32.1 45 (by decide)).1 (hsH32.1 45 (by decide)).2.1 (ea_vpl (hsH32.1 45 (by decide)).2.2 z33) ?_
                      have hs34 : ShM b0 (ea_wi H32 (b0 + 45) (Int32.toNatClampNeg (ea_i h (b0 + 0) 63)) (vX12_milesOf b0 (x2 : Int32) (x3 : Int32) (0 : Int32) H29)) := ShM_wi hsH32
                      obtain ⟨H35, eH35, E⟩ := let_some E
                      refine ea_nm eH35 ?_
                      have hsH35 : ShM b0 H35 := by rw [eH35]; exact hs34
                      refine ea_aload_n (pc := 166) dX12_post_166 rfl 0 rfl ?_
                      refine ea_getR (pc := 167) dX12_post_167 ec_12 (k := 78) (Nat.le_of_ble_eq_true rfl) rfl (Or.inl ew_1423) (hsH35.1 0 (by decide)).1 (hsH35.1 0 (by decide)).2.1 (hsH35.2 0 78 rfl) ?_
                      refine ea_iload (pc := 170) dX12_post_170 7 rfl ?_
                      refine ea_aload_n (pc := 172) dX12_post_172 rfl 0 rfl ?_
                      refine ea_iload_n (pc := 173) dX12_post_173 rfl 2 rfl ?_
                      refine ea_iload_n (pc := 174) dX12_post_174 rfl 3 rfl ?_
                      obtain ⟨z36, E⟩ := gd_some E
                      refine ea_callV (pc := 175) (d' := d - 1) (As := [vI x2, vI x3]) (st := [vI (ea_i h (b0 + 0) 63), vR (some (b0 + 52))]) dX12_post_175 kX12_isCross (sX12_isCross (d := d - 1) (by omega) hsH35 z36) (by omega) rfl (Nat.le_of_ble_eq_true rfl) ew_1983 ew_1985 ew_82 (ci := 12) rfl (by decide) (hsH35.1 0 (by decide)).1 (hsH35.1 0 (by decide)).2.1 ?_
                      have hs37 : ShM b0 (wX12_isCross b0 (x2 : Int32) (x3 : Int32) H35) := shX12_isCross hsH35
                      obtain ⟨H38, eH38, E⟩ := let_some E
                      refine ea_nm eH38 ?_
                      have hsH38 : ShM b0 H38 := by rw [eH38]; exact hs37
                      obtain ⟨z39, E⟩ := gd_some E
                      obtain ⟨z41, E⟩ := gd_some E
                      refine ea_zast (pc := 178) dX12_post_178 (y := (vX12_isCross b0 (x2 : Int32) (x3 : Int32) H35)) (ea_bn z41) (hsH38.1 52 (by decide)).1 (hsH38.1 52 (by decide)).2.1 (ea_vpl (hsH38.1 52 (by decide)).2.2 z39) ?_
                      have hs40 : ShM b0 (ea_wi H38 (b0 + 52) (Int32.toNatClampNeg (ea_i h (b0 + 0) 63)) (vX12_isCross b0 (x2 : Int32) (x3 : Int32) H35)) := ShM_wi hsH38
                      obtain ⟨H42, eH42, E⟩ := let_some E
                      refine ea_nm eH42 ?_
                      have hsH42 : ShM b0 H42 := by rw [eH42]; exact hs40
                      refine ea_aload_n (pc := 179) dX12_post_179 rfl 0 rfl ?_
                      refine ea_getR (pc := 180) dX12_post_180 ec_12 (k := 72) (Nat.le_of_ble_eq_true rfl) rfl (Or.inl ew_1417) (hsH42.1 0 (by decide)).1 (hsH42.1 0 (by decide)).2.1 (hsH42.2 0 72 rfl) ?_
                      refine ea_iload (pc := 183) dX12_post_183 7 rfl ?_
                      refine ea_iconst (pc := 185) dX12_post_185 (v := 0) rfl ?_
                      obtain ⟨z43, E⟩ := gd_some E
                      refine ea_iast (pc := 186) dX12_post_186 (hsH42.1 46 (by decide)).1 (hsH42.1 46 (by decide)).2.1 (ea_vpl (hsH42.1 46 (by decide)).2.2 z43) ?_
                      have hs44 : ShM b0 (ea_wi H42 (b0 + 46) (Int32.toNatClampNeg (ea_i h (b0 + 0) 63)) 0) := ShM_wi hsH42
                      obtain ⟨H45, eH45, E⟩ := let_some E
                      refine ea_nm eH45 ?_
                      have hsH45 : ShM b0 H45 := by rw [eH45]; exact hs44
                      refine ea_iconst (pc := 187) dX12_post_187 (v := 0) rfl ?_
                      refine ea_istore (pc := 188) (lv' := [(0, vR (some (b0 + 0))), (2, vI x2), (6, vI x6), (7, vI (ea_i h (b0 + 0) 63)), (8, vI 0)]) dX12_post_188 (Nat.le_of_ble_eq_true rfl) [1, 3, 7, 8, 0] rfl ?_
                      exact ((ih 190 0 0 0 (x2 : Int32) 0 0 0 (x6 : Int32) ((ea_i h (b0 + 0) 63) : Int32) (0 : Int32) H45 _ _ E hsH45).2.1 rfl)
                    · have E := (if_pos c46).symm.trans E
                      refine ea_iconst (pc := 72) dX12_post_72 (v := (-1)) rfl ?_
                      exact ea_iretO (pc := 73) dX12_post_73 rfl rfl E
    refine ⟨?_, ?_⟩
    · intro el
      subst el
      have E := (if_neg (by decide)).symm.trans E
      have E := (if_pos rfl).symm.trans E
      refine ea_iload (pc := 190) dX12_post_190 4 rfl ?_
      refine ea_iload (pc := 192) dX12_post_192 3 rfl ?_
      refine ea_icmp_gt (pc := 194) (tgt := 263) dX12_post_194 rfl (fun c84 => ?_) (fun c84 => ?_)
      · have E := (if_pos c84).symm.trans E
        refine ea_aload_n (pc := 263) dX12_post_263 rfl 0 rfl ?_
        refine ea_getR (pc := 264) dX12_post_264 ec_12 (k := 73) (Nat.le_of_ble_eq_true rfl) rfl (Or.inl ew_1418) (hs.1 0 (by decide)).1 (hs.1 0 (by decide)).2.1 (hs.2 0 73 rfl) ?_
        refine ea_iload (pc := 267) dX12_post_267 3 rfl ?_
        refine ea_aload_n (pc := 269) dX12_post_269 rfl 0 rfl ?_
        refine ea_aload_n (pc := 270) dX12_post_270 rfl 0 rfl ?_
        refine ea_getI (pc := 271) dX12_post_271 ec_12 (k := 0) (Nat.le_of_ble_eq_true rfl) rfl (Or.inl ew_1345) (hs.1 0 (by decide)).1 (hs.1 0 (by decide)).2.1 ?_
        refine ea_sipush (pc := 274) dX12_post_274 (v := 1440) rfl ?_
        refine ea_idiv (pc := 277) dX12_post_277 (by decide) ?_
        obtain ⟨z54, E⟩ := gd_some E
        refine ea_callV (pc := 278) (d' := d - 1) (As := [vI ((ea_i h (b0 + 0) 0) / (1440 : Int32))]) (st := [vI x7, vR (some (b0 + 47))]) dX12_post_278 kX12_actOn (sX12_actOn (d := d - 1) (by omega) hs z54) (by omega) rfl (Nat.le_of_ble_eq_true rfl) ew_1975 ew_1977 ew_81 (ci := 12) rfl (by decide) (hs.1 0 (by decide)).1 (hs.1 0 (by decide)).2.1 ?_
        have hs55 : ShM b0 (wX12_actOn b0 (((ea_i h (b0 + 0) 0) / (1440 : Int32)) : Int32) h) := shX12_actOn hs
        obtain ⟨H56, eH56, E⟩ := let_some E
        refine ea_nm eH56 ?_
        have hsH56 : ShM b0 H56 := by rw [eH56]; exact hs55
        obtain ⟨z57, E⟩ := gd_some E
        refine ea_iast (pc := 281) dX12_post_281 (hsH56.1 47 (by decide)).1 (hsH56.1 47 (by decide)).2.1 (ea_vpl (hsH56.1 47 (by decide)).2.2 z57) ?_
        have hs58 : ShM b0 (ea_wi H56 (b0 + 47) (Int32.toNatClampNeg x7) (vX12_actOn b0 (((ea_i h (b0 + 0) 0) / (1440 : Int32)) : Int32) h)) := ShM_wi hsH56
        obtain ⟨H59, eH59, E⟩ := let_some E
        refine ea_nm eH59 ?_
        have hsH59 : ShM b0 H59 := by rw [eH59]; exact hs58
        refine ea_aload_n (pc := 282) dX12_post_282 rfl 0 rfl ?_
        refine ea_getR (pc := 283) dX12_post_283 ec_12 (k := 79) (Nat.le_of_ble_eq_true rfl) rfl (Or.inl ew_1424) (hsH59.1 0 (by decide)).1 (hsH59.1 0 (by decide)).2.1 (hsH59.2 0 79 rfl) ?_
        refine ea_iload (pc := 286) dX12_post_286 3 rfl ?_
        refine ea_aload_n (pc := 288) dX12_post_288 rfl 0 rfl ?_
        refine ea_getR (pc := 289) dX12_post_289 ec_12 (k := 73) (Nat.le_of_ble_eq_true rfl) rfl (Or.inl ew_1418) (hsH59.1 0 (by decide)).1 (hsH59.1 0 (by decide)).2.1 (hsH59.2 0 73 rfl) ?_
        refine ea_iload (pc := 292) dX12_post_292 3 rfl ?_
        obtain ⟨z60, E⟩ := gd_some E
        refine ea_iald (pc := 294) dX12_post_294 (hsH59.1 47 (by decide)).1 (hsH59.1 47 (by decide)).2.1 (ea_vpl (hsH59.1 47 (by decide)).2.2 z60) ?_
        refine ea_iconst (pc := 295) dX12_post_295 (v := (-1)) rfl ?_
        refine ea_icmp_eq (pc := 296) (tgt := 319) dX12_post_296 rfl (fun c64 => ?_) (fun c64 => ?_)
        · have E := (if_pos c64).symm.trans E
          refine ea_iconst (pc := 319) dX12_post_319 (v := 0) rfl ?_
          exact (ea_fewer [0, 1, 3] rfl ((ih 320 (0 : Int32) (x7 : Int32) 0 (x2 : Int32) 0 0 0 0 (x7 : Int32) 0 H59 _ _ E hsH59).2.2.1 rfl))
        · have E := (if_neg c64).symm.trans E
          refine ea_aload_n (pc := 299) dX12_post_299 rfl 0 rfl ?_
          refine ea_iload (pc := 300) dX12_post_300 3 rfl ?_
          refine ea_aload_n (pc := 302) dX12_post_302 rfl 0 rfl ?_
          refine ea_getR (pc := 303) dX12_post_303 ec_12 (k := 73) (Nat.le_of_ble_eq_true rfl) rfl (Or.inl ew_1418) (hsH59.1 0 (by decide)).1 (hsH59.1 0 (by decide)).2.1 (hsH59.2 0 73 rfl) ?_
          refine ea_iload (pc := 306) dX12_post_306 3 rfl ?_
          obtain ⟨z61, E⟩ := gd_some E
          refine ea_iald (pc := 308) dX12_post_308 (hsH59.1 47 (by decide)).1 (hsH59.1 47 (by decide)).2.1 (ea_vpl (hsH59.1 47 (by decide)).2.2 z61) ?_
          obtain ⟨z62, E⟩ := gd_some E
          refine ea_callV (pc := 309) (d' := d - 1) (As := [vI x7, vI (ea_i H59 (b0 + 47) (Int32.toNatClampNeg x7))]) (st := [vI x7, vR (some (b0 + 53))]) dX12_post_309 kX12_isFree (sX12_isFree (d := d - 1) (by omega) hsH59 z62) (by omega) rfl (Nat.le_of_ble_eq_true rfl) ew_1987 ew_1989 ew_83 (ci := 12) rfl (by decide) (hsH59.1 0 (by decide)).1 (hsH59.1 0 (by decide)).2.1 ?_
          refine ea_if_eq (pc := 312) (tgt := 319) dX12_post_312 rfl (fun c63 => ?_) (fun c63 => ?_)
          · have E := (if_pos c63).symm.trans E
            refine ea_iconst (pc := 319) dX12_post_319 (v := 0) rfl ?_
            exact (ea_fewer [0, 1, 3] rfl ((ih 320 (0 : Int32) (x7 : Int32) 0 (x2 : Int32) 0 0 0 0 (x7 : Int32) 0 H59 _ _ E hsH59).2.2.1 rfl))
          · have E := (if_neg c63).symm.trans E
            refine ea_iconst (pc := 315) dX12_post_315 (v := 1) rfl ?_
            refine ea_goto (pc := 316) (tgt := 320) dX12_post_316 rfl ?_
            exact (ea_fewer [0, 1, 3] rfl ((ih 320 (1 : Int32) (x7 : Int32) 0 (x2 : Int32) 0 0 0 0 (x7 : Int32) 0 H59 _ _ E hsH59).2.2.1 rfl))
      · have E := (if_neg c84).symm.trans E
        refine ea_aload_n (pc := 197) dX12_post_197 rfl 0 rfl ?_
        refine ea_getR (pc := 198) dX12_post_198 ec_12 (k := 72) (Nat.le_of_ble_eq_true rfl) rfl (Or.inl ew_1417) (hs.1 0 (by decide)).1 (hs.1 0 (by decide)).2.1 (hs.2 0 72 rfl) ?_
        refine ea_iload (pc := 201) dX12_post_201 3 rfl ?_
        refine ea_dup2 (pc := 203) dX12_post_203 rfl rfl ?_
        obtain ⟨z65, E⟩ := gd_some E
        refine ea_iald (pc := 204) dX12_post_204 (hs.1 46 (by decide)).1 (hs.1 46 (by decide)).2.1 (ea_vpl (hs.1 46 (by decide)).2.2 z65) ?_
        refine ea_aload_n (pc := 205) dX12_post_205 rfl 0 rfl ?_
        refine ea_getR (pc := 206) dX12_post_206 ec_12 (k := 64) (Nat.le_of_ble_eq_true rfl) rfl (Or.inl ew_1409) (hs.1 0 (by decide)).1 (hs.1 0 (by decide)).2.1 (hs.2 0 64 rfl) ?_
        refine ea_iload (pc := 209) dX12_post_209 4 rfl ?_
        obtain ⟨z66, E⟩ := gd_some E
        refine ea_iald (pc := 211) dX12_post_211 (hs.1 38 (by decide)).1 (hs.1 38 (by decide)).2.1 (ea_vpl (hs.1 38 (by decide)).2.2 z66) ?_
        refine ea_iconst (pc := 212) dX12_post_212 (v := 2) rfl ?_
        refine ea_icmp_ne (pc := 213) (tgt := 254) dX12_post_213 rfl (fun c83 => ?_) (fun c83 => ?_)
        · have E := (if_neg c83).symm.trans E
          refine ea_iconst (pc := 254) dX12_post_254 (v := 0) rfl ?_
          refine ea_iadd (pc := 255) dX12_post_255 ?_
          obtain ⟨z67, E⟩ := gd_some E
          refine ea_iast (pc := 256) dX12_post_256 (hs.1 46 (by decide)).1 (hs.1 46 (by decide)).2.1 (ea_vpl (hs.1 46 (by decide)).2.2 z67) ?_
          have hs68 : ShM b0 (ea_wi h (b0 + 46) (Int32.toNatClampNeg x7) ((ea_i h (b0 + 46) (Int32.toNatClampNeg x7)) + (0 : Int32))) := ShM_wi hs
          obtain ⟨H69, eH69, E⟩ := let_some E
          refine ea_nm eH69 ?_
          have hsH69 : ShM b0 H69 := by rw [eH69]; exact hs68
          refine ea_iinc (pc := 257) (v := 1) (lv' := [(0, vR (some (b0 + 0))), (2, vI x2), (6, vI x6), (7, vI x7), (8, vI (x8 + (1 : Int32)))]) dX12_post_257 4 rfl rfl (Nat.le_of_ble_eq_true rfl) [1, 2, 3, 4, 0] rfl ?_
          refine ea_goto (pc := 260) (tgt := 190) dX12_post_260 rfl ?_
          exact ((ih 190 0 0 0 (x2 : Int32) 0 0 0 (x6 : Int32) (x7 : Int32) ((x8 + (1 : Int32)) : Int32) H69 _ _ E hsH69).2.1 rfl)
        · have E := (if_pos c83).symm.trans E
          refine ea_aload_n (pc := 216) dX12_post_216 rfl 0 rfl ?_
          refine ea_getR (pc := 217) dX12_post_217 ec_12 (k := 69) (Nat.le_of_ble_eq_true rfl) rfl (Or.inl ew_1414) (hs.1 0 (by decide)).1 (hs.1 0 (by decide)).2.1 (hs.2 0 69 rfl) ?_
          refine ea_iload (pc := 220) dX12_post_220 4 rfl ?_
          obtain ⟨z70, E⟩ := gd_some E
          refine ea_iald (pc := 222) dX12_post_222 (hs.1 43 (by decide)).1 (hs.1 43 (by decide)).2.1 (ea_vpl (hs.1 43 (by decide)).2.2 z70) ?_
          refine ea_iload (pc := 223) dX12_post_223 2 rfl ?_
          refine ea_icmp_ne (pc := 225) (tgt := 254) dX12_post_225 rfl (fun c82 => ?_) (fun c82 => ?_)
          · have E := (if_neg c82).symm.trans E
            refine ea_iconst (pc := 254) dX12_post_254 (v := 0) rfl ?_
            refine ea_iadd (pc := 255) dX12_post_255 ?_
            obtain ⟨z71, E⟩ := gd_some E
            refine ea_iast (pc := 256) dX12_post_256 (hs.1 46 (by decide)).1 (hs.1 46 (by decide)).2.1 (ea_vpl (hs.1 46 (by decide)).2.2 z71) ?_
            have hs72 : ShM b0 (ea_wi h (b0 + 46) (Int32.toNatClampNeg x7) ((ea_i h (b0 + 46) (Int32.toNatClampNeg x7)) + (0 : Int32))) := ShM_wi hs
            obtain ⟨H73, eH73, E⟩ := let_some E
            refine ea_nm eH73 ?_
            have hsH73 : ShM b0 H73 := by rw [eH73]; exact hs72
            refine ea_iinc (pc := 257) (v := 1) (lv' := [(0, vR (some (b0 + 0))), (2, vI x2), (6, vI x6), (7, vI x7), (8, vI (x8 + (1 : Int32)))]) dX12_post_257 4 rfl rfl (Nat.le_of_ble_eq_true rfl) [1, 2, 3, 4, 0] rfl ?_
            refine ea_goto (pc := 260) (tgt := 190) dX12_post_260 rfl ?_
            exact ((ih 190 0 0 0 (x2 : Int32) 0 0 0 (x6 : Int32) (x7 : Int32) ((x8 + (1 : Int32)) : Int32) H73 _ _ E hsH73).2.1 rfl)
          · have E := (if_pos c82).symm.trans E
            refine ea_aload_n (pc := 228) dX12_post_228 rfl 0 rfl ?_
            refine ea_getR (pc := 229) dX12_post_229 ec_12 (k := 70) (Nat.le_of_ble_eq_true rfl) rfl (Or.inl ew_1415) (hs.1 0 (by decide)).1 (hs.1 0 (by decide)).2.1 (hs.2 0 70 rfl) ?_
            refine ea_iload (pc := 232) dX12_post_232 4 rfl ?_
            obtain ⟨z74, E⟩ := gd_some E
            refine ea_iald (pc := 234) dX12_post_234 (hs.1 44 (by decide)).1 (hs.1 44 (by decide)).2.1 (ea_vpl (hs.1 44 (by decide)).2.2 z74) ?_
            refine ea_sipush (pc := 235) dX12_post_235 (v := 1440) rfl ?_
            refine ea_idiv (pc := 238) dX12_post_238 (by decide) ?_
            refine ea_aload_n (pc := 239) dX12_post_239 rfl 0 rfl ?_
            refine ea_getI (pc := 240) dX12_post_240 ec_12 (k := 0) (Nat.le_of_ble_eq_true rfl) rfl (Or.inl ew_1345) (hs.1 0 (by decide)).1 (hs.1 0 (by decide)).2.1 ?_
            refine ea_sipush (pc := 243) dX12_post_243 (v := 1440) rfl ?_
            refine ea_idiv (pc := 246) dX12_post_246 (by decide) ?_
            refine ea_icmp_ne (pc := 247) (tgt := 254) dX12_post_247 rfl (fun c81 => ?_) (fun c81 => ?_)
            · have E := (if_neg c81).symm.trans E
              refine ea_iconst (pc := 254) dX12_post_254 (v := 0) rfl ?_
              refine ea_iadd (pc := 255) dX12_post_255 ?_
              obtain ⟨z75, E⟩ := gd_some E
              refine ea_iast (pc := 256) dX12_post_256 (hs.1 46 (by decide)).1 (hs.1 46 (by decide)).2.1 (ea_vpl (hs.1 46 (by decide)).2.2 z75) ?_
              have hs76 : ShM b0 (ea_wi h (b0 + 46) (Int32.toNatClampNeg x7) ((ea_i h (b0 + 46) (Int32.toNatClampNeg x7)) + (0 : Int32))) := ShM_wi hs
              obtain ⟨H77, eH77, E⟩ := let_some E
              refine ea_nm eH77 ?_
              have hsH77 : ShM b0 H77 := by rw [eH77]; exact hs76
              refine ea_iinc (pc := 257) (v := 1) (lv' := [(0, vR (some (b0 + 0))), (2, vI x2), (6, vI x6), (7, vI x7), (8, vI (x8 + (1 : Int32)))]) dX12_post_257 4 rfl rfl (Nat.le_of_ble_eq_true rfl) [1, 2, 3, 4, 0] rfl ?_
              refine ea_goto (pc := 260) (tgt := 190) dX12_post_260 rfl ?_
              exact ((ih 190 0 0 0 (x2 : Int32) 0 0 0 (x6 : Int32) (x7 : Int32) ((x8 + (1 : Int32)) : Int32) H77 _ _ E hsH77).2.1 rfl)
            · have E := (if_pos c81).symm.trans E
              refine ea_iconst (pc := 250) dX12_post_250 (v := 1) rfl ?_
              refine ea_goto (pc := 251) (tgt := 255) dX12_post_251 rfl ?_
              refine ea_iadd (pc := 255) dX12_post_255 ?_
              obtain ⟨z78, E⟩ := gd_some E
              refine ea_iast (pc := 256) dX12_post_256 (hs.1 46 (by decide)).1 (hs.1 46 (by decide)).2.1 (ea_vpl (hs.1 46 (by decide)).2.2 z78) ?_
              have hs79 : ShM b0 (ea_wi h (b0 + 46) (Int32.toNatClampNeg x7) ((ea_i h (b0 + 46) (Int32.toNatClampNeg x7)) + (1 : Int32))) := ShM_wi hs
              obtain ⟨H80, eH80, E⟩ := let_some E
              refine ea_nm eH80 ?_
              have hsH80 : ShM b0 H80 := by rw [eH80]; exact hs79
              refine ea_iinc (pc := 257) (v := 1) (lv' := [(0, vR (some (b0 + 0))), (2, vI x2), (6, vI x6), (7, vI x7), (8, vI (x8 + (1 : Int32)))]) dX12_post_257 4 rfl rfl (Nat.le_of_ble_eq_true rfl) [1, 2, 3, 4, 0] rfl ?_
              refine ea_goto (pc := 260) (tgt := 190) dX12_post_260 rfl ?_
              exact ((ih 190 0 0 0 (x2 : Int32) 0 0 0 (x6 : Int32) (x7 : Int32) ((x8 + (1 : Int32)) : Int32) H80 _ _ E hsH80).2.1 rfl)
    refine ⟨?_, ?_⟩
    · intro el
      subst el
      have E := (if_neg (by decide)).symm.trans E
      have E := (if_neg (by decide)).symm.trans E
      have E := (if_pos rfl).symm.trans E
      obtain ⟨z85, E⟩ := gd_some E
      obtain ⟨z87, E⟩ := gd_some E
      refine ea_zast (pc := 320) dX12_post_320 (y := sx0) (ea_bn z87) (hs.1 53 (by decide)).1 (hs.1 53 (by decide)).2.1 (ea_vpl (hs.1 53 (by decide)).2.2 z85) ?_
      have hs86 : ShM b0 (ea_wi h (b0 + 53) (Int32.toNatClampNeg sx1) sx0) := ShM_wi hs
      obtain ⟨H88, eH88, E⟩ := let_some E
      refine ea_nm eH88 ?_
      have hsH88 : ShM b0 H88 := by rw [eH88]; exact hs86
      refine ea_aload_n (pc := 321) dX12_post_321 rfl 0 rfl ?_
      refine ea_getR (pc := 322) dX12_post_322 ec_12 (k := 74) (Nat.le_of_ble_eq_true rfl) rfl (Or.inl ew_1419) (hsH88.1 0 (by decide)).1 (hsH88.1 0 (by decide)).2.1 (hsH88.2 0 74 rfl) ?_
      refine ea_iload (pc := 325) dX12_post_325 2 rfl ?_
      refine ea_aload_n (pc := 327) dX12_post_327 rfl 0 rfl ?_
      refine ea_getR (pc := 328) dX12_post_328 ec_12 (k := 73) (Nat.le_of_ble_eq_true rfl) rfl (Or.inl ew_1418) (hsH88.1 0 (by decide)).1 (hsH88.1 0 (by decide)).2.1 (hsH88.2 0 73 rfl) ?_
      refine ea_iload (pc := 331) dX12_post_331 2 rfl ?_
      obtain ⟨z89, E⟩ := gd_some E
      refine ea_iald (pc := 333) dX12_post_333 (hsH88.1 47 (by decide)).1 (hsH88.1 47 (by decide)).2.1 (ea_vpl (hsH88.1 47 (by decide)).2.2 z89) ?_
      refine ea_iconst (pc := 334) dX12_post_334 (v := (-1)) rfl ?_
      refine ea_icmp_ne (pc := 335) (tgt := 342) dX12_post_335 rfl (fun c94 => ?_) (fun c94 => ?_)
      · have E := (if_neg c94).symm.trans E
        refine ea_aload_n (pc := 342) dX12_post_342 rfl 0 rfl ?_
        refine ea_iload (pc := 343) dX12_post_343 2 rfl ?_
        refine ea_aload_n (pc := 345) dX12_post_345 rfl 0 rfl ?_
        refine ea_getR (pc := 346) dX12_post_346 ec_12 (k := 73) (Nat.le_of_ble_eq_true rfl) rfl (Or.inl ew_1418) (hsH88.1 0 (by decide)).1 (hsH88.1 0 (by decide)).2.1 (hsH88.2 0 73 rfl) ?_
        refine ea_iload (pc := 349) dX12_post_349 2 rfl ?_
        obtain ⟨z90, E⟩ := gd_some E
        refine ea_iald (pc := 351) dX12_post_351 (hsH88.1 47 (by decide)).1 (hsH88.1 47 (by decide)).2.1 (ea_vpl (hsH88.1 47 (by decide)).2.2 z90) ?_
        obtain ⟨z91, E⟩ := gd_some E
        refine ea_callV (pc := 352) (d' := d - 1) (As := [vI x7, vI (ea_i H88 (b0 + 47) (Int32.toNatClampNeg x7))]) (st := [vI x7, vR (some (b0 + 48))]) dX12_post_352 kX12_chargeBy (sX12_chargeBy (d := d - 1) (by omega) hsH88 z91) (by omega) rfl (Nat.le_of_ble_eq_true rfl) ew_1991 ew_1993 ew_84 (ci := 12) rfl (by decide) (hsH88.1 0 (by decide)).1 (hsH88.1 0 (by decide)).2.1 ?_
        have hs92 : ShM b0 (wX12_chargeBy b0 (x7 : Int32) ((ea_i H88 (b0 + 47) (Int32.toNatClampNeg x7)) : Int32) H88) := shX12_chargeBy hsH88
        obtain ⟨H93, eH93, E⟩ := let_some E
        refine ea_nm eH93 ?_
        have hsH93 : ShM b0 H93 := by rw [eH93]; exact hs92
        exact ((ih 355 ((vX12_chargeBy b0 (x7 : Int32) ((ea_i H88 (b0 + 47) (Int32.toNatClampNeg x7)) : Int32) H88) : Int32) (x7 : Int32) 0 (x2 : Int32) 0 0 0 0 (x7 : Int32) 0 H93 _ _ E hsH93).2.2.2.1 rfl)
      · have E := (if_pos c94).symm.trans E
        refine ea_iconst (pc := 338) dX12_post_338 (v := 0) rfl ?_
        refine ea_goto (pc := 339) (tgt := 355) dX12_post_339 rfl ?_
        exact ((ih 355 (0 : Int32) (x7 : Int32) 0 (x2 : Int32) 0 0 0 0 (x7 : Int32) 0 H88 _ _ E hsH88).2.2.2.1 rfl)
    refine ⟨?_, ?_⟩
    · intro el
      subst el
      have E := (if_neg (by decide)).symm.trans E
      have E := (if_neg (by decide)).symm.trans E
      have E := (if_neg (by decide)).symm.trans E
      have E := (if_pos rfl).symm.trans E
      obtain ⟨z95, E⟩ := gd_some E
      refine ea_iast (pc := 355) dX12_post_355 (hs.1 48 (by decide)).1 (hs.1 48 (by decide)).2.1 (ea_vpl (hs.1 48 (by decide)).2.2 z95) ?_
      have hs96 : ShM b0 (ea_wi h (b0 + 48) (Int32.toNatClampNeg sx1) sx0) := ShM_wi hs
      obtain ⟨H97, eH97, E⟩ := let_some E
      refine ea_nm eH97 ?_
      have hsH97 : ShM b0 H97 := by rw [eH97]; exact hs96
      refine ea_aload_n (pc := 356) dX12_post_356 rfl 0 rfl ?_
      refine ea_getR (pc := 357) dX12_post_357 ec_12 (k := 75) (Nat.le_of_ble_eq_true rfl) rfl (Or.inl ew_1420) (hsH97.1 0 (by decide)).1 (hsH97.1 0 (by decide)).2.1 (hsH97.2 0 75 rfl) ?_
      refine ea_iload (pc := 360) dX12_post_360 2 rfl ?_
      refine ea_aload_n (pc := 362) dX12_post_362 rfl 0 rfl ?_
      refine ea_getR (pc := 363) dX12_post_363 ec_12 (k := 73) (Nat.le_of_ble_eq_true rfl) rfl (Or.inl ew_1418) (hsH97.1 0 (by decide)).1 (hsH97.1 0 (by decide)).2.1 (hsH97.2 0 73 rfl) ?_
      refine ea_iload (pc := 366) dX12_post_366 2 rfl ?_
      obtain ⟨z98, E⟩ := gd_some E
      refine ea_iald (pc := 368) dX12_post_368 (hsH97.1 47 (by decide)).1 (hsH97.1 47 (by decide)).2.1 (ea_vpl (hsH97.1 47 (by decide)).2.2 z98) ?_
      refine ea_iconst (pc := 369) dX12_post_369 (v := (-1)) rfl ?_
      refine ea_icmp_ne (pc := 370) (tgt := 377) dX12_post_370 rfl (fun c103 => ?_) (fun c103 => ?_)
      · have E := (if_neg c103).symm.trans E
        refine ea_aload_n (pc := 377) dX12_post_377 rfl 0 rfl ?_
        refine ea_iload (pc := 378) dX12_post_378 2 rfl ?_
        refine ea_aload_n (pc := 380) dX12_post_380 rfl 0 rfl ?_
        refine ea_getR (pc := 381) dX12_post_381 ec_12 (k := 73) (Nat.le_of_ble_eq_true rfl) rfl (Or.inl ew_1418) (hsH97.1 0 (by decide)).1 (hsH97.1 0 (by decide)).2.1 (hsH97.2 0 73 rfl) ?_
        refine ea_iload (pc := 384) dX12_post_384 2 rfl ?_
        obtain ⟨z99, E⟩ := gd_some E
        refine ea_iald (pc := 386) dX12_post_386 (hsH97.1 47 (by decide)).1 (hsH97.1 47 (by decide)).2.1 (ea_vpl (hsH97.1 47 (by decide)).2.2 z99) ?_
        obtain ⟨z100, E⟩ := gd_some E
        refine ea_callV (pc := 387) (d' := d - 1) (As := [vI x7, vI (ea_i H97 (b0 + 47) (Int32.toNatClampNeg x7))]) (st := [vI x7, vR (some (b0 + 49))]) dX12_post_387 kX12_lineOf (sX12_lineOf (d := d - 1) (by omega) hsH97 z100) (by omega) rfl (Nat.le_of_ble_eq_true rfl) ew_1995 ew_1997 ew_85 (ci := 12) rfl (by decide) (hsH97.1 0 (by decide)).1 (hsH97.1 0 (by decide)).2.1 ?_
        have hs101 : ShM b0 (wX12_lineOf b0 (x7 : Int32) ((ea_i H97 (b0 + 47) (Int32.toNatClampNeg x7)) : Int32) H97) := shX12_lineOf hsH97
        obtain ⟨H102, eH102, E⟩ := let_some E
        refine ea_nm eH102 ?_
        have hsH102 : ShM b0 H102 := by rw [eH102]; exact hs101
        exact ((ih 390 ((vX12_lineOf b0 (x7 : Int32) ((ea_i H97 (b0 + 47) (Int32.toNatClampNeg x7)) : Int32) H97) : Int32) (x7 : Int32) 0 (x2 : Int32) 0 0 0 0 (x7 : Int32) 0 H102 _ _ E hsH102).2.2.2.2 rfl)
      · have E := (if_pos c103).symm.trans E
        refine ea_iconst (pc := 373) dX12_post_373 (v := (-1)) rfl ?_
        refine ea_goto (pc := 374) (tgt := 390) dX12_post_374 rfl ?_
        exact ((ih 390 ((-1) : Int32) (x7 : Int32) 0 (x2 : Int32) 0 0 0 0 (x7 : Int32) 0 H97 _ _ E hsH97).2.2.2.2 rfl)
    intro el
    subst el
    have E := (if_neg (by decide)).symm.trans E
    have E := (if_neg (by decide)).symm.trans E
    have E := (if_neg (by decide)).symm.trans E
    have E := (if_neg (by decide)).symm.trans E
    have E := (if_pos rfl).symm.trans E
    obtain ⟨z104, E⟩ := gd_some E
    refine ea_iast (pc := 390) dX12_post_390 (hs.1 49 (by decide)).1 (hs.1 49 (by decide)).2.1 (ea_vpl (hs.1 49 (by decide)).2.2 z104) ?_
    have hs105 : ShM b0 (ea_wi h (b0 + 49) (Int32.toNatClampNeg sx1) sx0) := ShM_wi hs
    obtain ⟨H106, eH106, E⟩ := let_some E
    refine ea_nm eH106 ?_
    have hsH106 : ShM b0 H106 := by rw [eH106]; exact hs105
    refine ea_aload_n (pc := 391) dX12_post_391 rfl 0 rfl ?_
    refine ea_getR (pc := 392) dX12_post_392 ec_12 (k := 83) (Nat.le_of_ble_eq_true rfl) rfl (Or.inl ew_1428) (hsH106.1 0 (by decide)).1 (hsH106.1 0 (by decide)).2.1 (hsH106.2 0 83 rfl) ?_
    refine ea_iload (pc := 395) dX12_post_395 2 rfl ?_
    refine ea_iconst (pc := 397) dX12_post_397 (v := (-1)) rfl ?_
    obtain ⟨z107, E⟩ := gd_some E
    refine ea_iast (pc := 398) dX12_post_398 (hsH106.1 57 (by decide)).1 (hsH106.1 57 (by decide)).2.1 (ea_vpl (hsH106.1 57 (by decide)).2.2 z107) ?_
    have hs108 : ShM b0 (ea_wi H106 (b0 + 57) (Int32.toNatClampNeg x7) (-1)) := ShM_wi hsH106
    obtain ⟨H109, eH109, E⟩ := let_some E
    refine ea_nm eH109 ?_
    have hsH109 : ShM b0 H109 := by rw [eH109]; exact hs108
    refine ea_aload_n (pc := 399) dX12_post_399 rfl 0 rfl ?_
    refine ea_iload (pc := 400) dX12_post_400 2 rfl ?_
    refine ea_aload_n (pc := 402) dX12_post_402 rfl 0 rfl ?_
    refine ea_getI (pc := 403) dX12_post_403 ec_12 (k := 0) (Nat.le_of_ble_eq_true rfl) rfl (Or.inl ew_1345) (hsH109.1 0 (by decide)).1 (hsH109.1 0 (by decide)).2.1 ?_
    refine ea_iconst (pc := 406) dX12_post_406 (v := 0) rfl ?_
    refine ea_iload_n (pc := 407) dX12_post_407 rfl 1 rfl ?_
    obtain ⟨z110, E⟩ := gd_some E
    refine ea_callV (pc := 408) (d' := d - 1) (As := [vI x7, vI (ea_i H109 (b0 + 0) 0), vI 0, vI x2]) (st := []) dX12_post_408 kX12_turns (sX12_turns (d := d - 1) (by omega) hsH109 z110) (by omega) rfl (Nat.le_of_ble_eq_true rfl) ew_2011 ew_2013 ew_88 (ci := 12) rfl (by decide) (hsH109.1 0 (by decide)).1 (hsH109.1 0 (by decide)).2.1 ?_
    have hs111 : ShM b0 (wX12_turns b0 (x7 : Int32) ((ea_i H109 (b0 + 0) 0) : Int32) (0 : Int32) (x2 : Int32) H109) := shX12_turns hsH109
    obtain ⟨H112, eH112, E⟩ := let_some E
    refine ea_nm eH112 ?_
    have hsH112 : ShM b0 H112 := by rw [eH112]; exact hs111
    refine ea_iload (pc := 411) dX12_post_411 2 rfl ?_
    exact ea_iretO (pc := 413) dX12_post_413 rfl rfl E
noncomputable def qX12_post (b0 : Nat) (x1 : Int32) (x2 : Int32) (x3 : Int32) (x4 : Int32) (x5 : Int32) (x6 : Int32) (h : ea_H) : Option (Int32 × ea_H) := gX12_post b0 1000000000 0 0 0 x1 x2 x3 x4 x5 x6 0 0 h
def okX12_post (b0 : Nat) (x1 : Int32) (x2 : Int32) (x3 : Int32) (x4 : Int32) (x5 : Int32) (x6 : Int32) (h : ea_H) : Prop := ∃ x, qX12_post b0 x1 x2 x3 x4 x5 x6 h = some x
noncomputable def vX12_post (b0 : Nat) (x1 : Int32) (x2 : Int32) (x3 : Int32) (x4 : Int32) (x5 : Int32) (x6 : Int32) (h : ea_H) : Int32 := ((qX12_post b0 x1 x2 x3 x4 x5 x6 h).getD (0, h)).1
noncomputable def wX12_post (b0 : Nat) (x1 : Int32) (x2 : Int32) (x3 : Int32) (x4 : Int32) (x5 : Int32) (x6 : Int32) (h : ea_H) : ea_H := ((qX12_post b0 x1 x2 x3 x4 x5 x6 h).getD (0, h)).2
theorem sX12_post {d : Nat} {b0 : Nat} {x1 : Int32} {x2 : Int32} {x3 : Int32} {x4 : Int32} {x5 : Int32} {x6 : Int32} {h : ea_H} (hd : 5 ≤ d) (hs : ShM b0 h) (K : okX12_post b0 x1 x2 x3 x4 x5 x6 h) : ea_Met mX12_post d [vR (some (b0 + 0)), vI x1, vI x2, vI x3, vI x4, vI x5, vI x6] h (some (vI (vX12_post b0 x1 x2 x3 x4 x5 x6 h))) (wX12_post b0 x1 x2 x3 x4 x5 x6 h) := by
  obtain ⟨⟨x, y⟩, K⟩ := K
  unfold wX12_post vX12_post
  rw [K]
  unfold qX12_post at K
  exact ea_enter rfl (Nat.le_of_ble_eq_true rfl) ((tX12_post hd 1000000000 0 0 0 x1 x2 x3 x4 x5 x6 0 0 h x y K hs).1 rfl)
theorem zX12_post {b0 : Nat} : ∀ (f lbl : Nat) (sx0 : Int32) (sx1 : Int32) (x1 : Int32) (x2 : Int32) (x3 : Int32) (x4 : Int32) (x5 : Int32) (x6 : Int32) (x7 : Int32) (x8 : Int32) (h : ea_H) (r : Int32) (h' : ea_H), gX12_post b0 f lbl sx0 sx1 x1 x2 x3 x4 x5 x6 x7 x8 h = some (r, h') → ShM b0 h → ShM b0 h' := by
  intro f
  induction f with
  | zero => intro lbl sx0 sx1 x1 x2 x3 x4 x5 x6 x7 x8 h r h' E; cases E
  | succ f ih =>
    intro lbl sx0 sx1 x1 x2 x3 x4 x5 x6 x7 x8 h r h' E hs
    unfold gX12_post at E
    by_cases el0 : lbl = 0
    · have E := (if_pos el0).symm.trans E
      by_cases c53 : (vX12_isIn (x1 : Int32) (0 : Int32) (4 : Int32) h) = (0 : Int32)
      · have E := (if_pos c53).symm.trans E
        exact ea_shO E hs
      have E := (if_neg c53).symm.trans E
      by_cases c52 : (vX12_isTown b0 (x2 : Int32) h) = (0 : Int32)
      · have E := (if_pos c52).symm.trans E
        exact ea_shO E hs
      have E := (if_neg c52).symm.trans E
      by_cases c51 : (vX12_isTown b0 (x3 : Int32) h) = (0 : Int32)
      · have E := (if_pos c51).symm.trans E
        exact ea_shO E hs
      have E := (if_neg c51).symm.trans E
      by_cases c50 : x2 = x3
      · have E := (if_pos c50).symm.trans E
        exact ea_shO E hs
      have E := (if_neg c50).symm.trans E
      by_cases c49 : (vX12_isIn (x4 : Int32) (1 : Int32) (9 : Int32) h) = (0 : Int32)
      · have E := (if_pos c49).symm.trans E
        exact ea_shO E hs
      have E := (if_neg c49).symm.trans E
      by_cases c48 : (vX12_isIn (x5 : Int32) (0 : Int32) (99 : Int32) h) = (0 : Int32)
      · have E := (if_pos c48).symm.trans E
        exact ea_shO E hs
      have E := (if_neg c48).symm.trans E
      by_cases c47 : (vX12_isIn (x6 : Int32) (0 : Int32) (9 : Int32) h) = (0 : Int32)
      · have E := (if_pos c47).symm.trans E
        exact ea_shO E hs
      have E := (if_neg c47).symm.trans E
      by_cases c46 : (ea_i h (b0 + 0) 63) = (120 : Int32)
      · have E := (if_pos c46).symm.trans E
        exact ea_shO E hs
      have E := (if_neg c46).symm.trans E
      obtain ⟨H8, eH8, E⟩ := let_some E
      have hsH8 : ShM b0 H8 := by rw [eH8]; exact (ShM_wi hs)
      obtain ⟨z9, E⟩ := gd_some E
      obtain ⟨H11, eH11, E⟩ := let_some E
      have hsH11 : ShM b0 H11 := by rw [eH11]; exact (ShM_wi hsH8)
      obtain ⟨z12, E⟩ := gd_some E
      obtain ⟨H14, eH14, E⟩ := let_some E
      have hsH14 : ShM b0 H14 := by rw [eH14]; exact (ShM_wi hsH11)
      obtain ⟨z15, E⟩ := gd_some E
      obtain ⟨H17, eH17, E⟩ := let_some E
      have hsH17 : ShM b0 H17 := by rw [eH17]; exact (ShM_wi hsH14)
      obtain ⟨z18, E⟩ := gd_some E
      obtain ⟨H20, eH20, E⟩ := let_some E
      have hsH20 : ShM b0 H20 := by rw [eH20]; exact (ShM_wi hsH17)
      obtain ⟨z21, E⟩ := gd_some E
      obtain ⟨H23, eH23, E⟩ := let_some E
      have hsH23 : ShM b0 H23 := by rw [eH23]; exact (ShM_wi hsH20)
      obtain ⟨z24, E⟩ := gd_some E
      obtain ⟨H26, eH26, E⟩ := let_some E
      have hsH26 : ShM b0 H26 := by rw [eH26]; exact (ShM_wi hsH23)
      obtain ⟨z27, E⟩ := gd_some E
      obtain ⟨H29, eH29, E⟩ := let_some E
      have hsH29 : ShM b0 H29 := by rw [eH29]; exact (ShM_wi hsH26)
      obtain ⟨z30, E⟩ := gd_some E
      obtain ⟨H32, eH32, E⟩ := let_some E
      have hsH32 : ShM b0 H32 := by rw [eH32]; exact (shX12_milesOf hsH29)
      obtain ⟨z33, E⟩ := gd_some E
      obtain ⟨H35, eH35, E⟩ := let_some E
      have hsH35 : ShM b0 H35 := by rw [eH35]; exact (ShM_wi hsH32)
      obtain ⟨z36, E⟩ := gd_some E
      obtain ⟨H38, eH38, E⟩ := let_some E
      have hsH38 : ShM b0 H38 := by rw [eH38]; exact (shX12_isCross hsH35)
      obtain ⟨z39, E⟩ := gd_some E
      obtain ⟨z41, E⟩ := gd_some E
      obtain ⟨H42, eH42, E⟩ := let_some E
      have hsH42 : ShM b0 H42 := by rw [eH42]; exact (ShM_wi hsH38)
      obtain ⟨z43, E⟩ := gd_some E
      obtain ⟨H45, eH45, E⟩ := let_some E
      have hsH45 : ShM b0 H45 := by rw [eH45]; exact (ShM_wi hsH42)
      exact ih 190 0 0 0 (x2 : Int32) 0 0 0 (x6 : Int32) ((ea_i h (b0 + 0) 63) : Int32) (0 : Int32) H45 _ _ E hsH45
    have E := (if_neg el0).symm.trans E
    by_cases el1 : lbl = 190
    · have E := (if_pos el1).symm.trans E
      by_cases c84 : x7 < x8
      · have E := (if_pos c84).symm.trans E
        obtain ⟨z54, E⟩ := gd_some E
        obtain ⟨H56, eH56, E⟩ := let_some E
        have hsH56 : ShM b0 H56 := by rw [eH56]; exact (shX12_actOn hs)
        obtain ⟨z57, E⟩ := gd_some E
        obtain ⟨H59, eH59, E⟩ := let_some E
        have hsH59 : ShM b0 H59 := by rw [eH59]; exact (ShM_wi hsH56)
        obtain ⟨z60, E⟩ := gd_some E
        by_cases c64 : (ea_i H59 (b0 + 47) (Int32.toNatClampNeg x7)) = ((-1) : Int32)
        · have E := (if_pos c64).symm.trans E
          exact ih 320 (0 : Int32) (x7 : Int32) 0 (x2 : Int32) 0 0 0 0 (x7 : Int32) 0 H59 _ _ E hsH59
        have E := (if_neg c64).symm.trans E
        obtain ⟨z61, E⟩ := gd_some E
        obtain ⟨z62, E⟩ := gd_some E
        by_cases c63 : (vX12_isFree b0 (x7 : Int32) ((ea_i H59 (b0 + 47) (Int32.toNatClampNeg x7)) : Int32) H59) = (0 : Int32)
        · have E := (if_pos c63).symm.trans E
          exact ih 320 (0 : Int32) (x7 : Int32) 0 (x2 : Int32) 0 0 0 0 (x7 : Int32) 0 H59 _ _ E hsH59
        have E := (if_neg c63).symm.trans E
        exact ih 320 (1 : Int32) (x7 : Int32) 0 (x2 : Int32) 0 0 0 0 (x7 : Int32) 0 H59 _ _ E hsH59
      have E := (if_neg c84).symm.trans E
      obtain ⟨z65, E⟩ := gd_some E
      obtain ⟨z66, E⟩ := gd_some E
      by_cases c83 : (ea_i h (b0 + 38) (Int32.toNatClampNeg x8)) = (2 : Int32)
      · have E := (if_pos c83).symm.trans E
        obtain ⟨z70, E⟩ := gd_some E
        by_cases c82 : (ea_i h (b0 + 43) (Int32.toNatClampNeg x8)) = x6
        · have E := (if_pos c82).symm.trans E
          obtain ⟨z74, E⟩ := gd_some E
          by_cases c81 : ((ea_i h (b0 + 44) (Int32.toNatClampNeg x8)) / (1440 : Int32)) = ((ea_i h (b0 + 0) 0) / (1440 : Int32))
          · have E := (if_pos c81).symm.trans E
            obtain ⟨z78, E⟩ := gd_some E
            obtain ⟨H80, eH80, E⟩ := let_some E
            have hsH80 : ShM b0 H80 := by rw [eH80]; exact (ShM_wi hs)
            exact ih 190 0 0 0 (x2 : Int32) 0 0 0 (x6 : Int32) (x7 : Int32) ((x8 + (1 : Int32)) : Int32) H80 _ _ E hsH80
          have E := (if_neg c81).symm.trans E
          obtain ⟨z75, E⟩ := gd_some E
          obtain ⟨H77, eH77, E⟩ := let_some E
          have hsH77 : ShM b0 H77 := by rw [eH77]; exact (ShM_wi hs)
          exact ih 190 0 0 0 (x2 : Int32) 0 0 0 (x6 : Int32) (x7 : Int32) ((x8 + (1 : Int32)) : Int32) H77 _ _ E hsH77
        have E := (if_neg c82).symm.trans E
        obtain ⟨z71, E⟩ := gd_some E
        obtain ⟨H73, eH73, E⟩ := let_some E
        have hsH73 : ShM b0 H73 := by rw [eH73]; exact (ShM_wi hs)
        exact ih 190 0 0 0 (x2 : Int32) 0 0 0 (x6 : Int32) (x7 : Int32) ((x8 + (1 : Int32)) : Int32) H73 _ _ E hsH73
      have E := (if_neg c83).symm.trans E
      obtain ⟨z67, E⟩ := gd_some E
      obtain ⟨H69, eH69, E⟩ := let_some E
      have hsH69 : ShM b0 H69 := by rw [eH69]; exact (ShM_wi hs)
      exact ih 190 0 0 0 (x2 : Int32) 0 0 0 (x6 : Int32) (x7 : Int32) ((x8 + (1 : Int32)) : Int32) H69 _ _ E hsH69
    have E := (if_neg el1).symm.trans E
    by_cases el2 : lbl = 320
    · have E := (if_pos el2).symm.trans E
      obtain ⟨z85, E⟩ := gd_some E
      obtain ⟨z87, E⟩ := gd_some E
      obtain ⟨H88, eH88, E⟩ := let_some E
      have hsH88 : ShM b0 H88 := by rw [eH88]; exact (ShM_wi hs)
      obtain ⟨z89, E⟩ := gd_some E
      by_cases c94 : (ea_i H88 (b0 + 47) (Int32.toNatClampNeg x7)) = ((-1) : Int32)
      · have E := (if_pos c94).symm.trans E
        exact ih 355 (0 : Int32) (x7 : Int32) 0 (x2 : Int32) 0 0 0 0 (x7 : Int32) 0 H88 _ _ E hsH88
      have E := (if_neg c94).symm.trans E
      obtain ⟨z90, E⟩ := gd_some E
      obtain ⟨z91, E⟩ := gd_some E
      obtain ⟨H93, eH93, E⟩ := let_some E
      have hsH93 : ShM b0 H93 := by rw [eH93]; exact (shX12_chargeBy hsH88)
      exact ih 355 ((vX12_chargeBy b0 (x7 : Int32) ((ea_i H88 (b0 + 47) (Int32.toNatClampNeg x7)) : Int32) H88) : Int32) (x7 : Int32) 0 (x2 : Int32) 0 0 0 0 (x7 : Int32) 0 H93 _ _ E hsH93
    have E := (if_neg el2).symm.trans E
    by_cases el3 : lbl = 355
    · have E := (if_pos el3).symm.trans E
      obtain ⟨z95, E⟩ := gd_some E
      obtain ⟨H97, eH97, E⟩ := let_some E
      have hsH97 : ShM b0 H97 := by rw [eH97]; exact (ShM_wi hs)
      obtain ⟨z98, E⟩ := gd_some E
      by_cases c103 : (ea_i H97 (b0 + 47) (Int32.toNatClampNeg x7)) = ((-1) : Int32)
      · have E := (if_pos c103).symm.trans E
        exact ih 390 ((-1) : Int32) (x7 : Int32) 0 (x2 : Int32) 0 0 0 0 (x7 : Int32) 0 H97 _ _ E hsH97
      have E := (if_neg c103).symm.trans E
      obtain ⟨z99, E⟩ := gd_some E
      obtain ⟨z100, E⟩ := gd_some E
      obtain ⟨H102, eH102, E⟩ := let_some E
      have hsH102 : ShM b0 H102 := by rw [eH102]; exact (shX12_lineOf hsH97)
      exact ih 390 ((vX12_lineOf b0 (x7 : Int32) ((ea_i H97 (b0 + 47) (Int32.toNatClampNeg x7)) : Int32) H97) : Int32) (x7 : Int32) 0 (x2 : Int32) 0 0 0 0 (x7 : Int32) 0 H102 _ _ E hsH102
    have E := (if_neg el3).symm.trans E
    by_cases el4 : lbl = 390
    · have E := (if_pos el4).symm.trans E
      obtain ⟨z104, E⟩ := gd_some E
      obtain ⟨H106, eH106, E⟩ := let_some E
      have hsH106 : ShM b0 H106 := by rw [eH106]; exact (ShM_wi hs)
      obtain ⟨z107, E⟩ := gd_some E
      obtain ⟨H109, eH109, E⟩ := let_some E
      have hsH109 : ShM b0 H109 := by rw [eH109]; exact (ShM_wi hsH106)
      obtain ⟨z110, E⟩ := gd_some E
      obtain ⟨H112, eH112, E⟩ := let_some E
      have hsH112 : ShM b0 H112 := by rw [eH112]; exact (shX12_turns hsH109)
      exact ea_shO E hsH112
    have E := (if_neg el4).symm.trans E
    cases E
theorem shX12_post {b0 : Nat} {x1 : Int32} {x2 : Int32} {x3 : Int32} {x4 : Int32} {x5 : Int32} {x6 : Int32} {h : ea_H} (hs : ShM b0 h) : ShM b0 (wX12_post b0 x1 x2 x3 x4 x5 x6 h) := by
  unfold wX12_post
  cases K : qX12_post b0 x1 x2 x3 x4 x5 x6 h with
  | none => exact hs
  | some x => obtain ⟨x, y⟩ := x; unfold qX12_post at K; exact zX12_post _ _ _ _ _ _ _ _ _ _ _ _ _ _ _ K hs
noncomputable def gX12_where (b0 : Nat) : Nat → Nat → Int32 → Int32 → Int32 → Int32 → ea_H → Option (Int32 × ea_H)
  | 0, _, _, _, _, _, _ => none
  | f + 1, lbl, x1, x2, x3, x4, h =>
    if lbl = 0 then (if (vX12_isLetterOf b0 (x1 : Int32) h) = (0 : Int32) then (some (((-1) : Int32), h)) else (gd (vp_in x1 120) (if (vX12_isIn (x2 : Int32) ((ea_i h (b0 + 44) (Int32.toNatClampNeg x1)) : Int32) ((ea_i h (b0 + 0) 0) : Int32) h) = (0 : Int32) then (some (((-1) : Int32), h)) else (if (vX12_isIn (x3 : Int32) (0 : Int32) (1 : Int32) h) = (0 : Int32) then (some (((-1) : Int32), h)) else (gd (vp_in x1 120) (gX12_where b0 f 46 (x1 : Int32) (x2 : Int32) (x3 : Int32) (((ea_i h (b0 + 50) (Int32.toNatClampNeg x1)) - (1 : Int32)) : Int32) h)))))) else
    if lbl = 46 then (gd (vp_in (((1000 : Int32) * x1) + x4) 120000) (if (ea_i h (b0 + 62) (Int32.toNatClampNeg (((1000 : Int32) * x1) + x4))) ≤ x2 then (if x3 = (0 : Int32) then (gd (vp_in (((1000 : Int32) * x1) + x4) 120000) (some ((ea_i h (b0 + 63) (Int32.toNatClampNeg (((1000 : Int32) * x1) + x4))), h))) else (gd (vp_in (((1000 : Int32) * x1) + x4) 120000) (some ((ea_i h (b0 + 64) (Int32.toNatClampNeg (((1000 : Int32) * x1) + x4))), h)))) else (gX12_where b0 f 46 (x1 : Int32) (x2 : Int32) (x3 : Int32) ((x4 + ((-1) : Int32)) : Int32) h))) else none
theorem tX12_where {d : Nat} {b0 : Nat} {h0 : ea_H} (hd : 3 ≤ d) : ∀ (f lbl : Nat) (x1 : Int32) (x2 : Int32) (x3 : Int32) (x4 : Int32) (h : ea_H) (r : Int32) (h' : ea_H), gX12_where b0 f lbl x1 x2 x3 x4 h = some (r, h') → ShM b0 h → (lbl = 0 → ea_W mX12_where d h0 (some (vI r)) h' 0 [(0, vR (some (b0 + 0))), (1, vI x1), (2, vI x2), (3, vI x3)] [] h) ∧ (lbl = 46 → ea_W mX12_where d h0 (some (vI r)) h' 46 [(0, vR (some (b0 + 0))), (1, vI x1), (2, vI x2), (3, vI x3), (4, vI x4)] [] h) := by
  intro f
  induction f with
  | zero => intro lbl x1 x2 x3 x4 h r h' E; cases E
  | succ f ih =>
    intro lbl x1 x2 x3 x4 h r h' E hs
    unfold gX12_where at E
    refine ⟨?_, ?_⟩
    · intro el
      subst el
      have E := (if_pos rfl).symm.trans E
      refine ea_aload_n (pc := 0) dX12_where_0 rfl 0 rfl ?_
      refine ea_iload_n (pc := 1) dX12_where_1 rfl 1 rfl ?_
      refine ea_callV (pc := 2) (d' := d - 1) (As := [vI x1]) (st := []) dX12_where_2 kX12_isLetterOf (sX12_isLetterOf (d := d - 1) (by omega) hs) (by omega) rfl (Nat.le_of_ble_eq_true rfl) ew_2019 ew_2021 ew_89 (ci := 12) rfl (by decide) (hs.1 0 (by decide)).1 (hs.1 0 (by decide)).2.1 ?_
      refine ea_if_eq (pc := 5) (tgt := 34) dX12_where_5 rfl (fun c8 => ?_) (fun c8 => ?_)
      · have E := (if_pos c8).symm.trans E
        refine ea_iconst (pc := 34) dX12_where_34 (v := (-1)) rfl ?_
        exact ea_iretO (pc := 35) dX12_where_35 rfl rfl E
      · have E := (if_neg c8).symm.trans E
        refine ea_iload_n (pc := 8) dX12_where_8 rfl 2 rfl ?_
        refine ea_aload_n (pc := 9) dX12_where_9 rfl 0 rfl ?_
        refine ea_getR (pc := 10) dX12_where_10 ec_12 (k := 70) (Nat.le_of_ble_eq_true rfl) rfl (Or.inl ew_1415) (hs.1 0 (by decide)).1 (hs.1 0 (by decide)).2.1 (hs.2 0 70 rfl) ?_
        refine ea_iload_n (pc := 13) dX12_where_13 rfl 1 rfl ?_
        obtain ⟨z2, E⟩ := gd_some E
        refine ea_iald (pc := 14) dX12_where_14 (hs.1 44 (by decide)).1 (hs.1 44 (by decide)).2.1 (ea_vpl (hs.1 44 (by decide)).2.2 z2) ?_
        refine ea_aload_n (pc := 15) dX12_where_15 rfl 0 rfl ?_
        refine ea_getI (pc := 16) dX12_where_16 ec_12 (k := 0) (Nat.le_of_ble_eq_true rfl) rfl (Or.inl ew_1345) (hs.1 0 (by decide)).1 (hs.1 0 (by decide)).2.1 ?_
        refine ea_callS (pc := 19) (d' := d - 1) (As := [vI x2, vI (ea_i h (b0 + 44) (Int32.toNatClampNeg x1)), vI (ea_i h (b0 + 0) 0)]) (st := []) dX12_where_19 kX12_isIn (sX12_isIn (d := d - 1) (by omega)) (by omega) rfl (Nat.le_of_ble_eq_true rfl) ew_1712 ew_1713 ?_
        refine ea_if_eq (pc := 22) (tgt := 34) dX12_where_22 rfl (fun c7 => ?_) (fun c7 => ?_)
        · have E := (if_pos c7).symm.trans E
          refine ea_iconst (pc := 34) dX12_where_34 (v := (-1)) rfl ?_
          exact ea_iretO (pc := 35) dX12_where_35 rfl rfl E
        · have E := (if_neg c7).symm.trans E
          refine ea_iload_n (pc := 25) dX12_where_25 rfl 3 rfl ?_
          refine ea_iconst (pc := 26) dX12_where_26 (v := 0) rfl ?_
          refine ea_iconst (pc := 27) dX12_where_27 (v := 1) rfl ?_
          refine ea_callS (pc := 28) (d' := d - 1) (As := [vI x3, vI 0, vI 1]) (st := []) dX12_where_28 kX12_isIn (sX12_isIn (d := d - 1) (by omega)) (by omega) rfl (Nat.le_of_ble_eq_true rfl) ew_1712 ew_1713 ?_
          refine ea_if_ne (pc := 31) (tgt := 36) dX12_where_31 rfl (fun c6 => ?_) (fun c6 => ?_)
          · have E := (if_neg c6).symm.trans E
            refine ea_aload_n (pc := 36) dX12_where_36 rfl 0 rfl ?_
            refine ea_getR (pc := 37) dX12_where_37 ec_12 (k := 76) (Nat.le_of_ble_eq_true rfl) rfl (Or.inl ew_1421) (hs.1 0 (by decide)).1 (hs.1 0 (by decide)).2.1 (hs.2 0 76 rfl) ?_
            refine ea_iload_n (pc := 40) dX12_where_40 rfl 1 rfl ?_
            obtain ⟨z5, E⟩ := gd_some E
            refine ea_iald (pc := 41) dX12_where_41 (hs.1 50 (by decide)).1 (hs.1 50 (by decide)).2.1 (ea_vpl (hs.1 50 (by decide)).2.2 z5) ?_
            refine ea_iconst (pc := 42) dX12_where_42 (v := 1) rfl ?_
            refine ea_isub (pc := 43) dX12_where_43 ?_
            refine ea_istore (pc := 44) (lv' := [(0, vR (some (b0 + 0))), (1, vI x1), (2, vI x2), (3, vI x3), (4, vI ((ea_i h (b0 + 50) (Int32.toNatClampNeg x1)) - (1 : Int32)))]) dX12_where_44 (Nat.le_of_ble_eq_true rfl) [1, 2, 3, 4, 0] rfl ?_
            exact ((ih 46 (x1 : Int32) (x2 : Int32) (x3 : Int32) (((ea_i h (b0 + 50) (Int32.toNatClampNeg x1)) - (1 : Int32)) : Int32) h _ _ E hs).2 rfl)
          · have E := (if_pos c6).symm.trans E
            refine ea_iconst (pc := 34) dX12_where_34 (v := (-1)) rfl ?_
            exact ea_iretO (pc := 35) dX12_where_35 rfl rfl E
    intro el
    subst el
    have E := (if_neg (by decide)).symm.trans E
    have E := (if_pos rfl).symm.trans E
    refine ea_aload_n (pc := 46) dX12_where_46 rfl 0 rfl ?_
    refine ea_getR (pc := 47) dX12_where_47 ec_12 (k := 88) (Nat.le_of_ble_eq_true rfl) rfl (Or.inl ew_1433) (hs.1 0 (by decide)).1 (hs.1 0 (by decide)).2.1 (hs.2 0 88 rfl) ?_
    refine ea_sipush (pc := 50) dX12_where_50 (v := 1000) rfl ?_
    refine ea_iload_n (pc := 53) dX12_where_53 rfl 1 rfl ?_
    refine ea_imul (pc := 54) dX12_where_54 ?_
    refine ea_iload (pc := 55) dX12_where_55 4 rfl ?_
    refine ea_iadd (pc := 57) dX12_where_57 ?_
    obtain ⟨z9, E⟩ := gd_some E
    refine ea_iald (pc := 58) dX12_where_58 (hs.1 62 (by decide)).1 (hs.1 62 (by decide)).2.1 (ea_vpl (hs.1 62 (by decide)).2.2 z9) ?_
    refine ea_iload_n (pc := 59) dX12_where_59 rfl 2 rfl ?_
    refine ea_icmp_le (pc := 60) (tgt := 69) dX12_where_60 rfl (fun c13 => ?_) (fun c13 => ?_)
    · have E := (if_pos c13).symm.trans E
      refine ea_iload_n (pc := 69) dX12_where_69 rfl 3 rfl ?_
      refine ea_if_ne (pc := 70) (tgt := 89) dX12_where_70 rfl (fun c12 => ?_) (fun c12 => ?_)
      · have E := (if_neg c12).symm.trans E
        refine ea_aload_n (pc := 89) dX12_where_89 rfl 0 rfl ?_
        refine ea_getR (pc := 90) dX12_where_90 ec_12 (k := 90) (Nat.le_of_ble_eq_true rfl) rfl (Or.inl ew_1435) (hs.1 0 (by decide)).1 (hs.1 0 (by decide)).2.1 (hs.2 0 90 rfl) ?_
        refine ea_sipush (pc := 93) dX12_where_93 (v := 1000) rfl ?_
        refine ea_iload_n (pc := 96) dX12_where_96 rfl 1 rfl ?_
        refine ea_imul (pc := 97) dX12_where_97 ?_
        refine ea_iload (pc := 98) dX12_where_98 4 rfl ?_
        refine ea_iadd (pc := 100) dX12_where_100 ?_
        obtain ⟨z10, E⟩ := gd_some E
        refine ea_iald (pc := 101) dX12_where_101 (hs.1 64 (by decide)).1 (hs.1 64 (by decide)).2.1 (ea_vpl (hs.1 64 (by decide)).2.2 z10) ?_
        exact ea_iretO (pc := 102) dX12_where_102 rfl rfl E
      · have E := (if_pos c12).symm.trans E
        refine ea_aload_n (pc := 73) dX12_where_73 rfl 0 rfl ?_
        refine ea_getR (pc := 74) dX12_where_74 ec_12 (k := 89) (Nat.le_of_ble_eq_true rfl) rfl (Or.inl ew_1434) (hs.1 0 (by decide)).1 (hs.1 0 (by decide)).2.1 (hs.2 0 89 rfl) ?_
        refine ea_sipush (pc := 77) dX12_where_77 (v := 1000) rfl ?_
        refine ea_iload_n (pc := 80) dX12_where_80 rfl 1 rfl ?_
        refine ea_imul (pc := 81) dX12_where_81 ?_
        refine ea_iload (pc := 82) dX12_where_82 4 rfl ?_
        refine ea_iadd (pc := 84) dX12_where_84 ?_
        obtain ⟨z11, E⟩ := gd_some E
        refine ea_iald (pc := 85) dX12_where_85 (hs.1 63 (by decide)).1 (hs.1 63 (by decide)).2.1 (ea_vpl (hs.1 63 (by decide)).2.2 z11) ?_
        refine ea_goto (pc := 86) (tgt := 102) dX12_where_86 rfl ?_
        exact ea_iretO (pc := 102) dX12_where_102 rfl rfl E
    · have E := (if_neg c13).symm.trans E
      refine ea_iinc (pc := 63) (v := (-1)) (lv' := [(0, vR (some (b0 + 0))), (1, vI x1), (2, vI x2), (3, vI x3), (4, vI (x4 + ((-1) : Int32)))]) dX12_where_63 4 rfl rfl (Nat.le_of_ble_eq_true rfl) [1, 2, 3, 4, 0] rfl ?_
      refine ea_goto (pc := 66) (tgt := 46) dX12_where_66 rfl ?_
      exact ((ih 46 (x1 : Int32) (x2 : Int32) (x3 : Int32) ((x4 + ((-1) : Int32)) : Int32) h _ _ E hs).2 rfl)
noncomputable def qX12_where (b0 : Nat) (x1 : Int32) (x2 : Int32) (x3 : Int32) (h : ea_H) : Option (Int32 × ea_H) := gX12_where b0 1000000000 0 x1 x2 x3 0 h
def okX12_where (b0 : Nat) (x1 : Int32) (x2 : Int32) (x3 : Int32) (h : ea_H) : Prop := ∃ x, qX12_where b0 x1 x2 x3 h = some x
noncomputable def vX12_where (b0 : Nat) (x1 : Int32) (x2 : Int32) (x3 : Int32) (h : ea_H) : Int32 := ((qX12_where b0 x1 x2 x3 h).getD (0, h)).1
noncomputable def wX12_where (b0 : Nat) (x1 : Int32) (x2 : Int32) (x3 : Int32) (h : ea_H) : ea_H := ((qX12_where b0 x1 x2 x3 h).getD (0, h)).2
theorem sX12_where {d : Nat} {b0 : Nat} {x1 : Int32} {x2 : Int32} {x3 : Int32} {h : ea_H} (hd : 3 ≤ d) (hs : ShM b0 h) (K : okX12_where b0 x1 x2 x3 h) : ea_Met mX12_where d [vR (some (b0 + 0)), vI x1, vI x2, vI x3] h (some (vI (vX12_where b0 x1 x2 x3 h))) (wX12_where b0 x1 x2 x3 h) := by
  obtain ⟨⟨x, y⟩, K⟩ := K
  unfold wX12_where vX12_where
  rw [K]
  unfold qX12_where at K
  exact ea_enter rfl (Nat.le_of_ble_eq_true rfl) ((tX12_where hd 1000000000 0 x1 x2 x3 0 h x y K hs).1 rfl)
theorem zX12_where {b0 : Nat} : ∀ (f lbl : Nat) (x1 : Int32) (x2 : Int32) (x3 : Int32) (x4 : Int32) (h : ea_H) (r : Int32) (h' : ea_H), gX12_where b0 f lbl x1 x2 x3 x4 h = some (r, h') → ShM b0 h → ShM b0 h' := by
  intro f
  induction f with
  | zero => intro lbl x1 x2 x3 x4 h r h' E; cases E
  | succ f ih =>
    intro lbl x1 x2 x3 x4 h r h' E hs
    unfold gX12_where at E
    by_cases el0 : lbl = 0
    · have E := (if_pos el0).symm.trans E
      by_cases c8 : (vX12_isLetterOf b0 (x1 : Int32) h) = (0 : Int32)
      · have E := (if_pos c8).symm.trans E
        exact ea_shO E hs
      have E := (if_neg c8).symm.trans E
      obtain ⟨z2, E⟩ := gd_some E
      by_cases c7 : (vX12_isIn (x2 : Int32) ((ea_i h (b0 + 44) (Int32.toNatClampNeg x1)) : Int32) ((ea_i h (b0 + 0) 0) : Int32) h) = (0 : Int32)
      · have E := (if_pos c7).symm.trans E
        exact ea_shO E hs
      have E := (if_neg c7).symm.trans E
      by_cases c6 : (vX12_isIn (x3 : Int32) (0 : Int32) (1 : Int32) h) = (0 : Int32)
      · have E := (if_pos c6).symm.trans E
        exact ea_shO E hs
      have E := (if_neg c6).symm.trans E
      obtain ⟨z5, E⟩ := gd_some E
      exact ih 46 (x1 : Int32) (x2 : Int32) (x3 : Int32) (((ea_i h (b0 + 50) (Int32.toNatClampNeg x1)) - (1 : Int32)) : Int32) h _ _ E hs
    have E := (if_neg el0).symm.trans E
    by_cases el1 : lbl = 46
    · have E := (if_pos el1).symm.trans E
      obtain ⟨z9, E⟩ := gd_some E
      by_cases c13 : (ea_i h (b0 + 62) (Int32.toNatClampNeg (((1000 : Int32) * x1) + x4))) ≤ x2
      · have E := (if_pos c13).symm.trans E
        by_cases c12 : x3 = (0 : Int32)
        · have E := (if_pos c12).symm.trans E
          obtain ⟨z11, E⟩ := gd_some E
          exact ea_shO E hs
        have E := (if_neg c12).symm.trans E
        obtain ⟨z10, E⟩ := gd_some E
        exact ea_shO E hs
      have E := (if_neg c13).symm.trans E
      exact ih 46 (x1 : Int32) (x2 : Int32) (x3 : Int32) ((x4 + ((-1) : Int32)) : Int32) h _ _ E hs
    have E := (if_neg el1).symm.trans E
    cases E
theorem shX12_where {b0 : Nat} {x1 : Int32} {x2 : Int32} {x3 : Int32} {h : ea_H} (hs : ShM b0 h) : ShM b0 (wX12_where b0 x1 x2 x3 h) := by
  unfold wX12_where
  cases K : qX12_where b0 x1 x2 x3 h with
  | none => exact hs
  | some x => obtain ⟨x, y⟩ := x; unfold qX12_where at K; exact zX12_where _ _ _ _ _ _ _ _ _ K hs
noncomputable def wX12_putsDown (b0 : Nat) (x1 : Int32) (x2 : Int32) (x3 : Int32) (h : ea_H) : ea_H := (if (ea_i (ea_wi (ea_wi h (b0 + 61) (Int32.toNatClampNeg x1) 0) (b0 + 57) (Int32.toNatClampNeg x1) (-1)) (b0 + 40) (Int32.toNatClampNeg x1)) = x3 then (if (ea_i (ea_wi (ea_wi h (b0 + 61) (Int32.toNatClampNeg x1) 0) (b0 + 57) (Int32.toNatClampNeg x1) (-1)) (b0 + 54) (Int32.toNatClampNeg x1)) = (0 : Int32) then (if (ea_i (wX12_turns b0 (x1 : Int32) (x2 : Int32) (2 : Int32) (x3 : Int32) (ea_wi (ea_wi h (b0 + 61) (Int32.toNatClampNeg x1) 0) (b0 + 57) (Int32.toNatClampNeg x1) (-1))) (b0 + 55) (Int32.toNatClampNeg x1)) = (3 : Int32) then (ea_wi (wX12_turns b0 (x1 : Int32) (x2 : Int32) (2 : Int32) (x3 : Int32) (ea_wi (ea_wi h (b0 + 61) (Int32.toNatClampNeg x1) 0) (b0 + 57) (Int32.toNatClampNeg x1) (-1))) (b0 + 51) (Int32.toNatClampNeg x1) 0) else (wX12_turns b0 (x1 : Int32) (x2 : Int32) (2 : Int32) (x3 : Int32) (ea_wi (ea_wi h (b0 + 61) (Int32.toNatClampNeg x1) 0) (b0 + 57) (Int32.toNatClampNeg x1) (-1)))) else (if (ea_i (wX12_turns b0 (x1 : Int32) (x2 : Int32) (3 : Int32) (x3 : Int32) (ea_wi (ea_wi h (b0 + 61) (Int32.toNatClampNeg x1) 0) (b0 + 57) (Int32.toNatClampNeg x1) (-1))) (b0 + 55) (Int32.toNatClampNeg x1)) = (3 : Int32) then (ea_wi (wX12_turns b0 (x1 : Int32) (x2 : Int32) (3 : Int32) (x3 : Int32) (ea_wi (ea_wi h (b0 + 61) (Int32.toNatClampNeg x1) 0) (b0 + 57) (Int32.toNatClampNeg x1) (-1))) (b0 + 51) (Int32.toNatClampNeg x1) 0) else (wX12_turns b0 (x1 : Int32) (x2 : Int32) (3 : Int32) (x3 : Int32) (ea_wi (ea_wi h (b0 + 61) (Int32.toNatClampNeg x1) 0) (b0 + 57) (Int32.toNatClampNeg x1) (-1))))) else (if (ea_i (wX12_turns b0 (x1 : Int32) (x2 : Int32) (0 : Int32) (x3 : Int32) (ea_wi (ea_wi h (b0 + 61) (Int32.toNatClampNeg x1) 0) (b0 + 57) (Int32.toNatClampNeg x1) (-1))) (b0 + 55) (Int32.toNatClampNeg x1)) = (3 : Int32) then (ea_wi (wX12_turns b0 (x1 : Int32) (x2 : Int32) (0 : Int32) (x3 : Int32) (ea_wi (ea_wi h (b0 + 61) (Int32.toNatClampNeg x1) 0) (b0 + 57) (Int32.toNatClampNeg x1) (-1))) (b0 + 51) (Int32.toNatClampNeg x1) 0) else (wX12_turns b0 (x1 : Int32) (x2 : Int32) (0 : Int32) (x3 : Int32) (ea_wi (ea_wi h (b0 + 61) (Int32.toNatClampNeg x1) 0) (b0 + 57) (Int32.toNatClampNeg x1) (-1)))))
def okX12_putsDown (b0 : Nat) (x1 : Int32) (x2 : Int32) (x3 : Int32) (h : ea_H) : Prop := vp_in x1 120 ∧ (vp_in x1 120 ∧ (vp_in x1 120 ∧ (((ea_i (ea_wi (ea_wi h (b0 + 61) (Int32.toNatClampNeg x1) 0) (b0 + 57) (Int32.toNatClampNeg x1) (-1)) (b0 + 40) (Int32.toNatClampNeg x1)) = x3 → vp_in x1 120 ∧ (((ea_i (ea_wi (ea_wi h (b0 + 61) (Int32.toNatClampNeg x1) 0) (b0 + 57) (Int32.toNatClampNeg x1) (-1)) (b0 + 54) (Int32.toNatClampNeg x1)) = (0 : Int32) → (okX12_turns b0 (x1 : Int32) (x2 : Int32) (2 : Int32) (x3 : Int32) (ea_wi (ea_wi h (b0 + 61) (Int32.toNatClampNeg x1) 0) (b0 + 57) (Int32.toNatClampNeg x1) (-1))) ∧ (vp_in x1 120 ∧ (((ea_i (wX12_turns b0 (x1 : Int32) (x2 : Int32) (2 : Int32) (x3 : Int32) (ea_wi (ea_wi h (b0 + 61) (Int32.toNatClampNeg x1) 0) (b0 + 57) (Int32.toNatClampNeg x1) (-1))) (b0 + 55) (Int32.toNatClampNeg x1)) = (3 : Int32) → vp_in x1 120) ∧ (¬ (ea_i (wX12_turns b0 (x1 : Int32) (x2 : Int32) (2 : Int32) (x3 : Int32) (ea_wi (ea_wi h (b0 + 61) (Int32.toNatClampNeg x1) 0) (b0 + 57) (Int32.toNatClampNeg x1) (-1))) (b0 + 55) (Int32.toNatClampNeg x1)) = (3 : Int32) → True)))) ∧ (¬ (ea_i (ea_wi (ea_wi h (b0 + 61) (Int32.toNatClampNeg x1) 0) (b0 + 57) (Int32.toNatClampNeg x1) (-1)) (b0 + 54) (Int32.toNatClampNeg x1)) = (0 : Int32) → (okX12_turns b0 (x1 : Int32) (x2 : Int32) (3 : Int32) (x3 : Int32) (ea_wi (ea_wi h (b0 + 61) (Int32.toNatClampNeg x1) 0) (b0 + 57) (Int32.toNatClampNeg x1) (-1))) ∧ (vp_in x1 120 ∧ (((ea_i (wX12_turns b0 (x1 : Int32) (x2 : Int32) (3 : Int32) (x3 : Int32) (ea_wi (ea_wi h (b0 + 61) (Int32.toNatClampNeg x1) 0) (b0 + 57) (Int32.toNatClampNeg x1) (-1))) (b0 + 55) (Int32.toNatClampNeg x1)) = (3 : Int32) → vp_in x1 120) ∧ (¬ (ea_i (wX12_turns b0 (x1 : Int32) (x2 : Int32) (3 : Int32) (x3 : Int32) (ea_wi (ea_wi h (b0 + 61) (Int32.toNatClampNeg x1) 0) (b0 + 57) (Int32.toNatClampNeg x1) (-1))) (b0 + 55) (Int32.toNatClampNeg x1)) = (3 : Int32) → True)))))) ∧ (¬ (ea_i (ea_wi (ea_wi h (b0 + 61) (Int32.toNatClampNeg x1) 0) (b0 + 57) (Int32.toNatClampNeg x1) (-1)) (b0 + 40) (Int32.toNatClampNeg x1)) = x3 → (okX12_turns b0 (x1 : Int32) (x2 : Int32) (0 : Int32) (x3 : Int32) (ea_wi (ea_wi h (b0 + 61) (Int32.toNatClampNeg x1) 0) (b0 + 57) (Int32.toNatClampNeg x1) (-1))) ∧ (vp_in x1 120 ∧ (((ea_i (wX12_turns b0 (x1 : Int32) (x2 : Int32) (0 : Int32) (x3 : Int32) (ea_wi (ea_wi h (b0 + 61) (Int32.toNatClampNeg x1) 0) (b0 + 57) (Int32.toNatClampNeg x1) (-1))) (b0 + 55) (Int32.toNatClampNeg x1)) = (3 : Int32) → vp_in x1 120) ∧ (¬ (ea_i (wX12_turns b0 (x1 : Int32) (x2 : Int32) (0 : Int32) (x3 : Int32) (ea_wi (ea_wi h (b0 + 61) (Int32.toNatClampNeg x1) 0) (b0 + 57) (Int32.toNatClampNeg x1) (-1))) (b0 + 55) (Int32.toNatClampNeg x1)) = (3 : Int32) → True)))))))
theorem shX12_putsDown {b0 : Nat} {x1 : Int32} {x2 : Int32} {x3 : Int32} {h : ea_H} (hs : ShM b0 h) : ShM b0 (wX12_putsDown b0 x1 x2 x3 h) := (ShM_it (ShM_it (ShM_it (ShM_wi (shX12_turns (ShM_wi (ShM_wi hs)))) (shX12_turns (ShM_wi (ShM_wi hs)))) (ShM_it (ShM_wi (shX12_turns (ShM_wi (ShM_wi hs)))) (shX12_turns (ShM_wi (ShM_wi hs))))) (ShM_it (ShM_wi (shX12_turns (ShM_wi (ShM_wi hs)))) (shX12_turns (ShM_wi (ShM_wi hs)))))
theorem sX12_putsDown {d : Nat} {b0 : Nat} {x1 : Int32} {x2 : Int32} {x3 : Int32} {h : ea_H} (hd : 2 ≤ d) (hs : ShM b0 h) (K : okX12_putsDown b0 x1 x2 x3 h) : ea_Met mX12_putsDown d [vR (some (b0 + 0)), vI x1, vI x2, vI x3] h none (wX12_putsDown b0 x1 x2 x3 h) := by
  obtain ⟨Y, EY⟩ : ∃ z, z = wX12_putsDown b0 x1 x2 x3 h := ⟨_, rfl⟩
  rw [← EY]
  unfold wX12_putsDown at EY
  unfold okX12_putsDown at K
  refine ea_enter rfl (Nat.le_of_ble_eq_true rfl) ?_
  refine ea_aload_n (pc := 0) dX12_putsDown_0 rfl 0 rfl ?_
  refine ea_getR (pc := 1) dX12_putsDown_1 ec_12 (k := 87) (Nat.le_of_ble_eq_true rfl) rfl (Or.inl ew_1432) (hs.1 0 (by decide)).1 (hs.1 0 (by decide)).2.1 (hs.2 0 87 rfl) ?_
  refine ea_iload_n (pc := 4) dX12_putsDown_4 rfl 1 rfl ?_
  refine ea_iconst (pc := 5) dX12_putsDown_5 (v := 0) rfl ?_
  obtain ⟨z1, K⟩ := K
  refine ea_zast (pc := 6) dX12_putsDown_6 (y := 0) (ea_bn (Or.inl rfl)) (hs.1 61 (by decide)).1 (hs.1 61 (by decide)).2.1 (ea_vpl (hs.1 61 (by decide)).2.2 z1) ?_
  have hs2 : ShM b0 (ea_wi h (b0 + 61) (Int32.toNatClampNeg x1) 0) := ShM_wi hs
  refine ea_aload_n (pc := 7) dX12_putsDown_7 rfl 0 rfl ?_
  refine ea_getR (pc := 8) dX12_putsDown_8 ec_12 (k := 83) (Nat.le_of_ble_eq_true rfl) rfl (Or.inl ew_1428) (hs2.1 0 (by decide)).1 (hs2.1 0 (by decide)).2.1 (hs2.2 0 83 rfl) ?_
  refine ea_iload_n (pc := 11) dX12_putsDown_11 rfl 1 rfl ?_
  refine ea_iconst (pc := 12) dX12_putsDown_12 (v := (-1)) rfl ?_
  obtain ⟨z3, K⟩ := K
  refine ea_iast (pc := 13) dX12_putsDown_13 (hs2.1 57 (by decide)).1 (hs2.1 57 (by decide)).2.1 (ea_vpl (hs2.1 57 (by decide)).2.2 z3) ?_
  have hs4 : ShM b0 (ea_wi (ea_wi h (b0 + 61) (Int32.toNatClampNeg x1) 0) (b0 + 57) (Int32.toNatClampNeg x1) (-1)) := ShM_wi hs2
  refine ea_aload_n (pc := 14) dX12_putsDown_14 rfl 0 rfl ?_
  refine ea_iload_n (pc := 15) dX12_putsDown_15 rfl 1 rfl ?_
  refine ea_iload_n (pc := 16) dX12_putsDown_16 rfl 2 rfl ?_
  refine ea_aload_n (pc := 17) dX12_putsDown_17 rfl 0 rfl ?_
  refine ea_getR (pc := 18) dX12_putsDown_18 ec_12 (k := 66) (Nat.le_of_ble_eq_true rfl) rfl (Or.inl ew_1411) (hs4.1 0 (by decide)).1 (hs4.1 0 (by decide)).2.1 (hs4.2 0 66 rfl) ?_
  refine ea_iload_n (pc := 21) dX12_putsDown_21 rfl 1 rfl ?_
  obtain ⟨z5, K⟩ := K
  refine ea_iald (pc := 22) dX12_putsDown_22 (hs4.1 40 (by decide)).1 (hs4.1 40 (by decide)).2.1 (ea_vpl (hs4.1 40 (by decide)).2.2 z5) ?_
  refine ea_iload_n (pc := 23) dX12_putsDown_23 rfl 3 rfl ?_
  refine ea_icmp_eq (pc := 24) (tgt := 31) dX12_putsDown_24 rfl (fun c26 => ?_) (fun c26 => ?_)
  · have EY := EY.trans (if_pos c26)
    have K := K.1 c26
    refine ea_aload_n (pc := 31) dX12_putsDown_31 rfl 0 rfl ?_
    refine ea_getR (pc := 32) dX12_putsDown_32 ec_12 (k := 80) (Nat.le_of_ble_eq_true rfl) rfl (Or.inl ew_1425) (hs4.1 0 (by decide)).1 (hs4.1 0 (by decide)).2.1 (hs4.2 0 80 rfl) ?_
    refine ea_iload_n (pc := 35) dX12_putsDown_35 rfl 1 rfl ?_
    obtain ⟨z6, K⟩ := K
    refine ea_zald (pc := 36) dX12_putsDown_36 (hs4.1 54 (by decide)).1 (hs4.1 54 (by decide)).2.1 (ea_vpl (hs4.1 54 (by decide)).2.2 z6) ?_
    refine ea_if_eq (pc := 37) (tgt := 44) dX12_putsDown_37 rfl (fun c19 => ?_) (fun c19 => ?_)
    · have EY := EY.trans (if_pos c19)
      have K := K.1 c19
      refine ea_iconst (pc := 44) dX12_putsDown_44 (v := 2) rfl ?_
      refine ea_iload_n (pc := 45) dX12_putsDown_45 rfl 3 rfl ?_
      obtain ⟨z7, K⟩ := K
      refine ea_callV (pc := 46) (d' := d - 1) (As := [vI x1, vI x2, vI 2, vI x3]) (st := []) dX12_putsDown_46 kX12_turns (sX12_turns (d := d - 1) (by omega) hs4 z7) (by omega) rfl (Nat.le_of_ble_eq_true rfl) ew_2011 ew_2013 ew_88 (ci := 12) rfl (by decide) (hs4.1 0 (by decide)).1 (hs4.1 0 (by decide)).2.1 ?_
      have hs8 : ShM b0 (wX12_turns b0 (x1 : Int32) (x2 : Int32) (2 : Int32) (x3 : Int32) (ea_wi (ea_wi h (b0 + 61) (Int32.toNatClampNeg x1) 0) (b0 + 57) (Int32.toNatClampNeg x1) (-1))) := shX12_turns hs4
      refine ea_aload_n (pc := 49) dX12_putsDown_49 rfl 0 rfl ?_
      refine ea_getR (pc := 50) dX12_putsDown_50 ec_12 (k := 81) (Nat.le_of_ble_eq_true rfl) rfl (Or.inl ew_1426) (hs8.1 0 (by decide)).1 (hs8.1 0 (by decide)).2.1 (hs8.2 0 81 rfl) ?_
      refine ea_iload_n (pc := 53) dX12_putsDown_53 rfl 1 rfl ?_
      obtain ⟨z9, K⟩ := K
      refine ea_iald (pc := 54) dX12_putsDown_54 (hs8.1 55 (by decide)).1 (hs8.1 55 (by decide)).2.1 (ea_vpl (hs8.1 55 (by decide)).2.2 z9) ?_
      refine ea_iconst (pc := 55) dX12_putsDown_55 (v := 3) rfl ?_
      refine ea_icmp_ne (pc := 56) (tgt := 66) dX12_putsDown_56 rfl (fun c12 => ?_) (fun c12 => ?_)
      · have EY := EY.trans (if_neg c12)
        exact ea_vretE (pc := 66) dX12_putsDown_66 rfl EY
      · have EY := EY.trans (if_pos c12)
        have K := K.1 c12
        refine ea_aload_n (pc := 59) dX12_putsDown_59 rfl 0 rfl ?_
        refine ea_getR (pc := 60) dX12_putsDown_60 ec_12 (k := 77) (Nat.le_of_ble_eq_true rfl) rfl (Or.inl ew_1422) (hs8.1 0 (by decide)).1 (hs8.1 0 (by decide)).2.1 (hs8.2 0 77 rfl) ?_
        refine ea_iload_n (pc := 63) dX12_putsDown_63 rfl 1 rfl ?_
        refine ea_iconst (pc := 64) dX12_putsDown_64 (v := 0) rfl ?_
        have z10 := K
        refine ea_iast (pc := 65) dX12_putsDown_65 (hs8.1 51 (by decide)).1 (hs8.1 51 (by decide)).2.1 (ea_vpl (hs8.1 51 (by decide)).2.2 z10) ?_
        have hs11 : ShM b0 (ea_wi (wX12_turns b0 (x1 : Int32) (x2 : Int32) (2 : Int32) (x3 : Int32) (ea_wi (ea_wi h (b0 + 61) (Int32.toNatClampNeg x1) 0) (b0 + 57) (Int32.toNatClampNeg x1) (-1))) (b0 + 51) (Int32.toNatClampNeg x1) 0) := ShM_wi hs8
        exact ea_vretE (pc := 66) dX12_putsDown_66 rfl EY
    · have EY := EY.trans (if_neg c19)
      have K := K.2 c19
      refine ea_iconst (pc := 40) dX12_putsDown_40 (v := 3) rfl ?_
      refine ea_goto (pc := 41) (tgt := 45) dX12_putsDown_41 rfl ?_
      refine ea_iload_n (pc := 45) dX12_putsDown_45 rfl 3 rfl ?_
      obtain ⟨z13, K⟩ := K
      refine ea_callV (pc := 46) (d' := d - 1) (As := [vI x1, vI x2, vI 3, vI x3]) (st := []) dX12_putsDown_46 kX12_turns (sX12_turns (d := d - 1) (by omega) hs4 z13) (by omega) rfl (Nat.le_of_ble_eq_true rfl) ew_2011 ew_2013 ew_88 (ci := 12) rfl (by decide) (hs4.1 0 (by decide)).1 (hs4.1 0 (by decide)).2.1 ?_
      have hs14 : ShM b0 (wX12_turns b0 (x1 : Int32) (x2 : Int32) (3 : Int32) (x3 : Int32) (ea_wi (ea_wi h (b0 + 61) (Int32.toNatClampNeg x1) 0) (b0 + 57) (Int32.toNatClampNeg x1) (-1))) := shX12_turns hs4
      refine ea_aload_n (pc := 49) dX12_putsDown_49 rfl 0 rfl ?_
      refine ea_getR (pc := 50) dX12_putsDown_50 ec_12 (k := 81) (Nat.le_of_ble_eq_true rfl) rfl (Or.inl ew_1426) (hs14.1 0 (by decide)).1 (hs14.1 0 (by decide)).2.1 (hs14.2 0 81 rfl) ?_
      refine ea_iload_n (pc := 53) dX12_putsDown_53 rfl 1 rfl ?_
      obtain ⟨z15, K⟩ := K
      refine ea_iald (pc := 54) dX12_putsDown_54 (hs14.1 55 (by decide)).1 (hs14.1 55 (by decide)).2.1 (ea_vpl (hs14.1 55 (by decide)).2.2 z15) ?_
      refine ea_iconst (pc := 55) dX12_putsDown_55 (v := 3) rfl ?_
      refine ea_icmp_ne (pc := 56) (tgt := 66) dX12_putsDown_56 rfl (fun c18 => ?_) (fun c18 => ?_)
      · have EY := EY.trans (if_neg c18)
        exact ea_vretE (pc := 66) dX12_putsDown_66 rfl EY
      · have EY := EY.trans (if_pos c18)
        have K := K.1 c18
        refine ea_aload_n (pc := 59) dX12_putsDown_59 rfl 0 rfl ?_
        refine ea_getR (pc := 60) dX12_putsDown_60 ec_12 (k := 77) (Nat.le_of_ble_eq_true rfl) rfl (Or.inl ew_1422) (hs14.1 0 (by decide)).1 (hs14.1 0 (by decide)).2.1 (hs14.2 0 77 rfl) ?_
        refine ea_iload_n (pc := 63) dX12_putsDown_63 rfl 1 rfl ?_
        refine ea_iconst (pc := 64) dX12_putsDown_64 (v := 0) rfl ?_
        have z16 := K
        refine ea_iast (pc := 65) dX12_putsDown_65 (hs14.1 51 (by decide)).1 (hs14.1 51 (by decide)).2.1 (ea_vpl (hs14.1 51 (by decide)).2.2 z16) ?_
        have hs17 : ShM b0 (ea_wi (wX12_turns b0 (x1 : Int32) (x2 : Int32) (3 : Int32) (x3 : Int32) (ea_wi (ea_wi h (b0 + 61) (Int32.toNatClampNeg x1) 0) (b0 + 57) (Int32.toNatClampNeg x1) (-1))) (b0 + 51) (Int32.toNatClampNeg x1) 0) := ShM_wi hs14
        exact ea_vretE (pc := 66) dX12_putsDown_66 rfl EY
  · have EY := EY.trans (if_neg c26)
    have K := K.2 c26
    refine ea_iconst (pc := 27) dX12_putsDown_27 (v := 0) rfl ?_
    refine ea_goto (pc := 28) (tgt := 45) dX12_putsDown_28 rfl ?_
    refine ea_iload_n (pc := 45) dX12_putsDown_45 rfl 3 rfl ?_
    obtain ⟨z20, K⟩ := K
    refine ea_callV (pc := 46) (d' := d - 1) (As := [vI x1, vI x2, vI 0, vI x3]) (st := []) dX12_putsDown_46 kX12_turns (sX12_turns (d := d - 1) (by omega) hs4 z20) (by omega) rfl (Nat.le_of_ble_eq_true rfl) ew_2011 ew_2013 ew_88 (ci := 12) rfl (by decide) (hs4.1 0 (by decide)).1 (hs4.1 0 (by decide)).2.1 ?_
    have hs21 : ShM b0 (wX12_turns b0 (x1 : Int32) (x2 : Int32) (0 : Int32) (x3 : Int32) (ea_wi (ea_wi h (b0 + 61) (Int32.toNatClampNeg x1) 0) (b0 + 57) (Int32.toNatClampNeg x1) (-1))) := shX12_turns hs4
    refine ea_aload_n (pc := 49) dX12_putsDown_49 rfl 0 rfl ?_
    refine ea_getR (pc := 50) dX12_putsDown_50 ec_12 (k := 81) (Nat.le_of_ble_eq_true rfl) rfl (Or.inl ew_1426) (hs21.1 0 (by decide)).1 (hs21.1 0 (by decide)).2.1 (hs21.2 0 81 rfl) ?_
    refine ea_iload_n (pc := 53) dX12_putsDown_53 rfl 1 rfl ?_
    obtain ⟨z22, K⟩ := K
    refine ea_iald (pc := 54) dX12_putsDown_54 (hs21.1 55 (by decide)).1 (hs21.1 55 (by decide)).2.1 (ea_vpl (hs21.1 55 (by decide)).2.2 z22) ?_
    refine ea_iconst (pc := 55) dX12_putsDown_55 (v := 3) rfl ?_
    refine ea_icmp_ne (pc := 56) (tgt := 66) dX12_putsDown_56 rfl (fun c25 => ?_) (fun c25 => ?_)
    · have EY := EY.trans (if_neg c25)
      exact ea_vretE (pc := 66) dX12_putsDown_66 rfl EY
    · have EY := EY.trans (if_pos c25)
      have K := K.1 c25
      refine ea_aload_n (pc := 59) dX12_putsDown_59 rfl 0 rfl ?_
      refine ea_getR (pc := 60) dX12_putsDown_60 ec_12 (k := 77) (Nat.le_of_ble_eq_true rfl) rfl (Or.inl ew_1422) (hs21.1 0 (by decide)).1 (hs21.1 0 (by decide)).2.1 (hs21.2 0 77 rfl) ?_
      refine ea_iload_n (pc := 63) dX12_putsDown_63 rfl 1 rfl ?_
      refine ea_iconst (pc := 64) dX12_putsDown_64 (v := 0) rfl ?_
      have z23 := K
      refine ea_iast (pc := 65) dX12_putsDown_65 (hs21.1 51 (by decide)).1 (hs21.1 51 (by decide)).2.1 (ea_vpl (hs21.1 51 (by decide)).2.2 z23) ?_
      have hs24 : ShM b0 (ea_wi (wX12_turns b0 (x1 : Int32) (x2 : Int32) (0 : Int32) (x3 : Int32) (ea_wi (ea_wi h (b0 + 61) (Int32.toNatClampNeg x1) 0) (b0 + 57) (Int32.toNatClampNeg x1) (-1))) (b0 + 51) (Int32.toNatClampNeg x1) 0) := ShM_wi hs21
      exact ea_vretE (pc := 66) dX12_putsDown_66 rfl EY
noncomputable def gX12_coming (b0 : Nat) : Nat → Nat → Int32 → Int32 → Int32 → Int32 → Int32 → Int32 → ea_H → Option (Unit × ea_H)
  | 0, _, _, _, _, _, _, _, _ => none
  | f + 1, lbl, sx0, x1, x2, x3, x4, x5, h =>
    if lbl = 0 then (gd (vp_in x1 1000) (gd (vp_in x1 1000) (gd (vp_in ((ea_i h (b0 + 12) (Int32.toNatClampNeg x1)) / (7 : Int32)) 10) (if (ea_i h (b0 + 13) (Int32.toNatClampNeg x1)) = ((ea_i h (b0 + 2) (Int32.toNatClampNeg ((ea_i h (b0 + 12) (Int32.toNatClampNeg x1)) / (7 : Int32)))) - (1 : Int32)) then (gX12_coming b0 f 34 (1 : Int32) (x1 : Int32) ((ea_i h (b0 + 12) (Int32.toNatClampNeg x1)) : Int32) ((ea_i h (b0 + 13) (Int32.toNatClampNeg x1)) : Int32) 0 0 h) else (gX12_coming b0 f 34 (0 : Int32) (x1 : Int32) ((ea_i h (b0 + 12) (Int32.toNatClampNeg x1)) : Int32) ((ea_i h (b0 + 13) (Int32.toNatClampNeg x1)) : Int32) 0 0 h))))) else
    if lbl = 34 then (gd (vp_in (((8 : Int32) * x2) + x3) 560) (if (ea_i h (b0 + 8) (Int32.toNatClampNeg (((8 : Int32) * x2) + x3))) = (0 : Int32) then (gX12_coming b0 f 54 0 (x1 : Int32) (x2 : Int32) (x3 : Int32) (sx0 : Int32) (0 : Int32) h) else (some ((), h)))) else
    if lbl = 54 then (if (ea_i h (b0 + 0) 63) ≤ x5 then (some ((), h)) else (gd ((okX12_isAboard b0 (x5 : Int32) (x2 : Int32) h)) (if (vX12_isAboard b0 (x5 : Int32) (x2 : Int32) h) = (0 : Int32) then (gX12_coming b0 f 54 0 (x1 : Int32) (x2 : Int32) (x3 : Int32) (x4 : Int32) ((x5 + (1 : Int32)) : Int32) h) else (gd (vp_in x5 120) (if (ea_i h (b0 + 61) (Int32.toNatClampNeg x5)) = (0 : Int32) then (gX12_coming b0 f 118 0 (x1 : Int32) (x2 : Int32) (x3 : Int32) (x4 : Int32) (x5 : Int32) h) else (gd (vp_in x5 120) (if x3 < (ea_i h (b0 + 57) (Int32.toNatClampNeg x5)) then (gX12_coming b0 f 118 0 (x1 : Int32) (x2 : Int32) (x3 : Int32) (x4 : Int32) (x5 : Int32) h) else (gd (vp_in x1 1000) (gd ((okX12_townOf b0 (x2 : Int32) (x3 : Int32) h)) (gd ((okX12_putsDown b0 (x5 : Int32) ((ea_i h (b0 + 10) (Int32.toNatClampNeg x1)) : Int32) ((vX12_townOf b0 (x2 : Int32) (x3 : Int32) h) : Int32) h)) (ea_let (wX12_putsDown b0 (x5 : Int32) ((ea_i h (b0 + 10) (Int32.toNatClampNeg x1)) : Int32) ((vX12_townOf b0 (x2 : Int32) (x3 : Int32) h) : Int32) h) fun H14 => (gX12_coming b0 f 54 0 (x1 : Int32) (x2 : Int32) (x3 : Int32) (x4 : Int32) ((x5 + (1 : Int32)) : Int32) H14)))))))))))) else
    if lbl = 118 then (if x4 = (0 : Int32) then (gX12_coming b0 f 54 0 (x1 : Int32) (x2 : Int32) (x3 : Int32) (x4 : Int32) ((x5 + (1 : Int32)) : Int32) h) else (gd (vp_in x5 120) (if (ea_i h (b0 + 61) (Int32.toNatClampNeg x5)) = (0 : Int32) then (gd (vp_in x5 120) (gd (vp_in x5 120) (ea_let (ea_wi h (b0 + 58) (Int32.toNatClampNeg x5) ((ea_i h (b0 + 58) (Int32.toNatClampNeg x5)) + (1 : Int32))) fun H23 => (gd (vp_in x2 70) (gd (vp_in x2 70) (ea_let (ea_wi H23 (b0 + 60) (Int32.toNatClampNeg x2) ((ea_i H23 (b0 + 60) (Int32.toNatClampNeg x2)) + (1 : Int32))) fun H27 => (gX12_coming b0 f 154 0 (x1 : Int32) (x2 : Int32) (x3 : Int32) (x4 : Int32) (x5 : Int32) H27))))))) else (gX12_coming b0 f 154 0 (x1 : Int32) (x2 : Int32) (x3 : Int32) (x4 : Int32) (x5 : Int32) h)))) else
    if lbl = 154 then (gd (vp_in x1 1000) (gd ((okX12_townOf b0 (x2 : Int32) (x3 : Int32) h)) (gd ((okX12_putsDown b0 (x5 : Int32) ((ea_i h (b0 + 10) (Int32.toNatClampNeg x1)) : Int32) ((vX12_townOf b0 (x2 : Int32) (x3 : Int32) h) : Int32) h)) (ea_let (wX12_putsDown b0 (x5 : Int32) ((ea_i h (b0 + 10) (Int32.toNatClampNeg x1)) : Int32) ((vX12_townOf b0 (x2 : Int32) (x3 : Int32) h) : Int32) h) fun H34 => (gX12_coming b0 f 54 0 (x1 : Int32) (x2 : Int32) (x3 : Int32) (x4 : Int32) ((x5 + (1 : Int32)) : Int32) H34))))) else none
theorem tX12_coming {d : Nat} {b0 : Nat} {h0 : ea_H} (hd : 3 ≤ d) : ∀ (f lbl : Nat) (sx0 : Int32) (x1 : Int32) (x2 : Int32) (x3 : Int32) (x4 : Int32) (x5 : Int32) (h : ea_H) (r : Unit) (h' : ea_H), gX12_coming b0 f lbl sx0 x1 x2 x3 x4 x5 h = some (r, h') → ShM b0 h → (lbl = 0 → ea_W mX12_coming d h0 none h' 0 [(0, vR (some (b0 + 0))), (1, vI x1)] [] h) ∧ (lbl = 34 → ea_W mX12_coming d h0 none h' 34 [(0, vR (some (b0 + 0))), (1, vI x1), (2, vI x2), (3, vI x3)] [vI sx0] h) ∧ (lbl = 54 → ea_W mX12_coming d h0 none h' 54 [(0, vR (some (b0 + 0))), (1, vI x1), (2, vI x2), (3, vI x3), (4, vI x4), (5, vI x5)] [] h) ∧ (lbl = 118 → ea_W mX12_coming d h0 none h' 118 [(0, vR (some (b0 + 0))), (1, vI x1), (2, vI x2), (3, vI x3), (4, vI x4), (5, vI x5)] [] h) ∧ (lbl = 154 → ea_W mX12_coming d h0 none h' 154 [(0, vR (some (b0 + 0))), (1, vI x1), (2, vI x2), (3, vI x3), (4, vI x4), (5, vI x5)] [] h) := by
  intro f
  induction f with
  | zero => intro lbl sx0 x1 x2 x3 x4 x5 h r h' E; cases E
  | succ f ih =>
    intro lbl sx0 x1 x2 x3 x4 x5 h r h' E hs
    unfold gX12_coming at E
    refine ⟨?_, ?_⟩
    · intro el
      subst el
      have E := (if_pos rfl).symm.trans E
      refine ea_aload_n (pc := 0) dX12_coming_0 rfl 0 rfl ?_
      refine ea_getR (pc := 1) dX12_coming_1 ec_12 (k := 16) (Nat.le_of_ble_eq_true rfl) rfl (Or.inl ew_1361) (hs.1 0 (by decide)).1 (hs.1 0 (by decide)).2.1 (hs.2 0 16 rfl) ?_
      refine ea_iload_n (pc := 4) dX12_coming_4 rfl 1 rfl ?_
      obtain ⟨z1, E⟩ := gd_some E
      refine ea_iald (pc := 5) dX12_coming_5 (hs.1 12 (by decide)).1 (hs.1 12 (by decide)).2.1 (ea_vpl (hs.1 12 (by decide)).2.2 z1) ?_
      refine ea_istore_n (pc := 6) (lv' := [(0, vR (some (b0 + 0))), (1, vI x1), (2, vI (ea_i h (b0 + 12) (Int32.toNatClampNeg x1)))]) dX12_coming_6 rfl (Nat.le_of_ble_eq_true rfl) [1, 2, 0] rfl ?_
      refine ea_aload_n (pc := 7) dX12_coming_7 rfl 0 rfl ?_
      refine ea_getR (pc := 8) dX12_coming_8 ec_12 (k := 17) (Nat.le_of_ble_eq_true rfl) rfl (Or.inl ew_1362) (hs.1 0 (by decide)).1 (hs.1 0 (by decide)).2.1 (hs.2 0 17 rfl) ?_
      refine ea_iload_n (pc := 11) dX12_coming_11 rfl 1 rfl ?_
      obtain ⟨z2, E⟩ := gd_some E
      refine ea_iald (pc := 12) dX12_coming_12 (hs.1 13 (by decide)).1 (hs.1 13 (by decide)).2.1 (ea_vpl (hs.1 13 (by decide)).2.2 z2) ?_
      refine ea_istore_n (pc := 13) (lv' := [(0, vR (some (b0 + 0))), (1, vI x1), (2, vI (ea_i h (b0 + 12) (Int32.toNatClampNeg x1))), (3, vI (ea_i h (b0 + 13) (Int32.toNatClampNeg x1)))]) dX12_coming_13 rfl (Nat.le_of_ble_eq_true rfl) [1, 2, 3, 0] rfl ?_
      refine ea_iload_n (pc := 14) dX12_coming_14 rfl 3 rfl ?_
      refine ea_aload_n (pc := 15) dX12_coming_15 rfl 0 rfl ?_
      refine ea_getR (pc := 16) dX12_coming_16 ec_12 (k := 4) (Nat.le_of_ble_eq_true rfl) rfl (Or.inl ew_1349) (hs.1 0 (by decide)).1 (hs.1 0 (by decide)).2.1 (hs.2 0 4 rfl) ?_
      refine ea_iload_n (pc := 19) dX12_coming_19 rfl 2 rfl ?_
      refine ea_bipush (pc := 20) dX12_coming_20 (v := 7) rfl ?_
      refine ea_idiv (pc := 22) dX12_coming_22 (by decide) ?_
      obtain ⟨z3, E⟩ := gd_some E
      refine ea_iald (pc := 23) dX12_coming_23 (hs.1 2 (by decide)).1 (hs.1 2 (by decide)).2.1 (ea_vpl (hs.1 2 (by decide)).2.2 z3) ?_
      refine ea_iconst (pc := 24) dX12_coming_24 (v := 1) rfl ?_
      refine ea_isub (pc := 25) dX12_coming_25 ?_
      refine ea_icmp_ne (pc := 26) (tgt := 33) dX12_coming_26 rfl (fun c4 => ?_) (fun c4 => ?_)
      · have E := (if_neg c4).symm.trans E
        refine ea_iconst (pc := 33) dX12_coming_33 (v := 0) rfl ?_
        exact ((ih 34 (0 : Int32) (x1 : Int32) ((ea_i h (b0 + 12) (Int32.toNatClampNeg x1)) : Int32) ((ea_i h (b0 + 13) (Int32.toNatClampNeg x1)) : Int32) 0 0 h _ _ E hs).2.1 rfl)
      · have E := (if_pos c4).symm.trans E
        refine ea_iconst (pc := 29) dX12_coming_29 (v := 1) rfl ?_
        refine ea_goto (pc := 30) (tgt := 34) dX12_coming_30 rfl ?_
        exact ((ih 34 (1 : Int32) (x1 : Int32) ((ea_i h (b0 + 12) (Int32.toNatClampNeg x1)) : Int32) ((ea_i h (b0 + 13) (Int32.toNatClampNeg x1)) : Int32) 0 0 h _ _ E hs).2.1 rfl)
    refine ⟨?_, ?_⟩
    · intro el
      subst el
      have E := (if_neg (by decide)).symm.trans E
      have E := (if_pos rfl).symm.trans E
      refine ea_istore (pc := 34) (lv' := [(0, vR (some (b0 + 0))), (1, vI x1), (2, vI x2), (3, vI x3), (4, vI sx0)]) dX12_coming_34 (Nat.le_of_ble_eq_true rfl) [1, 2, 3, 4, 0] rfl ?_
      refine ea_aload_n (pc := 36) dX12_coming_36 rfl 0 rfl ?_
      refine ea_getR (pc := 37) dX12_coming_37 ec_12 (k := 10) (Nat.le_of_ble_eq_true rfl) rfl (Or.inl ew_1355) (hs.1 0 (by decide)).1 (hs.1 0 (by decide)).2.1 (hs.2 0 10 rfl) ?_
      refine ea_bipush (pc := 40) dX12_coming_40 (v := 8) rfl ?_
      refine ea_iload_n (pc := 42) dX12_coming_42 rfl 2 rfl ?_
      refine ea_imul (pc := 43) dX12_coming_43 ?_
      refine ea_iload_n (pc := 44) dX12_coming_44 rfl 3 rfl ?_
      refine ea_iadd (pc := 45) dX12_coming_45 ?_
      obtain ⟨z5, E⟩ := gd_some E
      refine ea_zald (pc := 46) dX12_coming_46 (hs.1 8 (by decide)).1 (hs.1 8 (by decide)).2.1 (ea_vpl (hs.1 8 (by decide)).2.2 z5) ?_
      refine ea_if_eq (pc := 47) (tgt := 51) dX12_coming_47 rfl (fun c6 => ?_) (fun c6 => ?_)
      · have E := (if_pos c6).symm.trans E
        refine ea_iconst (pc := 51) dX12_coming_51 (v := 0) rfl ?_
        refine ea_istore (pc := 52) (lv' := [(0, vR (some (b0 + 0))), (1, vI x1), (2, vI x2), (3, vI x3), (4, vI sx0), (5, vI 0)]) dX12_coming_52 (Nat.le_of_ble_eq_true rfl) [1, 2, 3, 4, 5, 0] rfl ?_
        exact ((ih 54 0 (x1 : Int32) (x2 : Int32) (x3 : Int32) (sx0 : Int32) (0 : Int32) h _ _ E hs).2.2.1 rfl)
      · have E := (if_neg c6).symm.trans E
        exact ea_vretO (pc := 50) dX12_coming_50 rfl E
    refine ⟨?_, ?_⟩
    · intro el
      subst el
      have E := (if_neg (by decide)).symm.trans E
      have E := (if_neg (by decide)).symm.trans E
      have E := (if_pos rfl).symm.trans E
      refine ea_iload (pc := 54) dX12_coming_54 5 rfl ?_
      refine ea_aload_n (pc := 56) dX12_coming_56 rfl 0 rfl ?_
      refine ea_getI (pc := 57) dX12_coming_57 ec_12 (k := 63) (Nat.le_of_ble_eq_true rfl) rfl (Or.inl ew_1408) (hs.1 0 (by decide)).1 (hs.1 0 (by decide)).2.1 ?_
      refine ea_icmp_ge (pc := 60) (tgt := 178) dX12_coming_60 rfl (fun c18 => ?_) (fun c18 => ?_)
      · have E := (if_pos c18).symm.trans E
        exact ea_vretO (pc := 178) dX12_coming_178 rfl E
      · have E := (if_neg c18).symm.trans E
        refine ea_aload_n (pc := 63) dX12_coming_63 rfl 0 rfl ?_
        refine ea_iload (pc := 64) dX12_coming_64 5 rfl ?_
        refine ea_iload_n (pc := 66) dX12_coming_66 rfl 2 rfl ?_
        obtain ⟨z7, E⟩ := gd_some E
        refine ea_callV (pc := 67) (d' := d - 1) (As := [vI x5, vI x2]) (st := []) dX12_coming_67 kX12_isAboard (sX12_isAboard (d := d - 1) (by omega) hs z7) (by omega) rfl (Nat.le_of_ble_eq_true rfl) ew_2067 ew_2069 ew_95 (ci := 12) rfl (by decide) (hs.1 0 (by decide)).1 (hs.1 0 (by decide)).2.1 ?_
        refine ea_if_ne (pc := 70) (tgt := 76) dX12_coming_70 rfl (fun c17 => ?_) (fun c17 => ?_)
        · have E := (if_neg c17).symm.trans E
          refine ea_aload_n (pc := 76) dX12_coming_76 rfl 0 rfl ?_
          refine ea_getR (pc := 77) dX12_coming_77 ec_12 (k := 87) (Nat.le_of_ble_eq_true rfl) rfl (Or.inl ew_1432) (hs.1 0 (by decide)).1 (hs.1 0 (by decide)).2.1 (hs.2 0 87 rfl) ?_
          refine ea_iload (pc := 80) dX12_coming_80 5 rfl ?_
          obtain ⟨z8, E⟩ := gd_some E
          refine ea_zald (pc := 82) dX12_coming_82 (hs.1 61 (by decide)).1 (hs.1 61 (by decide)).2.1 (ea_vpl (hs.1 61 (by decide)).2.2 z8) ?_
          refine ea_if_eq (pc := 83) (tgt := 118) dX12_coming_83 rfl (fun c16 => ?_) (fun c16 => ?_)
          · have E := (if_pos c16).symm.trans E
            exact ((ih 118 0 (x1 : Int32) (x2 : Int32) (x3 : Int32) (x4 : Int32) (x5 : Int32) h _ _ E hs).2.2.2.1 rfl)
          · have E := (if_neg c16).symm.trans E
            refine ea_aload_n (pc := 86) dX12_coming_86 rfl 0 rfl ?_
            refine ea_getR (pc := 87) dX12_coming_87 ec_12 (k := 83) (Nat.le_of_ble_eq_true rfl) rfl (Or.inl ew_1428) (hs.1 0 (by decide)).1 (hs.1 0 (by decide)).2.1 (hs.2 0 83 rfl) ?_
            refine ea_iload (pc := 90) dX12_coming_90 5 rfl ?_
            obtain ⟨z9, E⟩ := gd_some E
            refine ea_iald (pc := 92) dX12_coming_92 (hs.1 57 (by decide)).1 (hs.1 57 (by decide)).2.1 (ea_vpl (hs.1 57 (by decide)).2.2 z9) ?_
            refine ea_iload_n (pc := 93) dX12_coming_93 rfl 3 rfl ?_
            refine ea_icmp_gt (pc := 94) (tgt := 118) dX12_coming_94 rfl (fun c15 => ?_) (fun c15 => ?_)
            · have E := (if_pos c15).symm.trans E
              exact ((ih 118 0 (x1 : Int32) (x2 : Int32) (x3 : Int32) (x4 : Int32) (x5 : Int32) h _ _ E hs).2.2.2.1 rfl)
            · have E := (if_neg c15).symm.trans E
              refine ea_aload_n (pc := 97) dX12_coming_97 rfl 0 rfl ?_
              refine ea_iload (pc := 98) dX12_coming_98 5 rfl ?_
              refine ea_aload_n (pc := 100) dX12_coming_100 rfl 0 rfl ?_
              refine ea_getR (pc := 101) dX12_coming_101 ec_12 (k := 14) (Nat.le_of_ble_eq_true rfl) rfl (Or.inl ew_1359) (hs.1 0 (by decide)).1 (hs.1 0 (by decide)).2.1 (hs.2 0 14 rfl) ?_
              refine ea_iload_n (pc := 104) dX12_coming_104 rfl 1 rfl ?_
              obtain ⟨z10, E⟩ := gd_some E
              refine ea_iald (pc := 105) dX12_coming_105 (hs.1 10 (by decide)).1 (hs.1 10 (by decide)).2.1 (ea_vpl (hs.1 10 (by decide)).2.2 z10) ?_
              refine ea_aload_n (pc := 106) dX12_coming_106 rfl 0 rfl ?_
              refine ea_iload_n (pc := 107) dX12_coming_107 rfl 2 rfl ?_
              refine ea_iload_n (pc := 108) dX12_coming_108 rfl 3 rfl ?_
              obtain ⟨z11, E⟩ := gd_some E
              refine ea_callV (pc := 109) (d' := d - 1) (As := [vI x2, vI x3]) (st := [vI (ea_i h (b0 + 10) (Int32.toNatClampNeg x1)), vI x5, vR (some (b0 + 0))]) dX12_coming_109 kX12_townOf (sX12_townOf (d := d - 1) (by omega) hs z11) (by omega) rfl (Nat.le_of_ble_eq_true rfl) ew_1798 ew_1800 ew_60 (ci := 12) rfl (by decide) (hs.1 0 (by decide)).1 (hs.1 0 (by decide)).2.1 ?_
              obtain ⟨z12, E⟩ := gd_some E
              refine ea_callV (pc := 112) (d' := d - 1) (As := [vI x5, vI (ea_i h (b0 + 10) (Int32.toNatClampNeg x1)), vI (vX12_townOf b0 (x2 : Int32) (x3 : Int32) h)]) (st := []) dX12_coming_112 kX12_putsDown (sX12_putsDown (d := d - 1) (by omega) hs z12) (by omega) rfl (Nat.le_of_ble_eq_true rfl) ew_2074 ew_2076 ew_96 (ci := 12) rfl (by decide) (hs.1 0 (by decide)).1 (hs.1 0 (by decide)).2.1 ?_
              have hs13 : ShM b0 (wX12_putsDown b0 (x5 : Int32) ((ea_i h (b0 + 10) (Int32.toNatClampNeg x1)) : Int32) ((vX12_townOf b0 (x2 : Int32) (x3 : Int32) h) : Int32) h) := shX12_putsDown hs
              obtain ⟨H14, eH14, E⟩ := let_some E
              refine ea_nm eH14 ?_
              have hsH14 : ShM b0 H14 := by rw [eH14]; exact hs13
              refine ea_goto (pc := 115) (tgt := 172) dX12_coming_115 rfl ?_
              refine ea_iinc (pc := 172) (v := 1) (lv' := [(0, vR (some (b0 + 0))), (1, vI x1), (2, vI x2), (3, vI x3), (4, vI x4), (5, vI (x5 + (1 : Int32)))]) dX12_coming_172 5 rfl rfl (Nat.le_of_ble_eq_true rfl) [1, 2, 3, 4, 5, 0] rfl ?_
              refine ea_goto (pc := 175) (tgt := 54) dX12_coming_175 rfl ?_
              exact ((ih 54 0 (x1 : Int32) (x2 : Int32) (x3 : Int32) (x4 : Int32) ((x5 + (1 : Int32)) : Int32) H14 _ _ E hsH14).2.2.1 rfl)
        · have E := (if_pos c17).symm.trans E
          refine ea_goto (pc := 73) (tgt := 172) dX12_coming_73 rfl ?_
          refine ea_iinc (pc := 172) (v := 1) (lv' := [(0, vR (some (b0 + 0))), (1, vI x1), (2, vI x2), (3, vI x3), (4, vI x4), (5, vI (x5 + (1 : Int32)))]) dX12_coming_172 5 rfl rfl (Nat.le_of_ble_eq_true rfl) [1, 2, 3, 4, 5, 0] rfl ?_
          refine ea_goto (pc := 175) (tgt := 54) dX12_coming_175 rfl ?_
          exact ((ih 54 0 (x1 : Int32) (x2 : Int32) (x3 : Int32) (x4 : Int32) ((x5 + (1 : Int32)) : Int32) h _ _ E hs).2.2.1 rfl)
    refine ⟨?_, ?_⟩
    · intro el
      subst el
      have E := (if_neg (by decide)).symm.trans E
      have E := (if_neg (by decide)).symm.trans E
      have E := (if_neg (by decide)).symm.trans E
      have E := (if_pos rfl).symm.trans E
      refine ea_iload (pc := 118) dX12_coming_118 4 rfl ?_
      refine ea_if_eq (pc := 120) (tgt := 172) dX12_coming_120 rfl (fun c29 => ?_) (fun c29 => ?_)
      · have E := (if_pos c29).symm.trans E
        refine ea_iinc (pc := 172) (v := 1) (lv' := [(0, vR (some (b0 + 0))), (1, vI x1), (2, vI x2), (3, vI x3), (4, vI x4), (5, vI (x5 + (1 : Int32)))]) dX12_coming_172 5 rfl rfl (Nat.le_of_ble_eq_true rfl) [1, 2, 3, 4, 5, 0] rfl ?_
        refine ea_goto (pc := 175) (tgt := 54) dX12_coming_175 rfl ?_
        exact ((ih 54 0 (x1 : Int32) (x2 : Int32) (x3 : Int32) (x4 : Int32) ((x5 + (1 : Int32)) : Int32) h _ _ E hs).2.2.1 rfl)
      · have E := (if_neg c29).symm.trans E
        refine ea_aload_n (pc := 123) dX12_coming_123 rfl 0 rfl ?_
        refine ea_getR (pc := 124) dX12_coming_124 ec_12 (k := 87) (Nat.le_of_ble_eq_true rfl) rfl (Or.inl ew_1432) (hs.1 0 (by decide)).1 (hs.1 0 (by decide)).2.1 (hs.2 0 87 rfl) ?_
        refine ea_iload (pc := 127) dX12_coming_127 5 rfl ?_
        obtain ⟨z19, E⟩ := gd_some E
        refine ea_zald (pc := 129) dX12_coming_129 (hs.1 61 (by decide)).1 (hs.1 61 (by decide)).2.1 (ea_vpl (hs.1 61 (by decide)).2.2 z19) ?_
        refine ea_if_ne (pc := 130) (tgt := 154) dX12_coming_130 rfl (fun c28 => ?_) (fun c28 => ?_)
        · have E := (if_neg c28).symm.trans E
          exact ((ih 154 0 (x1 : Int32) (x2 : Int32) (x3 : Int32) (x4 : Int32) (x5 : Int32) h _ _ E hs).2.2.2.2 rfl)
        · have E := (if_pos c28).symm.trans E
          refine ea_aload_n (pc := 133) dX12_coming_133 rfl 0 rfl ?_
          refine ea_getR (pc := 134) dX12_coming_134 ec_12 (k := 84) (Nat.le_of_ble_eq_true rfl) rfl (Or.inl ew_1429) (hs.1 0 (by decide)).1 (hs.1 0 (by decide)).2.1 (hs.2 0 84 rfl) ?_
          refine ea_iload (pc := 137) dX12_coming_137 5 rfl ?_
          refine ea_dup2 (pc := 139) dX12_coming_139 rfl rfl ?_
          obtain ⟨z20, E⟩ := gd_some E
          refine ea_iald (pc := 140) dX12_coming_140 (hs.1 58 (by decide)).1 (hs.1 58 (by decide)).2.1 (ea_vpl (hs.1 58 (by decide)).2.2 z20) ?_
          refine ea_iconst (pc := 141) dX12_coming_141 (v := 1) rfl ?_
          refine ea_iadd (pc := 142) dX12_coming_142 ?_
          obtain ⟨z21, E⟩ := gd_some E
          refine ea_iast (pc := 143) dX12_coming_143 (hs.1 58 (by decide)).1 (hs.1 58 (by decide)).2.1 (ea_vpl (hs.1 58 (by decide)).2.2 z21) ?_
          have hs22 : ShM b0 (ea_wi h (b0 + 58) (Int32.toNatClampNeg x5) ((ea_i h (b0 + 58) (Int32.toNatClampNeg x5)) + (1 : Int32))) := ShM_wi hs
          obtain ⟨H23, eH23, E⟩ := let_some E
          refine ea_nm eH23 ?_
          have hsH23 : ShM b0 H23 := by rw [eH23]; exact hs22
          refine ea_aload_n (pc := 144) dX12_coming_144 rfl 0 rfl ?_
          refine ea_getR (pc := 145) dX12_coming_145 ec_12 (k := 86) (Nat.le_of_ble_eq_true rfl) rfl (Or.inl ew_1431) (hsH23.1 0 (by decide)).1 (hsH23.1 0 (by decide)).2.1 (hsH23.2 0 86 rfl) ?_
          refine ea_iload_n (pc := 148) dX12_coming_148 rfl 2 rfl ?_
          refine ea_dup2 (pc := 149) dX12_coming_149 rfl rfl ?_
          obtain ⟨z24, E⟩ := gd_some E
          refine ea_iald (pc := 150) dX12_coming_150 (hsH23.1 60 (by decide)).1 (hsH23.1 60 (by decide)).2.1 (ea_vpl (hsH23.1 60 (by decide)).2.2 z24) ?_
          refine ea_iconst (pc := 151) dX12_coming_151 (v := 1) rfl ?_
          refine ea_iadd (pc := 152) dX12_coming_152 ?_
          obtain ⟨z25, E⟩ := gd_some E
          refine ea_iast (pc := 153) dX12_coming_153 (hsH23.1 60 (by decide)).1 (hsH23.1 60 (by decide)).2.1 (ea_vpl (hsH23.1 60 (by decide)).2.2 z25) ?_
          have hs26 : ShM b0 (ea_wi H23 (b0 + 60) (Int32.toNatClampNeg x2) ((ea_i H23 (b0 + 60) (Int32.toNatClampNeg x2)) + (1 : Int32))) := ShM_wi hsH23
          obtain ⟨H27, eH27, E⟩ := let_some E
          refine ea_nm eH27 ?_
          have hsH27 : ShM b0 H27 := by rw [eH27]; exact hs26
          exact ((ih 154 0 (x1 : Int32) (x2 : Int32) (x3 : Int32) (x4 : Int32) (x5 : Int32) H27 _ _ E hsH27).2.2.2.2 rfl)
    intro el
    subst el
    have E := (if_neg (by decide)).symm.trans E
    have E := (if_neg (by decide)).symm.trans E
    have E := (if_neg (by decide)).symm.trans E
    have E := (if_neg (by decide)).symm.trans E
    have E := (if_pos rfl).symm.trans E
    refine ea_aload_n (pc := 154) dX12_coming_154 rfl 0 rfl ?_
    refine ea_iload (pc := 155) dX12_coming_155 5 rfl ?_
    refine ea_aload_n (pc := 157) dX12_coming_157 rfl 0 rfl ?_
    refine ea_getR (pc := 158) dX12_coming_158 ec_12 (k := 14) (Nat.le_of_ble_eq_true rfl) rfl (Or.inl ew_1359) (hs.1 0 (by decide)).1 (hs.1 0 (by decide)).2.1 (hs.2 0 14 rfl) ?_
    refine ea_iload_n (pc := 161) dX12_coming_161 rfl 1 rfl ?_
    obtain ⟨z30, E⟩ := gd_some E
    refine ea_iald (pc := 162) dX12_coming_162 (hs.1 10 (by decide)).1 (hs.1 10 (by decide)).2.1 (ea_vpl (hs.1 10 (by decide)).2.2 z30) ?_
    refine ea_aload_n (pc := 163) dX12_coming_163 rfl 0 rfl ?_
    refine ea_iload_n (pc := 164) dX12_coming_164 rfl 2 rfl ?_
    refine ea_iload_n (pc := 165) dX12_coming_165 rfl 3 rfl ?_
    obtain ⟨z31, E⟩ := gd_some E
    refine ea_callV (pc := 166) (d' := d - 1) (As := [vI x2, vI x3]) (st := [vI (ea_i h (b0 + 10) (Int32.toNatClampNeg x1)), vI x5, vR (some (b0 + 0))]) dX12_coming_166 kX12_townOf (sX12_townOf (d := d - 1) (by omega) hs z31) (by omega) rfl (Nat.le_of_ble_eq_true rfl) ew_1798 ew_1800 ew_60 (ci := 12) rfl (by decide) (hs.1 0 (by decide)).1 (hs.1 0 (by decide)).2.1 ?_
    obtain ⟨z32, E⟩ := gd_some E
    refine ea_callV (pc := 169) (d' := d - 1) (As := [vI x5, vI (ea_i h (b0 + 10) (Int32.toNatClampNeg x1)), vI (vX12_townOf b0 (x2 : Int32) (x3 : Int32) h)]) (st := []) dX12_coming_169 kX12_putsDown (sX12_putsDown (d := d - 1) (by omega) hs z32) (by omega) rfl (Nat.le_of_ble_eq_true rfl) ew_2074 ew_2076 ew_96 (ci := 12) rfl (by decide) (hs.1 0 (by decide)).1 (hs.1 0 (by decide)).2.1 ?_
    have hs33 : ShM b0 (wX12_putsDown b0 (x5 : Int32) ((ea_i h (b0 + 10) (Int32.toNatClampNeg x1)) : Int32) ((vX12_townOf b0 (x2 : Int32) (x3 : Int32) h) : Int32) h) := shX12_putsDown hs
    obtain ⟨H34, eH34, E⟩ := let_some E
    refine ea_nm eH34 ?_
    have hsH34 : ShM b0 H34 := by rw [eH34]; exact hs33
    refine ea_iinc (pc := 172) (v := 1) (lv' := [(0, vR (some (b0 + 0))), (1, vI x1), (2, vI x2), (3, vI x3), (4, vI x4), (5, vI (x5 + (1 : Int32)))]) dX12_coming_172 5 rfl rfl (Nat.le_of_ble_eq_true rfl) [1, 2, 3, 4, 5, 0] rfl ?_
    refine ea_goto (pc := 175) (tgt := 54) dX12_coming_175 rfl ?_
    exact ((ih 54 0 (x1 : Int32) (x2 : Int32) (x3 : Int32) (x4 : Int32) ((x5 + (1 : Int32)) : Int32) H34 _ _ E hsH34).2.2.1 rfl)
noncomputable def qX12_coming (b0 : Nat) (x1 : Int32) (h : ea_H) : Option (Unit × ea_H) := gX12_coming b0 1000000000 0 0 x1 0 0 0 0 h
def okX12_coming (b0 : Nat) (x1 : Int32) (h : ea_H) : Prop := ∃ x, qX12_coming b0 x1 h = some x
noncomputable def wX12_coming (b0 : Nat) (x1 : Int32) (h : ea_H) : ea_H := ((qX12_coming b0 x1 h).getD ((), h)).2
theorem sX12_coming {d : Nat} {b0 : Nat} {x1 : Int32} {h : ea_H} (hd : 3 ≤ d) (hs : ShM b0 h) (K : okX12_coming b0 x1 h) : ea_Met mX12_coming d [vR (some (b0 + 0)), vI x1] h none (wX12_coming b0 x1 h) := by
  obtain ⟨⟨x, y⟩, K⟩ := K
  unfold wX12_coming
  rw [K]
  unfold qX12_coming at K
  exact ea_enter rfl (Nat.le_of_ble_eq_true rfl) ((tX12_coming hd 1000000000 0 0 x1 0 0 0 0 h x y K hs).1 rfl)
theorem zX12_coming {b0 : Nat} : ∀ (f lbl : Nat) (sx0 : Int32) (x1 : Int32) (x2 : Int32) (x3 : Int32) (x4 : Int32) (x5 : Int32) (h : ea_H) (r : Unit) (h' : ea_H), gX12_coming b0 f lbl sx0 x1 x2 x3 x4 x5 h = some (r, h') → ShM b0 h → ShM b0 h' := by
  intro f
  induction f with
  | zero => intro lbl sx0 x1 x2 x3 x4 x5 h r h' E; cases E
  | succ f ih =>
    intro lbl sx0 x1 x2 x3 x4 x5 h r h' E hs
    unfold gX12_coming at E
    by_cases el0 : lbl = 0
    · have E := (if_pos el0).symm.trans E
      obtain ⟨z1, E⟩ := gd_some E
      obtain ⟨z2, E⟩ := gd_some E
      obtain ⟨z3, E⟩ := gd_some E
      by_cases c4 : (ea_i h (b0 + 13) (Int32.toNatClampNeg x1)) = ((ea_i h (b0 + 2) (Int32.toNatClampNeg ((ea_i h (b0 + 12) (Int32.toNatClampNeg x1)) / (7 : Int32)))) - (1 : Int32))
      · have E := (if_pos c4).symm.trans E
        exact ih 34 (1 : Int32) (x1 : Int32) ((ea_i h (b0 + 12) (Int32.toNatClampNeg x1)) : Int32) ((ea_i h (b0 + 13) (Int32.toNatClampNeg x1)) : Int32) 0 0 h _ _ E hs
      have E := (if_neg c4).symm.trans E
      exact ih 34 (0 : Int32) (x1 : Int32) ((ea_i h (b0 + 12) (Int32.toNatClampNeg x1)) : Int32) ((ea_i h (b0 + 13) (Int32.toNatClampNeg x1)) : Int32) 0 0 h _ _ E hs
    have E := (if_neg el0).symm.trans E
    by_cases el1 : lbl = 34
    · have E := (if_pos el1).symm.trans E
      obtain ⟨z5, E⟩ := gd_some E
      by_cases c6 : (ea_i h (b0 + 8) (Int32.toNatClampNeg (((8 : Int32) * x2) + x3))) = (0 : Int32)
      · have E := (if_pos c6).symm.trans E
        exact ih 54 0 (x1 : Int32) (x2 : Int32) (x3 : Int32) (sx0 : Int32) (0 : Int32) h _ _ E hs
      have E := (if_neg c6).symm.trans E
      exact ea_shO E hs
    have E := (if_neg el1).symm.trans E
    by_cases el2 : lbl = 54
    · have E := (if_pos el2).symm.trans E
      by_cases c18 : (ea_i h (b0 + 0) 63) ≤ x5
      · have E := (if_pos c18).symm.trans E
        exact ea_shO E hs
      have E := (if_neg c18).symm.trans E
      obtain ⟨z7, E⟩ := gd_some E
      by_cases c17 : (vX12_isAboard b0 (x5 : Int32) (x2 : Int32) h) = (0 : Int32)
      · have E := (if_pos c17).symm.trans E
        exact ih 54 0 (x1 : Int32) (x2 : Int32) (x3 : Int32) (x4 : Int32) ((x5 + (1 : Int32)) : Int32) h _ _ E hs
      have E := (if_neg c17).symm.trans E
      obtain ⟨z8, E⟩ := gd_some E
      by_cases c16 : (ea_i h (b0 + 61) (Int32.toNatClampNeg x5)) = (0 : Int32)
      · have E := (if_pos c16).symm.trans E
        exact ih 118 0 (x1 : Int32) (x2 : Int32) (x3 : Int32) (x4 : Int32) (x5 : Int32) h _ _ E hs
      have E := (if_neg c16).symm.trans E
      obtain ⟨z9, E⟩ := gd_some E
      by_cases c15 : x3 < (ea_i h (b0 + 57) (Int32.toNatClampNeg x5))
      · have E := (if_pos c15).symm.trans E
        exact ih 118 0 (x1 : Int32) (x2 : Int32) (x3 : Int32) (x4 : Int32) (x5 : Int32) h _ _ E hs
      have E := (if_neg c15).symm.trans E
      obtain ⟨z10, E⟩ := gd_some E
      obtain ⟨z11, E⟩ := gd_some E
      obtain ⟨z12, E⟩ := gd_some E
      obtain ⟨H14, eH14, E⟩ := let_some E
      have hsH14 : ShM b0 H14 := by rw [eH14]; exact (shX12_putsDown hs)
      exact ih 54 0 (x1 : Int32) (x2 : Int32) (x3 : Int32) (x4 : Int32) ((x5 + (1 : Int32)) : Int32) H14 _ _ E hsH14
    have E := (if_neg el2).symm.trans E
    by_cases el3 : lbl = 118
    · have E := (if_pos el3).symm.trans E
      by_cases c29 : x4 = (0 : Int32)
      · have E := (if_pos c29).symm.trans E
        exact ih 54 0 (x1 : Int32) (x2 : Int32) (x3 : Int32) (x4 : Int32) ((x5 + (1 : Int32)) : Int32) h _ _ E hs
      have E := (if_neg c29).symm.trans E
      obtain ⟨z19, E⟩ := gd_some E
      by_cases c28 : (ea_i h (b0 + 61) (Int32.toNatClampNeg x5)) = (0 : Int32)
      · have E := (if_pos c28).symm.trans E
        obtain ⟨z20, E⟩ := gd_some E
        obtain ⟨z21, E⟩ := gd_some E
        obtain ⟨H23, eH23, E⟩ := let_some E
        have hsH23 : ShM b0 H23 := by rw [eH23]; exact (ShM_wi hs)
        obtain ⟨z24, E⟩ := gd_some E
        obtain ⟨z25, E⟩ := gd_some E
        obtain ⟨H27, eH27, E⟩ := let_some E
        have hsH27 : ShM b0 H27 := by rw [eH27]; exact (ShM_wi hsH23)
        exact ih 154 0 (x1 : Int32) (x2 : Int32) (x3 : Int32) (x4 : Int32) (x5 : Int32) H27 _ _ E hsH27
      have E := (if_neg c28).symm.trans E
      exact ih 154 0 (x1 : Int32) (x2 : Int32) (x3 : Int32) (x4 : Int32) (x5 : Int32) h _ _ E hs
    have E := (if_neg el3).symm.trans E
    by_cases el4 : lbl = 154
    · have E := (if_pos el4).symm.trans E
      obtain ⟨z30, E⟩ := gd_some E
      obtain ⟨z31, E⟩ := gd_some E
      obtain ⟨z32, E⟩ := gd_some E
      obtain ⟨H34, eH34, E⟩ := let_some E
      have hsH34 : ShM b0 H34 := by rw [eH34]; exact (shX12_putsDown hs)
      exact ih 54 0 (x1 : Int32) (x2 : Int32) (x3 : Int32) (x4 : Int32) ((x5 + (1 : Int32)) : Int32) H34 _ _ E hsH34
    have E := (if_neg el4).symm.trans E
    cases E
theorem shX12_coming {b0 : Nat} {x1 : Int32} {h : ea_H} (hs : ShM b0 h) : ShM b0 (wX12_coming b0 x1 h) := by
  unfold wX12_coming
  cases K : qX12_coming b0 x1 h with
  | none => exact hs
  | some x => obtain ⟨x, y⟩ := x; unfold qX12_coming at K; exact zX12_coming _ _ _ _ _ _ _ _ _ _ _ K hs
noncomputable def gX12_sorts (b0 : Nat) : Nat → Nat → Int32 → Int32 → Int32 → ea_H → Option (Unit × ea_H)
  | 0, _, _, _, _, _ => none
  | f + 1, lbl, x1, x2, x3, h =>
    if lbl = 0 then (gX12_sorts b0 f 2 (x1 : Int32) (x2 : Int32) (0 : Int32) h) else
    if lbl = 2 then (if (ea_i h (b0 + 0) 92) ≤ x3 then (some ((), h)) else (gd (vp_in x3 8) (if (ea_i h (b0 + 69) (Int32.toNatClampNeg x3)) = (0 : Int32) then (gX12_sorts b0 f 2 (x1 : Int32) (x2 : Int32) ((x3 + (1 : Int32)) : Int32) h) else (gd (vp_in x3 8) (if (((ea_i h (b0 + 67) (Int32.toNatClampNeg x3)) >>> (x2 &&& 31)) &&& (1 : Int32)) = (0 : Int32) then (gX12_sorts b0 f 2 (x1 : Int32) (x2 : Int32) ((x3 + (1 : Int32)) : Int32) h) else (gd (vp_in x3 8) (gd (vp_in x3 8) (ea_let (ea_wi h (b0 + 69) (Int32.toNatClampNeg x3) ((ea_i h (b0 + 69) (Int32.toNatClampNeg x3)) - (1 : Int32))) fun H6 => (gd (vp_in x1 120) (ea_let (ea_wi H6 (b0 + 61) (Int32.toNatClampNeg x1) 1) fun H9 => (some ((), H9)))))))))))) else none
theorem tX12_sorts {d : Nat} {b0 : Nat} {h0 : ea_H} (hd : 1 ≤ d) : ∀ (f lbl : Nat) (x1 : Int32) (x2 : Int32) (x3 : Int32) (h : ea_H) (r : Unit) (h' : ea_H), gX12_sorts b0 f lbl x1 x2 x3 h = some (r, h') → ShM b0 h → (lbl = 0 → ea_W mX12_sorts d h0 none h' 0 [(0, vR (some (b0 + 0))), (1, vI x1), (2, vI x2)] [] h) ∧ (lbl = 2 → ea_W mX12_sorts d h0 none h' 2 [(0, vR (some (b0 + 0))), (1, vI x1), (2, vI x2), (3, vI x3)] [] h) := by
  intro f
  induction f with
  | zero => intro lbl x1 x2 x3 h r h' E; cases E
  | succ f ih =>
    intro lbl x1 x2 x3 h r h' E hs
    unfold gX12_sorts at E
    refine ⟨?_, ?_⟩
    · intro el
      subst el
      have E := (if_pos rfl).symm.trans E
      refine ea_iconst (pc := 0) dX12_sorts_0 (v := 0) rfl ?_
      refine ea_istore_n (pc := 1) (lv' := [(0, vR (some (b0 + 0))), (1, vI x1), (2, vI x2), (3, vI 0)]) dX12_sorts_1 rfl (Nat.le_of_ble_eq_true rfl) [1, 2, 3, 0] rfl ?_
      exact ((ih 2 (x1 : Int32) (x2 : Int32) (0 : Int32) h _ _ E hs).2 rfl)
    intro el
    subst el
    have E := (if_neg (by decide)).symm.trans E
    have E := (if_pos rfl).symm.trans E
    refine ea_iload_n (pc := 2) dX12_sorts_2 rfl 3 rfl ?_
    refine ea_aload_n (pc := 3) dX12_sorts_3 rfl 0 rfl ?_
    refine ea_getI (pc := 4) dX12_sorts_4 ec_12 (k := 92) (Nat.le_of_ble_eq_true rfl) rfl (Or.inl ew_1437) (hs.1 0 (by decide)).1 (hs.1 0 (by decide)).2.1 ?_
    refine ea_icmp_ge (pc := 7) (tgt := 59) dX12_sorts_7 rfl (fun c12 => ?_) (fun c12 => ?_)
    · have E := (if_pos c12).symm.trans E
      exact ea_vretO (pc := 59) dX12_sorts_59 rfl E
    · have E := (if_neg c12).symm.trans E
      refine ea_aload_n (pc := 10) dX12_sorts_10 rfl 0 rfl ?_
      refine ea_getR (pc := 11) dX12_sorts_11 ec_12 (k := 96) (Nat.le_of_ble_eq_true rfl) rfl (Or.inl ew_1441) (hs.1 0 (by decide)).1 (hs.1 0 (by decide)).2.1 (hs.2 0 96 rfl) ?_
      refine ea_iload_n (pc := 14) dX12_sorts_14 rfl 3 rfl ?_
      obtain ⟨z1, E⟩ := gd_some E
      refine ea_iald (pc := 15) dX12_sorts_15 (hs.1 69 (by decide)).1 (hs.1 69 (by decide)).2.1 (ea_vpl (hs.1 69 (by decide)).2.2 z1) ?_
      refine ea_if_eq (pc := 16) (tgt := 53) dX12_sorts_16 rfl (fun c11 => ?_) (fun c11 => ?_)
      · have E := (if_pos c11).symm.trans E
        refine ea_iinc (pc := 53) (v := 1) (lv' := [(0, vR (some (b0 + 0))), (1, vI x1), (2, vI x2), (3, vI (x3 + (1 : Int32)))]) dX12_sorts_53 3 rfl rfl (Nat.le_of_ble_eq_true rfl) [1, 2, 3, 0] rfl ?_
        refine ea_goto (pc := 56) (tgt := 2) dX12_sorts_56 rfl ?_
        exact ((ih 2 (x1 : Int32) (x2 : Int32) ((x3 + (1 : Int32)) : Int32) h _ _ E hs).2 rfl)
      · have E := (if_neg c11).symm.trans E
        refine ea_aload_n (pc := 19) dX12_sorts_19 rfl 0 rfl ?_
        refine ea_getR (pc := 20) dX12_sorts_20 ec_12 (k := 94) (Nat.le_of_ble_eq_true rfl) rfl (Or.inl ew_1439) (hs.1 0 (by decide)).1 (hs.1 0 (by decide)).2.1 (hs.2 0 94 rfl) ?_
        refine ea_iload_n (pc := 23) dX12_sorts_23 rfl 3 rfl ?_
        obtain ⟨z2, E⟩ := gd_some E
        refine ea_iald (pc := 24) dX12_sorts_24 (hs.1 67 (by decide)).1 (hs.1 67 (by decide)).2.1 (ea_vpl (hs.1 67 (by decide)).2.2 z2) ?_
        refine ea_iload_n (pc := 25) dX12_sorts_25 rfl 2 rfl ?_
        refine ea_ishr (pc := 26) dX12_sorts_26 ?_
        refine ea_iconst (pc := 27) dX12_sorts_27 (v := 1) rfl ?_
        refine ea_iand (pc := 28) dX12_sorts_28 ?_
        refine ea_if_ne (pc := 29) (tgt := 35) dX12_sorts_29 rfl (fun c10 => ?_) (fun c10 => ?_)
        · have E := (if_neg c10).symm.trans E
          refine ea_aload_n (pc := 35) dX12_sorts_35 rfl 0 rfl ?_
          refine ea_getR (pc := 36) dX12_sorts_36 ec_12 (k := 96) (Nat.le_of_ble_eq_true rfl) rfl (Or.inl ew_1441) (hs.1 0 (by decide)).1 (hs.1 0 (by decide)).2.1 (hs.2 0 96 rfl) ?_
          refine ea_iload_n (pc := 39) dX12_sorts_39 rfl 3 rfl ?_
          refine ea_dup2 (pc := 40) dX12_sorts_40 rfl rfl ?_
          obtain ⟨z3, E⟩ := gd_some E
          refine ea_iald (pc := 41) dX12_sorts_41 (hs.1 69 (by decide)).1 (hs.1 69 (by decide)).2.1 (ea_vpl (hs.1 69 (by decide)).2.2 z3) ?_
          refine ea_iconst (pc := 42) dX12_sorts_42 (v := 1) rfl ?_
          refine ea_isub (pc := 43) dX12_sorts_43 ?_
          obtain ⟨z4, E⟩ := gd_some E
          refine ea_iast (pc := 44) dX12_sorts_44 (hs.1 69 (by decide)).1 (hs.1 69 (by decide)).2.1 (ea_vpl (hs.1 69 (by decide)).2.2 z4) ?_
          have hs5 : ShM b0 (ea_wi h (b0 + 69) (Int32.toNatClampNeg x3) ((ea_i h (b0 + 69) (Int32.toNatClampNeg x3)) - (1 : Int32))) := ShM_wi hs
          obtain ⟨H6, eH6, E⟩ := let_some E
          refine ea_nm eH6 ?_
          have hsH6 : ShM b0 H6 := by rw [eH6]; exact hs5
          refine ea_aload_n (pc := 45) dX12_sorts_45 rfl 0 rfl ?_
          refine ea_getR (pc := 46) dX12_sorts_46 ec_12 (k := 87) (Nat.le_of_ble_eq_true rfl) rfl (Or.inl ew_1432) (hsH6.1 0 (by decide)).1 (hsH6.1 0 (by decide)).2.1 (hsH6.2 0 87 rfl) ?_
          refine ea_iload_n (pc := 49) dX12_sorts_49 rfl 1 rfl ?_
          refine ea_iconst (pc := 50) dX12_sorts_50 (v := 1) rfl ?_
          obtain ⟨z7, E⟩ := gd_some E
          refine ea_zast (pc := 51) dX12_sorts_51 (y := 1) (ea_bn (Or.inr rfl)) (hsH6.1 61 (by decide)).1 (hsH6.1 61 (by decide)).2.1 (ea_vpl (hsH6.1 61 (by decide)).2.2 z7) ?_
          have hs8 : ShM b0 (ea_wi H6 (b0 + 61) (Int32.toNatClampNeg x1) 1) := ShM_wi hsH6
          obtain ⟨H9, eH9, E⟩ := let_some E
          refine ea_nm eH9 ?_
          have hsH9 : ShM b0 H9 := by rw [eH9]; exact hs8
          exact ea_vretO (pc := 52) dX12_sorts_52 rfl E
        · have E := (if_pos c10).symm.trans E
          refine ea_goto (pc := 32) (tgt := 53) dX12_sorts_32 rfl ?_
          refine ea_iinc (pc := 53) (v := 1) (lv' := [(0, vR (some (b0 + 0))), (1, vI x1), (2, vI x2), (3, vI (x3 + (1 : Int32)))]) dX12_sorts_53 3 rfl rfl (Nat.le_of_ble_eq_true rfl) [1, 2, 3, 0] rfl ?_
          refine ea_goto (pc := 56) (tgt := 2) dX12_sorts_56 rfl ?_
          exact ((ih 2 (x1 : Int32) (x2 : Int32) ((x3 + (1 : Int32)) : Int32) h _ _ E hs).2 rfl)
noncomputable def qX12_sorts (b0 : Nat) (x1 : Int32) (x2 : Int32) (h : ea_H) : Option (Unit × ea_H) := gX12_sorts b0 1000000000 0 x1 x2 0 h
def okX12_sorts (b0 : Nat) (x1 : Int32) (x2 : Int32) (h : ea_H) : Prop := ∃ x, qX12_sorts b0 x1 x2 h = some x
noncomputable def wX12_sorts (b0 : Nat) (x1 : Int32) (x2 : Int32) (h : ea_H) : ea_H := ((qX12_sorts b0 x1 x2 h).getD ((), h)).2
theorem sX12_sorts {d : Nat} {b0 : Nat} {x1 : Int32} {x2 : Int32} {h : ea_H} (hd : 1 ≤ d) (hs : ShM b0 h) (K : okX12_sorts b0 x1 x2 h) : ea_Met mX12_sorts d [vR (some (b0 + 0)), vI x1, vI x2] h none (wX12_sorts b0 x1 x2 h) := by
  obtain ⟨⟨x, y⟩, K⟩ := K
  unfold wX12_sorts
  rw [K]
  unfold qX12_sorts at K
  exact ea_enter rfl (Nat.le_of_ble_eq_true rfl) ((tX12_sorts hd 1000000000 0 x1 x2 0 h x y K hs).1 rfl)
theorem zX12_sorts {b0 : Nat} : ∀ (f lbl : Nat) (x1 : Int32) (x2 : Int32) (x3 : Int32) (h : ea_H) (r : Unit) (h' : ea_H), gX12_sorts b0 f lbl x1 x2 x3 h = some (r, h') → ShM b0 h → ShM b0 h' := by
  intro f
  induction f with
  | zero => intro lbl x1 x2 x3 h r h' E; cases E
  | succ f ih =>
    intro lbl x1 x2 x3 h r h' E hs
    unfold gX12_sorts at E
    by_cases el0 : lbl = 0
    · have E := (if_pos el0).symm.trans E
      exact ih 2 (x1 : Int32) (x2 : Int32) (0 : Int32) h _ _ E hs
    have E := (if_neg el0).symm.trans E
    by_cases el1 : lbl = 2
    · have E := (if_pos el1).symm.trans E
      by_cases c12 : (ea_i h (b0 + 0) 92) ≤ x3
      · have E := (if_pos c12).symm.trans E
        exact ea_shO E hs
      have E := (if_neg c12).symm.trans E
      obtain ⟨z1, E⟩ := gd_some E
      by_cases c11 : (ea_i h (b0 + 69) (Int32.toNatClampNeg x3)) = (0 : Int32)
      · have E := (if_pos c11).symm.trans E
        exact ih 2 (x1 : Int32) (x2 : Int32) ((x3 + (1 : Int32)) : Int32) h _ _ E hs
      have E := (if_neg c11).symm.trans E
      obtain ⟨z2, E⟩ := gd_some E
      by_cases c10 : (((ea_i h (b0 + 67) (Int32.toNatClampNeg x3)) >>> (x2 &&& 31)) &&& (1 : Int32)) = (0 : Int32)
      · have E := (if_pos c10).symm.trans E
        exact ih 2 (x1 : Int32) (x2 : Int32) ((x3 + (1 : Int32)) : Int32) h _ _ E hs
      have E := (if_neg c10).symm.trans E
      obtain ⟨z3, E⟩ := gd_some E
      obtain ⟨z4, E⟩ := gd_some E
      obtain ⟨H6, eH6, E⟩ := let_some E
      have hsH6 : ShM b0 H6 := by rw [eH6]; exact (ShM_wi hs)
      obtain ⟨z7, E⟩ := gd_some E
      obtain ⟨H9, eH9, E⟩ := let_some E
      have hsH9 : ShM b0 H9 := by rw [eH9]; exact (ShM_wi hsH6)
      exact ea_shO E hsH9
    have E := (if_neg el1).symm.trans E
    cases E
theorem shX12_sorts {b0 : Nat} {x1 : Int32} {x2 : Int32} {h : ea_H} (hs : ShM b0 h) : ShM b0 (wX12_sorts b0 x1 x2 h) := by
  unfold wX12_sorts
  cases K : qX12_sorts b0 x1 x2 h with
  | none => exact hs
  | some x => obtain ⟨x, y⟩ := x; unfold qX12_sorts at K; exact zX12_sorts _ _ _ _ _ _ _ _ K hs
noncomputable def gX12_begins (b0 : Nat) : Nat → Nat → Int32 → Int32 → Int32 → Int32 → ea_H → Option (Unit × ea_H)
  | 0, _, _, _, _, _, _ => none
  | f + 1, lbl, sx0, sx1, x1, x2, h =>
    if lbl = 0 then (gX12_begins b0 f 2 0 0 (x1 : Int32) (0 : Int32) h) else
    if lbl = 2 then (if (ea_i h (b0 + 0) 63) ≤ x2 then (some ((), h)) else (gd (vp_in x2 120) (if (ea_i h (b0 + 55) (Int32.toNatClampNeg x2)) = (3 : Int32) then (gd (vp_in x2 120) (gd (vp_in x2 120) (ea_let (ea_wi h (b0 + 51) (Int32.toNatClampNeg x2) ((ea_i h (b0 + 51) (Int32.toNatClampNeg x2)) + (1 : Int32))) fun H5 => (gd (vp_in x2 120) (gd (vp_in x2 120) (if (ea_i H5 (b0 + 47) (Int32.toNatClampNeg x2)) = ((-1) : Int32) then (gX12_begins b0 f 64 (3 : Int32) ((ea_i H5 (b0 + 51) (Int32.toNatClampNeg x2)) : Int32) (x1 : Int32) (x2 : Int32) H5) else (gd (vp_in x2 120) (gd (vp_in (ea_i H5 (b0 + 47) (Int32.toNatClampNeg x2)) 6) (gX12_begins b0 f 64 ((ea_i H5 (b0 + 28) (Int32.toNatClampNeg (ea_i H5 (b0 + 47) (Int32.toNatClampNeg x2)))) : Int32) ((ea_i H5 (b0 + 51) (Int32.toNatClampNeg x2)) : Int32) (x1 : Int32) (x2 : Int32) H5))))))))) else (gX12_begins b0 f 2 0 0 (x1 : Int32) ((x2 + (1 : Int32)) : Int32) h)))) else
    if lbl = 64 then (if sx1 < sx0 then (gX12_begins b0 f 2 0 0 (x1 : Int32) ((x2 + (1 : Int32)) : Int32) h) else (gd (vp_in x2 120) (gd ((okX12_turns b0 (x2 : Int32) (x1 : Int32) (6 : Int32) ((ea_i h (b0 + 56) (Int32.toNatClampNeg x2)) : Int32) h)) (ea_let (wX12_turns b0 (x2 : Int32) (x1 : Int32) (6 : Int32) ((ea_i h (b0 + 56) (Int32.toNatClampNeg x2)) : Int32) h) fun H16 => (gX12_begins b0 f 2 0 0 (x1 : Int32) ((x2 + (1 : Int32)) : Int32) H16))))) else none
theorem tX12_begins {d : Nat} {b0 : Nat} {h0 : ea_H} (hd : 2 ≤ d) : ∀ (f lbl : Nat) (sx0 : Int32) (sx1 : Int32) (x1 : Int32) (x2 : Int32) (h : ea_H) (r : Unit) (h' : ea_H), gX12_begins b0 f lbl sx0 sx1 x1 x2 h = some (r, h') → ShM b0 h → (lbl = 0 → ea_W mX12_begins d h0 none h' 0 [(0, vR (some (b0 + 0))), (1, vI x1)] [] h) ∧ (lbl = 2 → ea_W mX12_begins d h0 none h' 2 [(0, vR (some (b0 + 0))), (1, vI x1), (2, vI x2)] [] h) ∧ (lbl = 64 → ea_W mX12_begins d h0 none h' 64 [(0, vR (some (b0 + 0))), (1, vI x1), (2, vI x2)] [vI sx0, vI sx1] h) := by
  intro f
  induction f with
  | zero => intro lbl sx0 sx1 x1 x2 h r h' E; cases E
  | succ f ih =>
    intro lbl sx0 sx1 x1 x2 h r h' E hs
    unfold gX12_begins at E
    refine ⟨?_, ?_⟩
    · intro el
      subst el
      have E := (if_pos rfl).symm.trans E
      refine ea_iconst (pc := 0) dX12_begins_0 (v := 0) rfl ?_
      refine ea_istore_n (pc := 1) (lv' := [(0, vR (some (b0 + 0))), (1, vI x1), (2, vI 0)]) dX12_begins_1 rfl (Nat.le_of_ble_eq_true rfl) [1, 2, 0] rfl ?_
      exact ((ih 2 0 0 (x1 : Int32) (0 : Int32) h _ _ E hs).2.1 rfl)
    refine ⟨?_, ?_⟩
    · intro el
      subst el
      have E := (if_neg (by decide)).symm.trans E
      have E := (if_pos rfl).symm.trans E
      refine ea_iload_n (pc := 2) dX12_begins_2 rfl 2 rfl ?_
      refine ea_aload_n (pc := 3) dX12_begins_3 rfl 0 rfl ?_
      refine ea_getI (pc := 4) dX12_begins_4 ec_12 (k := 63) (Nat.le_of_ble_eq_true rfl) rfl (Or.inl ew_1408) (hs.1 0 (by decide)).1 (hs.1 0 (by decide)).2.1 ?_
      refine ea_icmp_ge (pc := 7) (tgt := 87) dX12_begins_7 rfl (fun c12 => ?_) (fun c12 => ?_)
      · have E := (if_pos c12).symm.trans E
        exact ea_vretO (pc := 87) dX12_begins_87 rfl E
      · have E := (if_neg c12).symm.trans E
        refine ea_aload_n (pc := 10) dX12_begins_10 rfl 0 rfl ?_
        refine ea_getR (pc := 11) dX12_begins_11 ec_12 (k := 81) (Nat.le_of_ble_eq_true rfl) rfl (Or.inl ew_1426) (hs.1 0 (by decide)).1 (hs.1 0 (by decide)).2.1 (hs.2 0 81 rfl) ?_
        refine ea_iload_n (pc := 14) dX12_begins_14 rfl 2 rfl ?_
        obtain ⟨z1, E⟩ := gd_some E
        refine ea_iald (pc := 15) dX12_begins_15 (hs.1 55 (by decide)).1 (hs.1 55 (by decide)).2.1 (ea_vpl (hs.1 55 (by decide)).2.2 z1) ?_
        refine ea_iconst (pc := 16) dX12_begins_16 (v := 3) rfl ?_
        refine ea_icmp_eq (pc := 17) (tgt := 23) dX12_begins_17 rfl (fun c11 => ?_) (fun c11 => ?_)
        · have E := (if_pos c11).symm.trans E
          refine ea_aload_n (pc := 23) dX12_begins_23 rfl 0 rfl ?_
          refine ea_getR (pc := 24) dX12_begins_24 ec_12 (k := 77) (Nat.le_of_ble_eq_true rfl) rfl (Or.inl ew_1422) (hs.1 0 (by decide)).1 (hs.1 0 (by decide)).2.1 (hs.2 0 77 rfl) ?_
          refine ea_iload_n (pc := 27) dX12_begins_27 rfl 2 rfl ?_
          refine ea_dup2 (pc := 28) dX12_begins_28 rfl rfl ?_
          obtain ⟨z2, E⟩ := gd_some E
          refine ea_iald (pc := 29) dX12_begins_29 (hs.1 51 (by decide)).1 (hs.1 51 (by decide)).2.1 (ea_vpl (hs.1 51 (by decide)).2.2 z2) ?_
          refine ea_iconst (pc := 30) dX12_begins_30 (v := 1) rfl ?_
          refine ea_iadd (pc := 31) dX12_begins_31 ?_
          obtain ⟨z3, E⟩ := gd_some E
          refine ea_iast (pc := 32) dX12_begins_32 (hs.1 51 (by decide)).1 (hs.1 51 (by decide)).2.1 (ea_vpl (hs.1 51 (by decide)).2.2 z3) ?_
          have hs4 : ShM b0 (ea_wi h (b0 + 51) (Int32.toNatClampNeg x2) ((ea_i h (b0 + 51) (Int32.toNatClampNeg x2)) + (1 : Int32))) := ShM_wi hs
          obtain ⟨H5, eH5, E⟩ := let_some E
          refine ea_nm eH5 ?_
          have hsH5 : ShM b0 H5 := by rw [eH5]; exact hs4
          refine ea_aload_n (pc := 33) dX12_begins_33 rfl 0 rfl ?_
          refine ea_getR (pc := 34) dX12_begins_34 ec_12 (k := 77) (Nat.le_of_ble_eq_true rfl) rfl (Or.inl ew_1422) (hsH5.1 0 (by decide)).1 (hsH5.1 0 (by decide)).2.1 (hsH5.2 0 77 rfl) ?_
          refine ea_iload_n (pc := 37) dX12_begins_37 rfl 2 rfl ?_
          obtain ⟨z6, E⟩ := gd_some E
          refine ea_iald (pc := 38) dX12_begins_38 (hsH5.1 51 (by decide)).1 (hsH5.1 51 (by decide)).2.1 (ea_vpl (hsH5.1 51 (by decide)).2.2 z6) ?_
          refine ea_aload_n (pc := 39) dX12_begins_39 rfl 0 rfl ?_
          refine ea_getR (pc := 40) dX12_begins_40 ec_12 (k := 73) (Nat.le_of_ble_eq_true rfl) rfl (Or.inl ew_1418) (hsH5.1 0 (by decide)).1 (hsH5.1 0 (by decide)).2.1 (hsH5.2 0 73 rfl) ?_
          refine ea_iload_n (pc := 43) dX12_begins_43 rfl 2 rfl ?_
          obtain ⟨z7, E⟩ := gd_some E
          refine ea_iald (pc := 44) dX12_begins_44 (hsH5.1 47 (by decide)).1 (hsH5.1 47 (by decide)).2.1 (ea_vpl (hsH5.1 47 (by decide)).2.2 z7) ?_
          refine ea_iconst (pc := 45) dX12_begins_45 (v := (-1)) rfl ?_
          refine ea_icmp_ne (pc := 46) (tgt := 53) dX12_begins_46 rfl (fun c10 => ?_) (fun c10 => ?_)
          · have E := (if_neg c10).symm.trans E
            refine ea_aload_n (pc := 53) dX12_begins_53 rfl 0 rfl ?_
            refine ea_getR (pc := 54) dX12_begins_54 ec_12 (k := 33) (Nat.le_of_ble_eq_true rfl) rfl (Or.inl ew_1378) (hsH5.1 0 (by decide)).1 (hsH5.1 0 (by decide)).2.1 (hsH5.2 0 33 rfl) ?_
            refine ea_aload_n (pc := 57) dX12_begins_57 rfl 0 rfl ?_
            refine ea_getR (pc := 58) dX12_begins_58 ec_12 (k := 73) (Nat.le_of_ble_eq_true rfl) rfl (Or.inl ew_1418) (hsH5.1 0 (by decide)).1 (hsH5.1 0 (by decide)).2.1 (hsH5.2 0 73 rfl) ?_
            refine ea_iload_n (pc := 61) dX12_begins_61 rfl 2 rfl ?_
            obtain ⟨z8, E⟩ := gd_some E
            refine ea_iald (pc := 62) dX12_begins_62 (hsH5.1 47 (by decide)).1 (hsH5.1 47 (by decide)).2.1 (ea_vpl (hsH5.1 47 (by decide)).2.2 z8) ?_
            obtain ⟨z9, E⟩ := gd_some E
            refine ea_iald (pc := 63) dX12_begins_63 (hsH5.1 28 (by decide)).1 (hsH5.1 28 (by decide)).2.1 (ea_vpl (hsH5.1 28 (by decide)).2.2 z9) ?_
            exact ((ih 64 ((ea_i H5 (b0 + 28) (Int32.toNatClampNeg (ea_i H5 (b0 + 47) (Int32.toNatClampNeg x2)))) : Int32) ((ea_i H5 (b0 + 51) (Int32.toNatClampNeg x2)) : Int32) (x1 : Int32) (x2 : Int32) H5 _ _ E hsH5).2.2 rfl)
          · have E := (if_pos c10).symm.trans E
            refine ea_iconst (pc := 49) dX12_begins_49 (v := 3) rfl ?_
            refine ea_goto (pc := 50) (tgt := 64) dX12_begins_50 rfl ?_
            exact ((ih 64 (3 : Int32) ((ea_i H5 (b0 + 51) (Int32.toNatClampNeg x2)) : Int32) (x1 : Int32) (x2 : Int32) H5 _ _ E hsH5).2.2 rfl)
        · have E := (if_neg c11).symm.trans E
          refine ea_goto (pc := 20) (tgt := 81) dX12_begins_20 rfl ?_
          refine ea_iinc (pc := 81) (v := 1) (lv' := [(0, vR (some (b0 + 0))), (1, vI x1), (2, vI (x2 + (1 : Int32)))]) dX12_begins_81 2 rfl rfl (Nat.le_of_ble_eq_true rfl) [1, 2, 0] rfl ?_
          refine ea_goto (pc := 84) (tgt := 2) dX12_begins_84 rfl ?_
          exact ((ih 2 0 0 (x1 : Int32) ((x2 + (1 : Int32)) : Int32) h _ _ E hs).2.1 rfl)
    intro el
    subst el
    have E := (if_neg (by decide)).symm.trans E
    have E := (if_neg (by decide)).symm.trans E
    have E := (if_pos rfl).symm.trans E
    refine ea_icmp_lt (pc := 64) (tgt := 81) dX12_begins_64 rfl (fun c17 => ?_) (fun c17 => ?_)
    · have E := (if_pos c17).symm.trans E
      refine ea_iinc (pc := 81) (v := 1) (lv' := [(0, vR (some (b0 + 0))), (1, vI x1), (2, vI (x2 + (1 : Int32)))]) dX12_begins_81 2 rfl rfl (Nat.le_of_ble_eq_true rfl) [1, 2, 0] rfl ?_
      refine ea_goto (pc := 84) (tgt := 2) dX12_begins_84 rfl ?_
      exact ((ih 2 0 0 (x1 : Int32) ((x2 + (1 : Int32)) : Int32) h _ _ E hs).2.1 rfl)
    · have E := (if_neg c17).symm.trans E
      refine ea_aload_n (pc := 67) dX12_begins_67 rfl 0 rfl ?_
      refine ea_iload_n (pc := 68) dX12_begins_68 rfl 2 rfl ?_
      refine ea_iload_n (pc := 69) dX12_begins_69 rfl 1 rfl ?_
      refine ea_bipush (pc := 70) dX12_begins_70 (v := 6) rfl ?_
      refine ea_aload_n (pc := 72) dX12_begins_72 rfl 0 rfl ?_
      refine ea_getR (pc := 73) dX12_begins_73 ec_12 (k := 82) (Nat.le_of_ble_eq_true rfl) rfl (Or.inl ew_1427) (hs.1 0 (by decide)).1 (hs.1 0 (by decide)).2.1 (hs.2 0 82 rfl) ?_
      refine ea_iload_n (pc := 76) dX12_begins_76 rfl 2 rfl ?_
      obtain ⟨z13, E⟩ := gd_some E
      refine ea_iald (pc := 77) dX12_begins_77 (hs.1 56 (by decide)).1 (hs.1 56 (by decide)).2.1 (ea_vpl (hs.1 56 (by decide)).2.2 z13) ?_
      obtain ⟨z14, E⟩ := gd_some E
      refine ea_callV (pc := 78) (d' := d - 1) (As := [vI x2, vI x1, vI 6, vI (ea_i h (b0 + 56) (Int32.toNatClampNeg x2))]) (st := []) dX12_begins_78 kX12_turns (sX12_turns (d := d - 1) (by omega) hs z14) (by omega) rfl (Nat.le_of_ble_eq_true rfl) ew_2011 ew_2013 ew_88 (ci := 12) rfl (by decide) (hs.1 0 (by decide)).1 (hs.1 0 (by decide)).2.1 ?_
      have hs15 : ShM b0 (wX12_turns b0 (x2 : Int32) (x1 : Int32) (6 : Int32) ((ea_i h (b0 + 56) (Int32.toNatClampNeg x2)) : Int32) h) := shX12_turns hs
      obtain ⟨H16, eH16, E⟩ := let_some E
      refine ea_nm eH16 ?_
      have hsH16 : ShM b0 H16 := by rw [eH16]; exact hs15
      refine ea_iinc (pc := 81) (v := 1) (lv' := [(0, vR (some (b0 + 0))), (1, vI x1), (2, vI (x2 + (1 : Int32)))]) dX12_begins_81 2 rfl rfl (Nat.le_of_ble_eq_true rfl) [1, 2, 0] rfl ?_
      refine ea_goto (pc := 84) (tgt := 2) dX12_begins_84 rfl ?_
      exact ((ih 2 0 0 (x1 : Int32) ((x2 + (1 : Int32)) : Int32) H16 _ _ E hsH16).2.1 rfl)
noncomputable def qX12_begins (b0 : Nat) (x1 : Int32) (h : ea_H) : Option (Unit × ea_H) := gX12_begins b0 1000000000 0 0 0 x1 0 h
def okX12_begins (b0 : Nat) (x1 : Int32) (h : ea_H) : Prop := ∃ x, qX12_begins b0 x1 h = some x
noncomputable def wX12_begins (b0 : Nat) (x1 : Int32) (h : ea_H) : ea_H := ((qX12_begins b0 x1 h).getD ((), h)).2
theorem sX12_begins {d : Nat} {b0 : Nat} {x1 : Int32} {h : ea_H} (hd : 2 ≤ d) (hs : ShM b0 h) (K : okX12_begins b0 x1 h) : ea_Met mX12_begins d [vR (some (b0 + 0)), vI x1] h none (wX12_begins b0 x1 h) := by
  obtain ⟨⟨x, y⟩, K⟩ := K
  unfold wX12_begins
  rw [K]
  unfold qX12_begins at K
  exact ea_enter rfl (Nat.le_of_ble_eq_true rfl) ((tX12_begins hd 1000000000 0 0 0 x1 0 h x y K hs).1 rfl)
theorem zX12_begins {b0 : Nat} : ∀ (f lbl : Nat) (sx0 : Int32) (sx1 : Int32) (x1 : Int32) (x2 : Int32) (h : ea_H) (r : Unit) (h' : ea_H), gX12_begins b0 f lbl sx0 sx1 x1 x2 h = some (r, h') → ShM b0 h → ShM b0 h' := by
  intro f
  induction f with
  | zero => intro lbl sx0 sx1 x1 x2 h r h' E; cases E
  | succ f ih =>
    intro lbl sx0 sx1 x1 x2 h r h' E hs
    unfold gX12_begins at E
    by_cases el0 : lbl = 0
    · have E := (if_pos el0).symm.trans E
      exact ih 2 0 0 (x1 : Int32) (0 : Int32) h _ _ E hs
    have E := (if_neg el0).symm.trans E
    by_cases el1 : lbl = 2
    · have E := (if_pos el1).symm.trans E
      by_cases c12 : (ea_i h (b0 + 0) 63) ≤ x2
      · have E := (if_pos c12).symm.trans E
        exact ea_shO E hs
      have E := (if_neg c12).symm.trans E
      obtain ⟨z1, E⟩ := gd_some E
      by_cases c11 : (ea_i h (b0 + 55) (Int32.toNatClampNeg x2)) = (3 : Int32)
      · have E := (if_pos c11).symm.trans E
        obtain ⟨z2, E⟩ := gd_some E
        obtain ⟨z3, E⟩ := gd_some E
        obtain ⟨H5, eH5, E⟩ := let_some E
        have hsH5 : ShM b0 H5 := by rw [eH5]; exact (ShM_wi hs)
        obtain ⟨z6, E⟩ := gd_some E
        obtain ⟨z7, E⟩ := gd_some E
        by_cases c10 : (ea_i H5 (b0 + 47) (Int32.toNatClampNeg x2)) = ((-1) : Int32)
        · have E := (if_pos c10).symm.trans E
          exact ih 64 (3 : Int32) ((ea_i H5 (b0 + 51) (Int32.toNatClampNeg x2)) : Int32) (x1 : Int32) (x2 : Int32) H5 _ _ E hsH5
        have E := (if_neg c10).symm.trans E
        obtain ⟨z8, E⟩ := gd_some E
        obtain ⟨z9, E⟩ := gd_some E
        exact ih 64 ((ea_i H5 (b0 + 28) (Int32.toNatClampNeg (ea_i H5 (b0 + 47) (Int32.toNatClampNeg x2)))) : Int32) ((ea_i H5 (b0 + 51) (Int32.toNatClampNeg x2)) : Int32) (x1 : Int32) (x2 : Int32) H5 _ _ E hsH5
      have E := (if_neg c11).symm.trans E
      exact ih 2 0 0 (x1 : Int32) ((x2 + (1 : Int32)) : Int32) h _ _ E hs
    have E := (if_neg el1).symm.trans E
    by_cases el2 : lbl = 64
    · have E := (if_pos el2).symm.trans E
      by_cases c17 : sx1 < sx0
      · have E := (if_pos c17).symm.trans E
        exact ih 2 0 0 (x1 : Int32) ((x2 + (1 : Int32)) : Int32) h _ _ E hs
      have E := (if_neg c17).symm.trans E
      obtain ⟨z13, E⟩ := gd_some E
      obtain ⟨z14, E⟩ := gd_some E
      obtain ⟨H16, eH16, E⟩ := let_some E
      have hsH16 : ShM b0 H16 := by rw [eH16]; exact (shX12_turns hs)
      exact ih 2 0 0 (x1 : Int32) ((x2 + (1 : Int32)) : Int32) H16 _ _ E hsH16
    have E := (if_neg el2).symm.trans E
    cases E
theorem shX12_begins {b0 : Nat} {x1 : Int32} {h : ea_H} (hs : ShM b0 h) : ShM b0 (wX12_begins b0 x1 h) := by
  unfold wX12_begins
  cases K : qX12_begins b0 x1 h with
  | none => exact hs
  | some x => obtain ⟨x, y⟩ := x; unfold qX12_begins at K; exact zX12_begins _ _ _ _ _ _ _ _ _ K hs
noncomputable def gX12_look (b0 : Nat) : Nat → Nat → Int32 → Int32 → Int32 → ea_H → Option (Int32 × ea_H)
  | 0, _, _, _, _, _ => none
  | f + 1, lbl, x1, x2, x3, h =>
    if lbl = 0 then (if Int32.toInt x1 = 0 then (some ((ea_i h (b0 + 0) 0), h)) else (if Int32.toInt x1 = 1 then (some ((ea_i h (b0 + 0) 1), h)) else (if Int32.toInt x1 = 2 then (some ((ea_i h (b0 + 0) 2), h)) else (if Int32.toInt x1 = 3 then (some ((ea_i h (b0 + 0) 63), h)) else (if Int32.toInt x1 = 4 then (some ((ea_i h (b0 + 0) 92), h)) else (if Int32.toInt x1 = 5 then (some ((ea_i h (b0 + 0) 25), h)) else (if (vX12_isIn (x1 : Int32) (10 : Int32) (16 : Int32) h) = (0 : Int32) then (some (((-1) : Int32), h)) else (gX12_look b0 f 85 (x1 : Int32) (0 : Int32) (0 : Int32) h)))))))) else
    if lbl = 85 then (if (ea_i h (b0 + 0) 63) ≤ x3 then (some (x2, h)) else (gd (vp_in x3 120) (if (ea_i h (b0 + 55) (Int32.toNatClampNeg x3)) = (x1 - (10 : Int32)) then (gX12_look b0 f 85 (x1 : Int32) ((x2 + (1 : Int32)) : Int32) ((x3 + (1 : Int32)) : Int32) h) else (gX12_look b0 f 85 (x1 : Int32) ((x2 + (0 : Int32)) : Int32) ((x3 + (1 : Int32)) : Int32) h)))) else none
theorem tX12_look {d : Nat} {b0 : Nat} {h0 : ea_H} (hd : 2 ≤ d) : ∀ (f lbl : Nat) (x1 : Int32) (x2 : Int32) (x3 : Int32) (h : ea_H) (r : Int32) (h' : ea_H), gX12_look b0 f lbl x1 x2 x3 h = some (r, h') → ShM b0 h → (lbl = 0 → ea_W mX12_look d h0 (some (vI r)) h' 0 [(0, vR (some (b0 + 0))), (1, vI x1)] [] h) ∧ (lbl = 85 → ea_W mX12_look d h0 (some (vI r)) h' 85 [(0, vR (some (b0 + 0))), (1, vI x1), (2, vI x2), (3, vI x3)] [] h) := by
  intro f
  induction f with
  | zero => intro lbl x1 x2 x3 h r h' E; cases E
  | succ f ih =>
    intro lbl x1 x2 x3 h r h' E hs
    unfold gX12_look at E
    refine ⟨?_, ?_⟩
    · intro el
      subst el
      have E := (if_pos rfl).symm.trans E
      refine ea_iconst (pc := 0) dX12_look_0 (v := 0) rfl ?_
      refine ea_istore_n (pc := 1) (lv' := [(0, vR (some (b0 + 0))), (1, vI x1), (2, vI 0)]) dX12_look_1 rfl (Nat.le_of_ble_eq_true rfl) [1, 2, 0] rfl ?_
      refine ea_iload_n (pc := 2) dX12_look_2 rfl 1 rfl ?_
      by_cases qc3_0 : Int32.toInt x1 = 0
      · have E := (if_pos qc3_0).symm.trans E
        refine ea_tswIn (pc := 3) (tgt := 40) dX12_look_3 (by rw [qc3_0]; decide) (by rw [qc3_0]; decide) (by rw [qc3_0]; rfl) rfl ?_
        refine ea_aload_n (pc := 40) dX12_look_40 rfl 0 rfl ?_
        refine ea_getI (pc := 41) dX12_look_41 ec_12 (k := 0) (Nat.le_of_ble_eq_true rfl) rfl (Or.inl ew_1345) (hs.1 0 (by decide)).1 (hs.1 0 (by decide)).2.1 ?_
        exact ea_iretO (pc := 44) dX12_look_44 rfl rfl E
      have E := (if_neg qc3_0).symm.trans E
      by_cases qc3_1 : Int32.toInt x1 = 1
      · have E := (if_pos qc3_1).symm.trans E
        refine ea_tswIn (pc := 3) (tgt := 45) dX12_look_3 (by rw [qc3_1]; decide) (by rw [qc3_1]; decide) (by rw [qc3_1]; rfl) rfl ?_
        refine ea_aload_n (pc := 45) dX12_look_45 rfl 0 rfl ?_
        refine ea_getI (pc := 46) dX12_look_46 ec_12 (k := 1) (Nat.le_of_ble_eq_true rfl) rfl (Or.inl ew_1346) (hs.1 0 (by decide)).1 (hs.1 0 (by decide)).2.1 ?_
        exact ea_iretO (pc := 49) dX12_look_49 rfl rfl E
      have E := (if_neg qc3_1).symm.trans E
      by_cases qc3_2 : Int32.toInt x1 = 2
      · have E := (if_pos qc3_2).symm.trans E
        refine ea_tswIn (pc := 3) (tgt := 50) dX12_look_3 (by rw [qc3_2]; decide) (by rw [qc3_2]; decide) (by rw [qc3_2]; rfl) rfl ?_
        refine ea_aload_n (pc := 50) dX12_look_50 rfl 0 rfl ?_
        refine ea_getI (pc := 51) dX12_look_51 ec_12 (k := 2) (Nat.le_of_ble_eq_true rfl) rfl (Or.inl ew_1347) (hs.1 0 (by decide)).1 (hs.1 0 (by decide)).2.1 ?_
        exact ea_iretO (pc := 54) dX12_look_54 rfl rfl E
      have E := (if_neg qc3_2).symm.trans E
      by_cases qc3_3 : Int32.toInt x1 = 3
      · have E := (if_pos qc3_3).symm.trans E
        refine ea_tswIn (pc := 3) (tgt := 55) dX12_look_3 (by rw [qc3_3]; decide) (by rw [qc3_3]; decide) (by rw [qc3_3]; rfl) rfl ?_
        refine ea_aload_n (pc := 55) dX12_look_55 rfl 0 rfl ?_
        refine ea_getI (pc := 56) dX12_look_56 ec_12 (k := 63) (Nat.le_of_ble_eq_true rfl) rfl (Or.inl ew_1408) (hs.1 0 (by decide)).1 (hs.1 0 (by decide)).2.1 ?_
        exact ea_iretO (pc := 59) dX12_look_59 rfl rfl E
      have E := (if_neg qc3_3).symm.trans E
      by_cases qc3_4 : Int32.toInt x1 = 4
      · have E := (if_pos qc3_4).symm.trans E
        refine ea_tswIn (pc := 3) (tgt := 60) dX12_look_3 (by rw [qc3_4]; decide) (by rw [qc3_4]; decide) (by rw [qc3_4]; rfl) rfl ?_
        refine ea_aload_n (pc := 60) dX12_look_60 rfl 0 rfl ?_
        refine ea_getI (pc := 61) dX12_look_61 ec_12 (k := 92) (Nat.le_of_ble_eq_true rfl) rfl (Or.inl ew_1437) (hs.1 0 (by decide)).1 (hs.1 0 (by decide)).2.1 ?_
        exact ea_iretO (pc := 64) dX12_look_64 rfl rfl E
      have E := (if_neg qc3_4).symm.trans E
      by_cases qc3_5 : Int32.toInt x1 = 5
      · have E := (if_pos qc3_5).symm.trans E
        refine ea_tswIn (pc := 3) (tgt := 65) dX12_look_3 (by rw [qc3_5]; decide) (by rw [qc3_5]; decide) (by rw [qc3_5]; rfl) rfl ?_
        refine ea_aload_n (pc := 65) dX12_look_65 rfl 0 rfl ?_
        refine ea_getI (pc := 66) dX12_look_66 ec_12 (k := 25) (Nat.le_of_ble_eq_true rfl) rfl (Or.inl ew_1370) (hs.1 0 (by decide)).1 (hs.1 0 (by decide)).2.1 ?_
        exact ea_iretO (pc := 69) dX12_look_69 rfl rfl E
      have E := (if_neg qc3_5).symm.trans E
      refine ea_tswOut (pc := 3) (tgt := 70) dX12_look_3 (ea_sw_0_5 qc3_0 qc3_1 qc3_2 qc3_3 qc3_4 qc3_5) rfl ?_
      refine ea_iload_n (pc := 70) dX12_look_70 rfl 1 rfl ?_
      refine ea_bipush (pc := 71) dX12_look_71 (v := 10) rfl ?_
      refine ea_bipush (pc := 73) dX12_look_73 (v := 16) rfl ?_
      refine ea_callS (pc := 75) (d' := d - 1) (As := [vI x1, vI 10, vI 16]) (st := []) dX12_look_75 kX12_isIn (sX12_isIn (d := d - 1) (by omega)) (by omega) rfl (Nat.le_of_ble_eq_true rfl) ew_1712 ew_1713 ?_
      refine ea_if_ne (pc := 78) (tgt := 83) dX12_look_78 rfl (fun c2 => ?_) (fun c2 => ?_)
      · have E := (if_neg c2).symm.trans E
        refine ea_iconst (pc := 83) dX12_look_83 (v := 0) rfl ?_
        refine ea_istore_n (pc := 84) (lv' := [(0, vR (some (b0 + 0))), (1, vI x1), (2, vI 0), (3, vI 0)]) dX12_look_84 rfl (Nat.le_of_ble_eq_true rfl) [1, 2, 3, 0] rfl ?_
        exact ((ih 85 (x1 : Int32) (0 : Int32) (0 : Int32) h _ _ E hs).2 rfl)
      · have E := (if_pos c2).symm.trans E
        refine ea_iconst (pc := 81) dX12_look_81 (v := (-1)) rfl ?_
        exact ea_iretO (pc := 82) dX12_look_82 rfl rfl E
    intro el
    subst el
    have E := (if_neg (by decide)).symm.trans E
    have E := (if_pos rfl).symm.trans E
    refine ea_iload_n (pc := 85) dX12_look_85 rfl 3 rfl ?_
    refine ea_aload_n (pc := 86) dX12_look_86 rfl 0 rfl ?_
    refine ea_getI (pc := 87) dX12_look_87 ec_12 (k := 63) (Nat.le_of_ble_eq_true rfl) rfl (Or.inl ew_1408) (hs.1 0 (by decide)).1 (hs.1 0 (by decide)).2.1 ?_
    refine ea_icmp_ge (pc := 90) (tgt := 120) dX12_look_90 rfl (fun c5 => ?_) (fun c5 => ?_)
    · have E := (if_pos c5).symm.trans E
      refine ea_iload_n (pc := 120) dX12_look_120 rfl 2 rfl ?_
      exact ea_iretO (pc := 121) dX12_look_121 rfl rfl E
    · have E := (if_neg c5).symm.trans E
      refine ea_iload_n (pc := 93) dX12_look_93 rfl 2 rfl ?_
      refine ea_aload_n (pc := 94) dX12_look_94 rfl 0 rfl ?_
      refine ea_getR (pc := 95) dX12_look_95 ec_12 (k := 81) (Nat.le_of_ble_eq_true rfl) rfl (Or.inl ew_1426) (hs.1 0 (by decide)).1 (hs.1 0 (by decide)).2.1 (hs.2 0 81 rfl) ?_
      refine ea_iload_n (pc := 98) dX12_look_98 rfl 3 rfl ?_
      obtain ⟨z3, E⟩ := gd_some E
      refine ea_iald (pc := 99) dX12_look_99 (hs.1 55 (by decide)).1 (hs.1 55 (by decide)).2.1 (ea_vpl (hs.1 55 (by decide)).2.2 z3) ?_
      refine ea_iload_n (pc := 100) dX12_look_100 rfl 1 rfl ?_
      refine ea_bipush (pc := 101) dX12_look_101 (v := 10) rfl ?_
      refine ea_isub (pc := 103) dX12_look_103 ?_
      refine ea_icmp_ne (pc := 104) (tgt := 111) dX12_look_104 rfl (fun c4 => ?_) (fun c4 => ?_)
      · have E := (if_neg c4).symm.trans E
        refine ea_iconst (pc := 111) dX12_look_111 (v := 0) rfl ?_
        refine ea_iadd (pc := 112) dX12_look_112 ?_
        refine ea_istore_n (pc := 113) (lv' := [(0, vR (some (b0 + 0))), (1, vI x1), (2, vI (x2 + (0 : Int32))), (3, vI x3)]) dX12_look_113 rfl (Nat.le_of_ble_eq_true rfl) [1, 2, 0, 3] rfl ?_
        refine ea_iinc (pc := 114) (v := 1) (lv' := [(0, vR (some (b0 + 0))), (1, vI x1), (2, vI (x2 + (0 : Int32))), (3, vI (x3 + (1 : Int32)))]) dX12_look_114 3 rfl rfl (Nat.le_of_ble_eq_true rfl) [1, 2, 3, 0] rfl ?_
        refine ea_goto (pc := 117) (tgt := 85) dX12_look_117 rfl ?_
        exact ((ih 85 (x1 : Int32) ((x2 + (0 : Int32)) : Int32) ((x3 + (1 : Int32)) : Int32) h _ _ E hs).2 rfl)
      · have E := (if_pos c4).symm.trans E
        refine ea_iconst (pc := 107) dX12_look_107 (v := 1) rfl ?_
        refine ea_goto (pc := 108) (tgt := 112) dX12_look_108 rfl ?_
        refine ea_iadd (pc := 112) dX12_look_112 ?_
        refine ea_istore_n (pc := 113) (lv' := [(0, vR (some (b0 + 0))), (1, vI x1), (2, vI (x2 + (1 : Int32))), (3, vI x3)]) dX12_look_113 rfl (Nat.le_of_ble_eq_true rfl) [1, 2, 0, 3] rfl ?_
        refine ea_iinc (pc := 114) (v := 1) (lv' := [(0, vR (some (b0 + 0))), (1, vI x1), (2, vI (x2 + (1 : Int32))), (3, vI (x3 + (1 : Int32)))]) dX12_look_114 3 rfl rfl (Nat.le_of_ble_eq_true rfl) [1, 2, 3, 0] rfl ?_
        refine ea_goto (pc := 117) (tgt := 85) dX12_look_117 rfl ?_
        exact ((ih 85 (x1 : Int32) ((x2 + (1 : Int32)) : Int32) ((x3 + (1 : Int32)) : Int32) h _ _ E hs).2 rfl)
noncomputable def qX12_look (b0 : Nat) (x1 : Int32) (h : ea_H) : Option (Int32 × ea_H) := gX12_look b0 1000000000 0 x1 0 0 h
def okX12_look (b0 : Nat) (x1 : Int32) (h : ea_H) : Prop := ∃ x, qX12_look b0 x1 h = some x
noncomputable def vX12_look (b0 : Nat) (x1 : Int32) (h : ea_H) : Int32 := ((qX12_look b0 x1 h).getD (0, h)).1
noncomputable def wX12_look (b0 : Nat) (x1 : Int32) (h : ea_H) : ea_H := ((qX12_look b0 x1 h).getD (0, h)).2
theorem sX12_look {d : Nat} {b0 : Nat} {x1 : Int32} {h : ea_H} (hd : 2 ≤ d) (hs : ShM b0 h) (K : okX12_look b0 x1 h) : ea_Met mX12_look d [vR (some (b0 + 0)), vI x1] h (some (vI (vX12_look b0 x1 h))) (wX12_look b0 x1 h) := by
  obtain ⟨⟨x, y⟩, K⟩ := K
  unfold wX12_look vX12_look
  rw [K]
  unfold qX12_look at K
  exact ea_enter rfl (Nat.le_of_ble_eq_true rfl) ((tX12_look hd 1000000000 0 x1 0 0 h x y K hs).1 rfl)
theorem zX12_look {b0 : Nat} : ∀ (f lbl : Nat) (x1 : Int32) (x2 : Int32) (x3 : Int32) (h : ea_H) (r : Int32) (h' : ea_H), gX12_look b0 f lbl x1 x2 x3 h = some (r, h') → ShM b0 h → ShM b0 h' := by
  intro f
  induction f with
  | zero => intro lbl x1 x2 x3 h r h' E; cases E
  | succ f ih =>
    intro lbl x1 x2 x3 h r h' E hs
    unfold gX12_look at E
    by_cases el0 : lbl = 0
    · have E := (if_pos el0).symm.trans E
      by_cases qc3_0 : Int32.toInt x1 = 0
      · have E := (if_pos qc3_0).symm.trans E
        exact ea_shO E hs
      have E := (if_neg qc3_0).symm.trans E
      by_cases qc3_1 : Int32.toInt x1 = 1
      · have E := (if_pos qc3_1).symm.trans E
        exact ea_shO E hs
      have E := (if_neg qc3_1).symm.trans E
      by_cases qc3_2 : Int32.toInt x1 = 2
      · have E := (if_pos qc3_2).symm.trans E
        exact ea_shO E hs
      have E := (if_neg qc3_2).symm.trans E
      by_cases qc3_3 : Int32.toInt x1 = 3
      · have E := (if_pos qc3_3).symm.trans E
        exact ea_shO E hs
      have E := (if_neg qc3_3).symm.trans E
      by_cases qc3_4 : Int32.toInt x1 = 4
      · have E := (if_pos qc3_4).symm.trans E
        exact ea_shO E hs
      have E := (if_neg qc3_4).symm.trans E
      by_cases qc3_5 : Int32.toInt x1 = 5
      · have E := (if_pos qc3_5).symm.trans E
        exact ea_shO E hs
      have E := (if_neg qc3_5).symm.trans E
      by_cases c2 : (vX12_isIn (x1 : Int32) (10 : Int32) (16 : Int32) h) = (0 : Int32)
      · have E := (if_pos c2).symm.trans E
        exact ea_shO E hs
      have E := (if_neg c2).symm.trans E
      exact ih 85 (x1 : Int32) (0 : Int32) (0 : Int32) h _ _ E hs
    have E := (if_neg el0).symm.trans E
    by_cases el1 : lbl = 85
    · have E := (if_pos el1).symm.trans E
      by_cases c5 : (ea_i h (b0 + 0) 63) ≤ x3
      · have E := (if_pos c5).symm.trans E
        exact ea_shO E hs
      have E := (if_neg c5).symm.trans E
      obtain ⟨z3, E⟩ := gd_some E
      by_cases c4 : (ea_i h (b0 + 55) (Int32.toNatClampNeg x3)) = (x1 - (10 : Int32))
      · have E := (if_pos c4).symm.trans E
        exact ih 85 (x1 : Int32) ((x2 + (1 : Int32)) : Int32) ((x3 + (1 : Int32)) : Int32) h _ _ E hs
      have E := (if_neg c4).symm.trans E
      exact ih 85 (x1 : Int32) ((x2 + (0 : Int32)) : Int32) ((x3 + (1 : Int32)) : Int32) h _ _ E hs
    have E := (if_neg el1).symm.trans E
    cases E
theorem shX12_look {b0 : Nat} {x1 : Int32} {h : ea_H} (hs : ShM b0 h) : ShM b0 (wX12_look b0 x1 h) := by
  unfold wX12_look
  cases K : qX12_look b0 x1 h with
  | none => exact hs
  | some x => obtain ⟨x, y⟩ := x; unfold qX12_look at K; exact zX12_look _ _ _ _ _ _ _ _ K hs
noncomputable def gX12_gone (b0 : Nat) : Nat → Nat → Int32 → Int32 → ea_H → Option (Int32 × ea_H)
  | 0, _, _, _, _ => none
  | f + 1, lbl, x1, x2, h =>
    if lbl = 0 then (gX12_gone b0 f 2 (x1 : Int32) ((-1) : Int32) h) else
    if lbl = 2 then (gd (vp_in (x1 / (7 : Int32)) 10) (if (ea_i h (b0 + 2) (Int32.toNatClampNeg (x1 / (7 : Int32)))) ≤ (x2 + (2 : Int32)) then (some (x2, h)) else (gd ((okX12_goesAt b0 (x1 : Int32) ((x2 + (1 : Int32)) : Int32) h)) (if (ea_i h (b0 + 0) 0) < (vX12_goesAt b0 (x1 : Int32) ((x2 + (1 : Int32)) : Int32) h) then (some (x2, h)) else (gX12_gone b0 f 2 (x1 : Int32) ((x2 + (1 : Int32)) : Int32) h))))) else none
theorem tX12_gone {d : Nat} {b0 : Nat} {h0 : ea_H} (hd : 2 ≤ d) : ∀ (f lbl : Nat) (x1 : Int32) (x2 : Int32) (h : ea_H) (r : Int32) (h' : ea_H), gX12_gone b0 f lbl x1 x2 h = some (r, h') → ShM b0 h → (lbl = 0 → ea_W mX12_gone d h0 (some (vI r)) h' 0 [(0, vR (some (b0 + 0))), (1, vI x1)] [] h) ∧ (lbl = 2 → ea_W mX12_gone d h0 (some (vI r)) h' 2 [(0, vR (some (b0 + 0))), (1, vI x1), (2, vI x2)] [] h) := by
  intro f
  induction f with
  | zero => intro lbl x1 x2 h r h' E; cases E
  | succ f ih =>
    intro lbl x1 x2 h r h' E hs
    unfold gX12_gone at E
    refine ⟨?_, ?_⟩
    · intro el
      subst el
      have E := (if_pos rfl).symm.trans E
      refine ea_iconst (pc := 0) dX12_gone_0 (v := (-1)) rfl ?_
      refine ea_istore_n (pc := 1) (lv' := [(0, vR (some (b0 + 0))), (1, vI x1), (2, vI (-1))]) dX12_gone_1 rfl (Nat.le_of_ble_eq_true rfl) [1, 2, 0] rfl ?_
      exact ((ih 2 (x1 : Int32) ((-1) : Int32) h _ _ E hs).2 rfl)
    intro el
    subst el
    have E := (if_neg (by decide)).symm.trans E
    have E := (if_pos rfl).symm.trans E
    refine ea_iload_n (pc := 2) dX12_gone_2 rfl 2 rfl ?_
    refine ea_iconst (pc := 3) dX12_gone_3 (v := 2) rfl ?_
    refine ea_iadd (pc := 4) dX12_gone_4 ?_
    refine ea_aload_n (pc := 5) dX12_gone_5 rfl 0 rfl ?_
    refine ea_getR (pc := 6) dX12_gone_6 ec_12 (k := 4) (Nat.le_of_ble_eq_true rfl) rfl (Or.inl ew_1349) (hs.1 0 (by decide)).1 (hs.1 0 (by decide)).2.1 (hs.2 0 4 rfl) ?_
    refine ea_iload_n (pc := 9) dX12_gone_9 rfl 1 rfl ?_
    refine ea_bipush (pc := 10) dX12_gone_10 (v := 7) rfl ?_
    refine ea_idiv (pc := 12) dX12_gone_12 (by decide) ?_
    obtain ⟨z1, E⟩ := gd_some E
    refine ea_iald (pc := 13) dX12_gone_13 (hs.1 2 (by decide)).1 (hs.1 2 (by decide)).2.1 (ea_vpl (hs.1 2 (by decide)).2.2 z1) ?_
    refine ea_icmp_ge (pc := 14) (tgt := 38) dX12_gone_14 rfl (fun c4 => ?_) (fun c4 => ?_)
    · have E := (if_pos c4).symm.trans E
      refine ea_iload_n (pc := 38) dX12_gone_38 rfl 2 rfl ?_
      exact ea_iretO (pc := 39) dX12_gone_39 rfl rfl E
    · have E := (if_neg c4).symm.trans E
      refine ea_aload_n (pc := 17) dX12_gone_17 rfl 0 rfl ?_
      refine ea_iload_n (pc := 18) dX12_gone_18 rfl 1 rfl ?_
      refine ea_iload_n (pc := 19) dX12_gone_19 rfl 2 rfl ?_
      refine ea_iconst (pc := 20) dX12_gone_20 (v := 1) rfl ?_
      refine ea_iadd (pc := 21) dX12_gone_21 ?_
      obtain ⟨z2, E⟩ := gd_some E
      refine ea_callV (pc := 22) (d' := d - 1) (As := [vI x1, vI (x2 + (1 : Int32))]) (st := []) dX12_gone_22 kX12_goesAt (sX12_goesAt (d := d - 1) (by omega) hs z2) (by omega) rfl (Nat.le_of_ble_eq_true rfl) ew_1786 ew_1788 ew_57 (ci := 12) rfl (by decide) (hs.1 0 (by decide)).1 (hs.1 0 (by decide)).2.1 ?_
      refine ea_aload_n (pc := 25) dX12_gone_25 rfl 0 rfl ?_
      refine ea_getI (pc := 26) dX12_gone_26 ec_12 (k := 0) (Nat.le_of_ble_eq_true rfl) rfl (Or.inl ew_1345) (hs.1 0 (by decide)).1 (hs.1 0 (by decide)).2.1 ?_
      refine ea_icmp_gt (pc := 29) (tgt := 38) dX12_gone_29 rfl (fun c3 => ?_) (fun c3 => ?_)
      · have E := (if_pos c3).symm.trans E
        refine ea_iload_n (pc := 38) dX12_gone_38 rfl 2 rfl ?_
        exact ea_iretO (pc := 39) dX12_gone_39 rfl rfl E
      · have E := (if_neg c3).symm.trans E
        refine ea_iinc (pc := 32) (v := 1) (lv' := [(0, vR (some (b0 + 0))), (1, vI x1), (2, vI (x2 + (1 : Int32)))]) dX12_gone_32 2 rfl rfl (Nat.le_of_ble_eq_true rfl) [1, 2, 0] rfl ?_
        refine ea_goto (pc := 35) (tgt := 2) dX12_gone_35 rfl ?_
        exact ((ih 2 (x1 : Int32) ((x2 + (1 : Int32)) : Int32) h _ _ E hs).2 rfl)
noncomputable def qX12_gone (b0 : Nat) (x1 : Int32) (h : ea_H) : Option (Int32 × ea_H) := gX12_gone b0 1000000000 0 x1 0 h
def okX12_gone (b0 : Nat) (x1 : Int32) (h : ea_H) : Prop := ∃ x, qX12_gone b0 x1 h = some x
noncomputable def vX12_gone (b0 : Nat) (x1 : Int32) (h : ea_H) : Int32 := ((qX12_gone b0 x1 h).getD (0, h)).1
noncomputable def wX12_gone (b0 : Nat) (x1 : Int32) (h : ea_H) : ea_H := ((qX12_gone b0 x1 h).getD (0, h)).2
theorem sX12_gone {d : Nat} {b0 : Nat} {x1 : Int32} {h : ea_H} (hd : 2 ≤ d) (hs : ShM b0 h) (K : okX12_gone b0 x1 h) : ea_Met mX12_gone d [vR (some (b0 + 0)), vI x1] h (some (vI (vX12_gone b0 x1 h))) (wX12_gone b0 x1 h) := by
  obtain ⟨⟨x, y⟩, K⟩ := K
  unfold wX12_gone vX12_gone
  rw [K]
  unfold qX12_gone at K
  exact ea_enter rfl (Nat.le_of_ble_eq_true rfl) ((tX12_gone hd 1000000000 0 x1 0 h x y K hs).1 rfl)
theorem zX12_gone {b0 : Nat} : ∀ (f lbl : Nat) (x1 : Int32) (x2 : Int32) (h : ea_H) (r : Int32) (h' : ea_H), gX12_gone b0 f lbl x1 x2 h = some (r, h') → ShM b0 h → ShM b0 h' := by
  intro f
  induction f with
  | zero => intro lbl x1 x2 h r h' E; cases E
  | succ f ih =>
    intro lbl x1 x2 h r h' E hs
    unfold gX12_gone at E
    by_cases el0 : lbl = 0
    · have E := (if_pos el0).symm.trans E
      exact ih 2 (x1 : Int32) ((-1) : Int32) h _ _ E hs
    have E := (if_neg el0).symm.trans E
    by_cases el1 : lbl = 2
    · have E := (if_pos el1).symm.trans E
      obtain ⟨z1, E⟩ := gd_some E
      by_cases c4 : (ea_i h (b0 + 2) (Int32.toNatClampNeg (x1 / (7 : Int32)))) ≤ (x2 + (2 : Int32))
      · have E := (if_pos c4).symm.trans E
        exact ea_shO E hs
      have E := (if_neg c4).symm.trans E
      obtain ⟨z2, E⟩ := gd_some E
      by_cases c3 : (ea_i h (b0 + 0) 0) < (vX12_goesAt b0 (x1 : Int32) ((x2 + (1 : Int32)) : Int32) h)
      · have E := (if_pos c3).symm.trans E
        exact ea_shO E hs
      have E := (if_neg c3).symm.trans E
      exact ih 2 (x1 : Int32) ((x2 + (1 : Int32)) : Int32) h _ _ E hs
    have E := (if_neg el1).symm.trans E
    cases E
theorem shX12_gone {b0 : Nat} {x1 : Int32} {h : ea_H} (hs : ShM b0 h) : ShM b0 (wX12_gone b0 x1 h) := by
  unfold wX12_gone
  cases K : qX12_gone b0 x1 h with
  | none => exact hs
  | some x => obtain ⟨x, y⟩ := x; unfold qX12_gone at K; exact zX12_gone _ _ _ _ _ _ _ K hs
noncomputable def gX12_account (b0 : Nat) : Nat → Nat → Int32 → Int32 → Int32 → Int32 → Int32 → Int32 → Int32 → Int32 → ea_H → Option (Int32 × ea_H)
  | 0, _, _, _, _, _, _, _, _, _, _ => none
  | f + 1, lbl, x1, x2, x3, x4, x5, x6, x7, x8, h =>
    if lbl = 0 then (if (vX12_isTown b0 (x1 : Int32) h) = (0 : Int32) then (some (((-1) : Int32), h)) else (if (vX12_isTown b0 (x2 : Int32) h) = (0 : Int32) then (some (((-1) : Int32), h)) else (if x1 = x2 then (some (((-1) : Int32), h)) else (gX12_account b0 f 38 (x1 : Int32) (x2 : Int32) (x3 : Int32) (0 : Int32) (0 : Int32) (0 : Int32) ((-1) : Int32) (0 : Int32) h)))) else
    if lbl = 38 then (if (ea_i h (b0 + 0) 63) ≤ x8 then (if x3 = (0 : Int32) then (some (x4, h)) else (if x3 = (1 : Int32) then (some (x5, h)) else (if x3 = (2 : Int32) then (some (x6, h)) else (some (x7, h))))) else (gd ((okX12_isOf b0 (x8 : Int32) (x1 : Int32) (x2 : Int32) h)) (if (vX12_isOf b0 (x8 : Int32) (x1 : Int32) (x2 : Int32) h) = (0 : Int32) then (gX12_account b0 f 38 (x1 : Int32) (x2 : Int32) (x3 : Int32) (x4 : Int32) (x5 : Int32) (x6 : Int32) (x7 : Int32) ((x8 + (1 : Int32)) : Int32) h) else (gd ((okX12_owed b0 (x8 : Int32) h)) (gd (vp_in x8 120) (if (ea_i h (b0 + 55) (Int32.toNatClampNeg x8)) = (2 : Int32) then (gd ((okX12_owed b0 (x8 : Int32) h)) (gX12_account b0 f 38 (x1 : Int32) (x2 : Int32) (x3 : Int32) ((x4 + (vX12_owed b0 (x8 : Int32) h)) : Int32) ((x5 + (vX12_owed b0 (x8 : Int32) h)) : Int32) (x6 : Int32) (x7 : Int32) ((x8 + (1 : Int32)) : Int32) h)) else (gd ((okX12_owed b0 (x8 : Int32) h)) (if (vX12_owed b0 (x8 : Int32) h) ≤ (0 : Int32) then (gX12_account b0 f 38 (x1 : Int32) (x2 : Int32) (x3 : Int32) ((x4 + (vX12_owed b0 (x8 : Int32) h)) : Int32) (x5 : Int32) (x6 : Int32) (x7 : Int32) ((x8 + (1 : Int32)) : Int32) h) else (if x6 = (x3 - (10 : Int32)) then (gX12_account b0 f 38 (x1 : Int32) (x2 : Int32) (x3 : Int32) ((x4 + (vX12_owed b0 (x8 : Int32) h)) : Int32) (x5 : Int32) ((x6 + (1 : Int32)) : Int32) (x8 : Int32) ((x8 + (1 : Int32)) : Int32) h) else (gX12_account b0 f 38 (x1 : Int32) (x2 : Int32) (x3 : Int32) ((x4 + (vX12_owed b0 (x8 : Int32) h)) : Int32) (x5 : Int32) ((x6 + (1 : Int32)) : Int32) (x7 : Int32) ((x8 + (1 : Int32)) : Int32) h)))))))))) else none
theorem tX12_account {d : Nat} {b0 : Nat} {h0 : ea_H} (hd : 3 ≤ d) : ∀ (f lbl : Nat) (x1 : Int32) (x2 : Int32) (x3 : Int32) (x4 : Int32) (x5 : Int32) (x6 : Int32) (x7 : Int32) (x8 : Int32) (h : ea_H) (r : Int32) (h' : ea_H), gX12_account b0 f lbl x1 x2 x3 x4 x5 x6 x7 x8 h = some (r, h') → ShM b0 h → (lbl = 0 → ea_W mX12_account d h0 (some (vI r)) h' 0 [(0, vR (some (b0 + 0))), (1, vI x1), (2, vI x2), (3, vI x3)] [] h) ∧ (lbl = 38 → ea_W mX12_account d h0 (some (vI r)) h' 38 [(0, vR (some (b0 + 0))), (1, vI x1), (2, vI x2), (3, vI x3), (4, vI x4), (5, vI x5), (6, vI x6), (7, vI x7), (8, vI x8)] [] h) := by
  intro f
  induction f with
  | zero => intro lbl x1 x2 x3 x4 x5 x6 x7 x8 h r h' E; cases E
  | succ f ih =>
    intro lbl x1 x2 x3 x4 x5 x6 x7 x8 h r h' E hs
    unfold gX12_account at E
    refine ⟨?_, ?_⟩
    · intro el
      subst el
      have E := (if_pos rfl).symm.trans E
      refine ea_aload_n (pc := 0) dX12_account_0 rfl 0 rfl ?_
      refine ea_iload_n (pc := 1) dX12_account_1 rfl 1 rfl ?_
      refine ea_callV (pc := 2) (d' := d - 1) (As := [vI x1]) (st := []) dX12_account_2 kX12_isTown (sX12_isTown (d := d - 1) (by omega) hs) (by omega) rfl (Nat.le_of_ble_eq_true rfl) ew_1708 ew_1710 ew_47 (ci := 12) rfl (by decide) (hs.1 0 (by decide)).1 (hs.1 0 (by decide)).2.1 ?_
      refine ea_if_eq (pc := 5) (tgt := 21) dX12_account_5 rfl (fun c5 => ?_) (fun c5 => ?_)
      · have E := (if_pos c5).symm.trans E
        refine ea_iconst (pc := 21) dX12_account_21 (v := (-1)) rfl ?_
        exact ea_iretO (pc := 22) dX12_account_22 rfl rfl E
      · have E := (if_neg c5).symm.trans E
        refine ea_aload_n (pc := 8) dX12_account_8 rfl 0 rfl ?_
        refine ea_iload_n (pc := 9) dX12_account_9 rfl 2 rfl ?_
        refine ea_callV (pc := 10) (d' := d - 1) (As := [vI x2]) (st := []) dX12_account_10 kX12_isTown (sX12_isTown (d := d - 1) (by omega) hs) (by omega) rfl (Nat.le_of_ble_eq_true rfl) ew_1708 ew_1710 ew_47 (ci := 12) rfl (by decide) (hs.1 0 (by decide)).1 (hs.1 0 (by decide)).2.1 ?_
        refine ea_if_eq (pc := 13) (tgt := 21) dX12_account_13 rfl (fun c4 => ?_) (fun c4 => ?_)
        · have E := (if_pos c4).symm.trans E
          refine ea_iconst (pc := 21) dX12_account_21 (v := (-1)) rfl ?_
          exact ea_iretO (pc := 22) dX12_account_22 rfl rfl E
        · have E := (if_neg c4).symm.trans E
          refine ea_iload_n (pc := 16) dX12_account_16 rfl 1 rfl ?_
          refine ea_iload_n (pc := 17) dX12_account_17 rfl 2 rfl ?_
          refine ea_icmp_ne (pc := 18) (tgt := 23) dX12_account_18 rfl (fun c3 => ?_) (fun c3 => ?_)
          · have E := (if_neg c3).symm.trans E
            refine ea_iconst (pc := 23) dX12_account_23 (v := 0) rfl ?_
            refine ea_istore (pc := 24) (lv' := [(0, vR (some (b0 + 0))), (1, vI x1), (2, vI x2), (3, vI x3), (4, vI 0)]) dX12_account_24 (Nat.le_of_ble_eq_true rfl) [1, 2, 3, 4, 0] rfl ?_
            refine ea_iconst (pc := 26) dX12_account_26 (v := 0) rfl ?_
            refine ea_istore (pc := 27) (lv' := [(0, vR (some (b0 + 0))), (1, vI x1), (2, vI x2), (3, vI x3), (4, vI 0), (5, vI 0)]) dX12_account_27 (Nat.le_of_ble_eq_true rfl) [1, 2, 3, 4, 5, 0] rfl ?_
            refine ea_iconst (pc := 29) dX12_account_29 (v := 0) rfl ?_
            refine ea_istore (pc := 30) (lv' := [(0, vR (some (b0 + 0))), (1, vI x1), (2, vI x2), (3, vI x3), (4, vI 0), (5, vI 0), (6, vI 0)]) dX12_account_30 (Nat.le_of_ble_eq_true rfl) [1, 2, 3, 4, 5, 6, 0] rfl ?_
            refine ea_iconst (pc := 32) dX12_account_32 (v := (-1)) rfl ?_
            refine ea_istore (pc := 33) (lv' := [(0, vR (some (b0 + 0))), (1, vI x1), (2, vI x2), (3, vI x3), (4, vI 0), (5, vI 0), (6, vI 0), (7, vI (-1))]) dX12_account_33 (Nat.le_of_ble_eq_true rfl) [1, 2, 3, 4, 5, 6, 7, 0] rfl ?_
            refine ea_iconst (pc := 35) dX12_account_35 (v := 0) rfl ?_
            refine ea_istore (pc := 36) (lv' := [(0, vR (some (b0 + 0))), (1, vI x1), (2, vI x2), (3, vI x3), (4, vI 0), (5, vI 0), (6, vI 0), (7, vI (-1)), (8, vI 0)]) dX12_account_36 (Nat.le_of_ble_eq_true rfl) [1, 2, 3, 4, 5, 6, 7, 8, 0] rfl ?_
            exact ((ih 38 (x1 : Int32) (x2 : Int32) (x3 : Int32) (0 : Int32) (0 : Int32) (0 : Int32) ((-1) : Int32) (0 : Int32) h _ _ E hs).2 rfl)
          · have E := (if_pos c3).symm.trans E
            refine ea_iconst (pc := 21) dX12_account_21 (v := (-1)) rfl ?_
            exact ea_iretO (pc := 22) dX12_account_22 rfl rfl E
    intro el
    subst el
    have E := (if_neg (by decide)).symm.trans E
    have E := (if_pos rfl).symm.trans E
    refine ea_iload (pc := 38) dX12_account_38 8 rfl ?_
    refine ea_aload_n (pc := 40) dX12_account_40 rfl 0 rfl ?_
    refine ea_getI (pc := 41) dX12_account_41 ec_12 (k := 63) (Nat.le_of_ble_eq_true rfl) rfl (Or.inl ew_1408) (hs.1 0 (by decide)).1 (hs.1 0 (by decide)).2.1 ?_
    refine ea_icmp_ge (pc := 44) (tgt := 128) dX12_account_44 rfl (fun c18 => ?_) (fun c18 => ?_)
    · have E := (if_pos c18).symm.trans E
      refine ea_iload_n (pc := 128) dX12_account_128 rfl 3 rfl ?_
      refine ea_if_ne (pc := 129) (tgt := 137) dX12_account_129 rfl (fun c8 => ?_) (fun c8 => ?_)
      · have E := (if_neg c8).symm.trans E
        refine ea_iload_n (pc := 137) dX12_account_137 rfl 3 rfl ?_
        refine ea_iconst (pc := 138) dX12_account_138 (v := 1) rfl ?_
        refine ea_icmp_ne (pc := 139) (tgt := 147) dX12_account_139 rfl (fun c7 => ?_) (fun c7 => ?_)
        · have E := (if_neg c7).symm.trans E
          refine ea_iload_n (pc := 147) dX12_account_147 rfl 3 rfl ?_
          refine ea_iconst (pc := 148) dX12_account_148 (v := 2) rfl ?_
          refine ea_icmp_ne (pc := 149) (tgt := 157) dX12_account_149 rfl (fun c6 => ?_) (fun c6 => ?_)
          · have E := (if_neg c6).symm.trans E
            refine ea_iload (pc := 157) dX12_account_157 7 rfl ?_
            exact ea_iretO (pc := 159) dX12_account_159 rfl rfl E
          · have E := (if_pos c6).symm.trans E
            refine ea_iload (pc := 152) dX12_account_152 6 rfl ?_
            refine ea_goto (pc := 154) (tgt := 159) dX12_account_154 rfl ?_
            exact ea_iretO (pc := 159) dX12_account_159 rfl rfl E
        · have E := (if_pos c7).symm.trans E
          refine ea_iload (pc := 142) dX12_account_142 5 rfl ?_
          refine ea_goto (pc := 144) (tgt := 159) dX12_account_144 rfl ?_
          exact ea_iretO (pc := 159) dX12_account_159 rfl rfl E
      · have E := (if_pos c8).symm.trans E
        refine ea_iload (pc := 132) dX12_account_132 4 rfl ?_
        refine ea_goto (pc := 134) (tgt := 159) dX12_account_134 rfl ?_
        exact ea_iretO (pc := 159) dX12_account_159 rfl rfl E
    · have E := (if_neg c18).symm.trans E
      refine ea_aload_n (pc := 47) dX12_account_47 rfl 0 rfl ?_
      refine ea_iload (pc := 48) dX12_account_48 8 rfl ?_
      refine ea_iload_n (pc := 50) dX12_account_50 rfl 1 rfl ?_
      refine ea_iload_n (pc := 51) dX12_account_51 rfl 2 rfl ?_
      obtain ⟨z9, E⟩ := gd_some E
      refine ea_callV (pc := 52) (d' := d - 1) (As := [vI x8, vI x1, vI x2]) (st := []) dX12_account_52 kX12_isOf (sX12_isOf (d := d - 1) (by omega) hs z9) (by omega) rfl (Nat.le_of_ble_eq_true rfl) ew_2102 ew_2104 ew_100 (ci := 12) rfl (by decide) (hs.1 0 (by decide)).1 (hs.1 0 (by decide)).2.1 ?_
      refine ea_if_ne (pc := 55) (tgt := 61) dX12_account_55 rfl (fun c17 => ?_) (fun c17 => ?_)
      · have E := (if_neg c17).symm.trans E
        refine ea_iload (pc := 61) dX12_account_61 4 rfl ?_
        refine ea_aload_n (pc := 63) dX12_account_63 rfl 0 rfl ?_
        refine ea_iload (pc := 64) dX12_account_64 8 rfl ?_
        obtain ⟨z10, E⟩ := gd_some E
        refine ea_callV (pc := 66) (d' := d - 1) (As := [vI x8]) (st := [vI x4]) dX12_account_66 kX12_owed (sX12_owed (d := d - 1) (by omega) hs z10) (by omega) rfl (Nat.le_of_ble_eq_true rfl) ew_2027 ew_2029 ew_90 (ci := 12) rfl (by decide) (hs.1 0 (by decide)).1 (hs.1 0 (by decide)).2.1 ?_
        refine ea_iadd (pc := 69) dX12_account_69 ?_
        refine ea_istore (pc := 70) (lv' := [(0, vR (some (b0 + 0))), (1, vI x1), (2, vI x2), (3, vI x3), (4, vI (x4 + (vX12_owed b0 (x8 : Int32) h))), (5, vI x5), (6, vI x6), (7, vI x7), (8, vI x8)]) dX12_account_70 (Nat.le_of_ble_eq_true rfl) [1, 2, 3, 4, 0, 5, 6, 7, 8] rfl ?_
        refine ea_aload_n (pc := 72) dX12_account_72 rfl 0 rfl ?_
        refine ea_getR (pc := 73) dX12_account_73 ec_12 (k := 81) (Nat.le_of_ble_eq_true rfl) rfl (Or.inl ew_1426) (hs.1 0 (by decide)).1 (hs.1 0 (by decide)).2.1 (hs.2 0 81 rfl) ?_
        refine ea_iload (pc := 76) dX12_account_76 8 rfl ?_
        obtain ⟨z11, E⟩ := gd_some E
        refine ea_iald (pc := 78) dX12_account_78 (hs.1 55 (by decide)).1 (hs.1 55 (by decide)).2.1 (ea_vpl (hs.1 55 (by decide)).2.2 z11) ?_
        refine ea_iconst (pc := 79) dX12_account_79 (v := 2) rfl ?_
        refine ea_icmp_ne (pc := 80) (tgt := 97) dX12_account_80 rfl (fun c16 => ?_) (fun c16 => ?_)
        · have E := (if_neg c16).symm.trans E
          refine ea_aload_n (pc := 97) dX12_account_97 rfl 0 rfl ?_
          refine ea_iload (pc := 98) dX12_account_98 8 rfl ?_
          obtain ⟨z12, E⟩ := gd_some E
          refine ea_callV (pc := 100) (d' := d - 1) (As := [vI x8]) (st := []) dX12_account_100 kX12_owed (sX12_owed (d := d - 1) (by omega) hs z12) (by omega) rfl (Nat.le_of_ble_eq_true rfl) ew_2027 ew_2029 ew_90 (ci := 12) rfl (by decide) (hs.1 0 (by decide)).1 (hs.1 0 (by decide)).2.1 ?_
          refine ea_if_le (pc := 103) (tgt := 122) dX12_account_103 rfl (fun c14 => ?_) (fun c14 => ?_)
          · have E := (if_pos c14).symm.trans E
            refine ea_iinc (pc := 122) (v := 1) (lv' := [(0, vR (some (b0 + 0))), (1, vI x1), (2, vI x2), (3, vI x3), (4, vI (x4 + (vX12_owed b0 (x8 : Int32) h))), (5, vI x5), (6, vI x6), (7, vI x7), (8, vI (x8 + (1 : Int32)))]) dX12_account_122 8 rfl rfl (Nat.le_of_ble_eq_true rfl) [1, 2, 3, 4, 5, 6, 7, 8, 0] rfl ?_
            refine ea_goto (pc := 125) (tgt := 38) dX12_account_125 rfl ?_
            exact ((ih 38 (x1 : Int32) (x2 : Int32) (x3 : Int32) ((x4 + (vX12_owed b0 (x8 : Int32) h)) : Int32) (x5 : Int32) (x6 : Int32) (x7 : Int32) ((x8 + (1 : Int32)) : Int32) h _ _ E hs).2 rfl)
          · have E := (if_neg c14).symm.trans E
            refine ea_iload (pc := 106) dX12_account_106 6 rfl ?_
            refine ea_iload_n (pc := 108) dX12_account_108 rfl 3 rfl ?_
            refine ea_bipush (pc := 109) dX12_account_109 (v := 10) rfl ?_
            refine ea_isub (pc := 111) dX12_account_111 ?_
            refine ea_icmp_ne (pc := 112) (tgt := 119) dX12_account_112 rfl (fun c13 => ?_) (fun c13 => ?_)
            · have E := (if_neg c13).symm.trans E
              refine ea_iinc (pc := 119) (v := 1) (lv' := [(0, vR (some (b0 + 0))), (1, vI x1), (2, vI x2), (3, vI x3), (4, vI (x4 + (vX12_owed b0 (x8 : Int32) h))), (5, vI x5), (6, vI (x6 + (1 : Int32))), (7, vI x7), (8, vI x8)]) dX12_account_119 6 rfl rfl (Nat.le_of_ble_eq_true rfl) [1, 2, 3, 4, 5, 6, 0, 7, 8] rfl ?_
              refine ea_iinc (pc := 122) (v := 1) (lv' := [(0, vR (some (b0 + 0))), (1, vI x1), (2, vI x2), (3, vI x3), (4, vI (x4 + (vX12_owed b0 (x8 : Int32) h))), (5, vI x5), (6, vI (x6 + (1 : Int32))), (7, vI x7), (8, vI (x8 + (1 : Int32)))]) dX12_account_122 8 rfl rfl (Nat.le_of_ble_eq_true rfl) [1, 2, 3, 4, 5, 6, 7, 8, 0] rfl ?_
              refine ea_goto (pc := 125) (tgt := 38) dX12_account_125 rfl ?_
              exact ((ih 38 (x1 : Int32) (x2 : Int32) (x3 : Int32) ((x4 + (vX12_owed b0 (x8 : Int32) h)) : Int32) (x5 : Int32) ((x6 + (1 : Int32)) : Int32) (x7 : Int32) ((x8 + (1 : Int32)) : Int32) h _ _ E hs).2 rfl)
            · have E := (if_pos c13).symm.trans E
              refine ea_iload (pc := 115) dX12_account_115 8 rfl ?_
              refine ea_istore (pc := 117) (lv' := [(0, vR (some (b0 + 0))), (1, vI x1), (2, vI x2), (3, vI x3), (4, vI (x4 + (vX12_owed b0 (x8 : Int32) h))), (5, vI x5), (6, vI x6), (7, vI x8), (8, vI x8)]) dX12_account_117 (Nat.le_of_ble_eq_true rfl) [1, 2, 3, 4, 5, 6, 7, 0, 8] rfl ?_
              refine ea_iinc (pc := 119) (v := 1) (lv' := [(0, vR (some (b0 + 0))), (1, vI x1), (2, vI x2), (3, vI x3), (4, vI (x4 + (vX12_owed b0 (x8 : Int32) h))), (5, vI x5), (6, vI (x6 + (1 : Int32))), (7, vI x8), (8, vI x8)]) dX12_account_119 6 rfl rfl (Nat.le_of_ble_eq_true rfl) [1, 2, 3, 4, 5, 6, 0, 7, 8] rfl ?_
              refine ea_iinc (pc := 122) (v := 1) (lv' := [(0, vR (some (b0 + 0))), (1, vI x1), (2, vI x2), (3, vI x3), (4, vI (x4 + (vX12_owed b0 (x8 : Int32) h))), (5, vI x5), (6, vI (x6 + (1 : Int32))), (7, vI x8), (8, vI (x8 + (1 : Int32)))]) dX12_account_122 8 rfl rfl (Nat.le_of_ble_eq_true rfl) [1, 2, 3, 4, 5, 6, 7, 8, 0] rfl ?_
              refine ea_goto (pc := 125) (tgt := 38) dX12_account_125 rfl ?_
              exact ((ih 38 (x1 : Int32) (x2 : Int32) (x3 : Int32) ((x4 + (vX12_owed b0 (x8 : Int32) h)) : Int32) (x5 : Int32) ((x6 + (1 : Int32)) : Int32) (x8 : Int32) ((x8 + (1 : Int32)) : Int32) h _ _ E hs).2 rfl)
        · have E := (if_pos c16).symm.trans E
          refine ea_iload (pc := 83) dX12_account_83 5 rfl ?_
          refine ea_aload_n (pc := 85) dX12_account_85 rfl 0 rfl ?_
          refine ea_iload (pc := 86) dX12_account_86 8 rfl ?_
          obtain ⟨z15, E⟩ := gd_some E
          refine ea_callV (pc := 88) (d' := d - 1) (As := [vI x8]) (st := [vI x5]) dX12_account_88 kX12_owed (sX12_owed (d := d - 1) (by omega) hs z15) (by omega) rfl (Nat.le_of_ble_eq_true rfl) ew_2027 ew_2029 ew_90 (ci := 12) rfl (by decide) (hs.1 0 (by decide)).1 (hs.1 0 (by decide)).2.1 ?_
          refine ea_iadd (pc := 91) dX12_account_91 ?_
          refine ea_istore (pc := 92) (lv' := [(0, vR (some (b0 + 0))), (1, vI x1), (2, vI x2), (3, vI x3), (4, vI (x4 + (vX12_owed b0 (x8 : Int32) h))), (5, vI (x5 + (vX12_owed b0 (x8 : Int32) h))), (6, vI x6), (7, vI x7), (8, vI x8)]) dX12_account_92 (Nat.le_of_ble_eq_true rfl) [1, 2, 3, 4, 5, 0, 6, 7, 8] rfl ?_
          refine ea_goto (pc := 94) (tgt := 122) dX12_account_94 rfl ?_
          refine ea_iinc (pc := 122) (v := 1) (lv' := [(0, vR (some (b0 + 0))), (1, vI x1), (2, vI x2), (3, vI x3), (4, vI (x4 + (vX12_owed b0 (x8 : Int32) h))), (5, vI (x5 + (vX12_owed b0 (x8 : Int32) h))), (6, vI x6), (7, vI x7), (8, vI (x8 + (1 : Int32)))]) dX12_account_122 8 rfl rfl (Nat.le_of_ble_eq_true rfl) [1, 2, 3, 4, 5, 6, 7, 8, 0] rfl ?_
          refine ea_goto (pc := 125) (tgt := 38) dX12_account_125 rfl ?_
          exact ((ih 38 (x1 : Int32) (x2 : Int32) (x3 : Int32) ((x4 + (vX12_owed b0 (x8 : Int32) h)) : Int32) ((x5 + (vX12_owed b0 (x8 : Int32) h)) : Int32) (x6 : Int32) (x7 : Int32) ((x8 + (1 : Int32)) : Int32) h _ _ E hs).2 rfl)
      · have E := (if_pos c17).symm.trans E
        refine ea_goto (pc := 58) (tgt := 122) dX12_account_58 rfl ?_
        refine ea_iinc (pc := 122) (v := 1) (lv' := [(0, vR (some (b0 + 0))), (1, vI x1), (2, vI x2), (3, vI x3), (4, vI x4), (5, vI x5), (6, vI x6), (7, vI x7), (8, vI (x8 + (1 : Int32)))]) dX12_account_122 8 rfl rfl (Nat.le_of_ble_eq_true rfl) [1, 2, 3, 4, 5, 6, 7, 8, 0] rfl ?_
        refine ea_goto (pc := 125) (tgt := 38) dX12_account_125 rfl ?_
        exact ((ih 38 (x1 : Int32) (x2 : Int32) (x3 : Int32) (x4 : Int32) (x5 : Int32) (x6 : Int32) (x7 : Int32) ((x8 + (1 : Int32)) : Int32) h _ _ E hs).2 rfl)
noncomputable def qX12_account (b0 : Nat) (x1 : Int32) (x2 : Int32) (x3 : Int32) (h : ea_H) : Option (Int32 × ea_H) := gX12_account b0 1000000000 0 x1 x2 x3 0 0 0 0 0 h
def okX12_account (b0 : Nat) (x1 : Int32) (x2 : Int32) (x3 : Int32) (h : ea_H) : Prop := ∃ x, qX12_account b0 x1 x2 x3 h = some x
noncomputable def vX12_account (b0 : Nat) (x1 : Int32) (x2 : Int32) (x3 : Int32) (h : ea_H) : Int32 := ((qX12_account b0 x1 x2 x3 h).getD (0, h)).1
noncomputable def wX12_account (b0 : Nat) (x1 : Int32) (x2 : Int32) (x3 : Int32) (h : ea_H) : ea_H := ((qX12_account b0 x1 x2 x3 h).getD (0, h)).2
theorem sX12_account {d : Nat} {b0 : Nat} {x1 : Int32} {x2 : Int32} {x3 : Int32} {h : ea_H} (hd : 3 ≤ d) (hs : ShM b0 h) (K : okX12_account b0 x1 x2 x3 h) : ea_Met mX12_account d [vR (some (b0 + 0)), vI x1, vI x2, vI x3] h (some (vI (vX12_account b0 x1 x2 x3 h))) (wX12_account b0 x1 x2 x3 h) := by
  obtain ⟨⟨x, y⟩, K⟩ := K
  unfold wX12_account vX12_account
  rw [K]
  unfold qX12_account at K
  exact ea_enter rfl (Nat.le_of_ble_eq_true rfl) ((tX12_account hd 1000000000 0 x1 x2 x3 0 0 0 0 0 h x y K hs).1 rfl)
theorem zX12_account {b0 : Nat} : ∀ (f lbl : Nat) (x1 : Int32) (x2 : Int32) (x3 : Int32) (x4 : Int32) (x5 : Int32) (x6 : Int32) (x7 : Int32) (x8 : Int32) (h : ea_H) (r : Int32) (h' : ea_H), gX12_account b0 f lbl x1 x2 x3 x4 x5 x6 x7 x8 h = some (r, h') → ShM b0 h → ShM b0 h' := by
  intro f
  induction f with
  | zero => intro lbl x1 x2 x3 x4 x5 x6 x7 x8 h r h' E; cases E
  | succ f ih =>
    intro lbl x1 x2 x3 x4 x5 x6 x7 x8 h r h' E hs
    unfold gX12_account at E
    by_cases el0 : lbl = 0
    · have E := (if_pos el0).symm.trans E
      by_cases c5 : (vX12_isTown b0 (x1 : Int32) h) = (0 : Int32)
      · have E := (if_pos c5).symm.trans E
        exact ea_shO E hs
      have E := (if_neg c5).symm.trans E
      by_cases c4 : (vX12_isTown b0 (x2 : Int32) h) = (0 : Int32)
      · have E := (if_pos c4).symm.trans E
        exact ea_shO E hs
      have E := (if_neg c4).symm.trans E
      by_cases c3 : x1 = x2
      · have E := (if_pos c3).symm.trans E
        exact ea_shO E hs
      have E := (if_neg c3).symm.trans E
      exact ih 38 (x1 : Int32) (x2 : Int32) (x3 : Int32) (0 : Int32) (0 : Int32) (0 : Int32) ((-1) : Int32) (0 : Int32) h _ _ E hs
    have E := (if_neg el0).symm.trans E
    by_cases el1 : lbl = 38
    · have E := (if_pos el1).symm.trans E
      by_cases c18 : (ea_i h (b0 + 0) 63) ≤ x8
      · have E := (if_pos c18).symm.trans E
        by_cases c8 : x3 = (0 : Int32)
        · have E := (if_pos c8).symm.trans E
          exact ea_shO E hs
        have E := (if_neg c8).symm.trans E
        by_cases c7 : x3 = (1 : Int32)
        · have E := (if_pos c7).symm.trans E
          exact ea_shO E hs
        have E := (if_neg c7).symm.trans E
        by_cases c6 : x3 = (2 : Int32)
        · have E := (if_pos c6).symm.trans E
          exact ea_shO E hs
        have E := (if_neg c6).symm.trans E
        exact ea_shO E hs
      have E := (if_neg c18).symm.trans E
      obtain ⟨z9, E⟩ := gd_some E
      by_cases c17 : (vX12_isOf b0 (x8 : Int32) (x1 : Int32) (x2 : Int32) h) = (0 : Int32)
      · have E := (if_pos c17).symm.trans E
        exact ih 38 (x1 : Int32) (x2 : Int32) (x3 : Int32) (x4 : Int32) (x5 : Int32) (x6 : Int32) (x7 : Int32) ((x8 + (1 : Int32)) : Int32) h _ _ E hs
      have E := (if_neg c17).symm.trans E
      obtain ⟨z10, E⟩ := gd_some E
      obtain ⟨z11, E⟩ := gd_some E
      by_cases c16 : (ea_i h (b0 + 55) (Int32.toNatClampNeg x8)) = (2 : Int32)
      · have E := (if_pos c16).symm.trans E
        obtain ⟨z15, E⟩ := gd_some E
        exact ih 38 (x1 : Int32) (x2 : Int32) (x3 : Int32) ((x4 + (vX12_owed b0 (x8 : Int32) h)) : Int32) ((x5 + (vX12_owed b0 (x8 : Int32) h)) : Int32) (x6 : Int32) (x7 : Int32) ((x8 + (1 : Int32)) : Int32) h _ _ E hs
      have E := (if_neg c16).symm.trans E
      obtain ⟨z12, E⟩ := gd_some E
      by_cases c14 : (vX12_owed b0 (x8 : Int32) h) ≤ (0 : Int32)
      · have E := (if_pos c14).symm.trans E
        exact ih 38 (x1 : Int32) (x2 : Int32) (x3 : Int32) ((x4 + (vX12_owed b0 (x8 : Int32) h)) : Int32) (x5 : Int32) (x6 : Int32) (x7 : Int32) ((x8 + (1 : Int32)) : Int32) h _ _ E hs
      have E := (if_neg c14).symm.trans E
      by_cases c13 : x6 = (x3 - (10 : Int32))
      · have E := (if_pos c13).symm.trans E
        exact ih 38 (x1 : Int32) (x2 : Int32) (x3 : Int32) ((x4 + (vX12_owed b0 (x8 : Int32) h)) : Int32) (x5 : Int32) ((x6 + (1 : Int32)) : Int32) (x8 : Int32) ((x8 + (1 : Int32)) : Int32) h _ _ E hs
      have E := (if_neg c13).symm.trans E
      exact ih 38 (x1 : Int32) (x2 : Int32) (x3 : Int32) ((x4 + (vX12_owed b0 (x8 : Int32) h)) : Int32) (x5 : Int32) ((x6 + (1 : Int32)) : Int32) (x7 : Int32) ((x8 + (1 : Int32)) : Int32) h _ _ E hs
    have E := (if_neg el1).symm.trans E
    cases E
theorem shX12_account {b0 : Nat} {x1 : Int32} {x2 : Int32} {x3 : Int32} {h : ea_H} (hs : ShM b0 h) : ShM b0 (wX12_account b0 x1 x2 x3 h) := by
  unfold wX12_account
  cases K : qX12_account b0 x1 x2 x3 h with
  | none => exact hs
  | some x => obtain ⟨x, y⟩ := x; unfold qX12_account at K; exact zX12_account _ _ _ _ _ _ _ _ _ _ _ _ _ K hs
noncomputable def gX12_place (b0 : Nat) : Nat → Nat → Int32 → Int32 → Int32 → Int32 → ea_H → Option (Int32 × ea_H)
  | 0, _, _, _, _, _, _ => none
  | f + 1, lbl, x1, x2, x3, x4, h =>
    if lbl = 0 then (if (vX12_isLetterOf b0 (x1 : Int32) h) = (0 : Int32) then (some ((0 : Int32), h)) else (gd (vp_in x1 120) (if (ea_i h (b0 + 55) (Int32.toNatClampNeg x1)) = (3 : Int32) then (if (vX12_isTown b0 (x2 : Int32) h) = (0 : Int32) then (some ((0 : Int32), h)) else (gd (vp_in x1 120) (if x2 = (ea_i h (b0 + 40) (Int32.toNatClampNeg x1)) then (some ((0 : Int32), h)) else (if (vX12_isIn (x3 : Int32) (1 : Int32) (99 : Int32) h) = (0 : Int32) then (some ((0 : Int32), h)) else (gX12_place b0 f 51 (x1 : Int32) (x2 : Int32) (x3 : Int32) (0 : Int32) h))))) else (some ((0 : Int32), h))))) else
    if lbl = 51 then (gd (vp_in x1 120) (if (ea_i h (b0 + 70) (Int32.toNatClampNeg x1)) ≤ x4 then (gX12_place b0 f 83 (x1 : Int32) (x2 : Int32) (x3 : Int32) (x4 : Int32) h) else (gd (vp_in (((4 : Int32) * x1) + x4) 480) (if (ea_i h (b0 + 71) (Int32.toNatClampNeg (((4 : Int32) * x1) + x4))) = x2 then (gX12_place b0 f 83 (x1 : Int32) (x2 : Int32) (x3 : Int32) (x4 : Int32) h) else (gX12_place b0 f 51 (x1 : Int32) (x2 : Int32) (x3 : Int32) ((x4 + (1 : Int32)) : Int32) h))))) else
    if lbl = 83 then (if x4 = (4 : Int32) then (some ((0 : Int32), h)) else (gd (vp_in (((4 : Int32) * x1) + x4) 480) (ea_let (ea_wi h (b0 + 71) (Int32.toNatClampNeg (((4 : Int32) * x1) + x4)) x2) fun H17 => (gd (vp_in (((4 : Int32) * x1) + x4) 480) (ea_let (ea_wi H17 (b0 + 72) (Int32.toNatClampNeg (((4 : Int32) * x1) + x4)) x3) fun H20 => (gd (vp_in x1 120) (if x4 = (ea_i H20 (b0 + 70) (Int32.toNatClampNeg x1)) then (gd (vp_in x1 120) (gd (vp_in x1 120) (ea_let (ea_wi H20 (b0 + 70) (Int32.toNatClampNeg x1) ((ea_i H20 (b0 + 70) (Int32.toNatClampNeg x1)) + (1 : Int32))) fun H25 => (some ((1 : Int32), H25))))) else (some ((1 : Int32), H20))))))))) else none
theorem tX12_place {d : Nat} {b0 : Nat} {h0 : ea_H} (hd : 3 ≤ d) : ∀ (f lbl : Nat) (x1 : Int32) (x2 : Int32) (x3 : Int32) (x4 : Int32) (h : ea_H) (r : Int32) (h' : ea_H), gX12_place b0 f lbl x1 x2 x3 x4 h = some (r, h') → ShM b0 h → (lbl = 0 → ea_W mX12_place d h0 (some (vI r)) h' 0 [(0, vR (some (b0 + 0))), (1, vI x1), (2, vI x2), (3, vI x3)] [] h) ∧ (lbl = 51 → ea_W mX12_place d h0 (some (vI r)) h' 51 [(0, vR (some (b0 + 0))), (1, vI x1), (2, vI x2), (3, vI x3), (4, vI x4)] [] h) ∧ (lbl = 83 → ea_W mX12_place d h0 (some (vI r)) h' 83 [(0, vR (some (b0 + 0))), (1, vI x1), (2, vI x2), (3, vI x3), (4, vI x4)] [] h) := by
  intro f
  induction f with
  | zero => intro lbl x1 x2 x3 x4 h r h' E; cases E
  | succ f ih =>
    intro lbl x1 x2 x3 x4 h r h' E hs
    unfold gX12_place at E
    refine ⟨?_, ?_⟩
    · intro el
      subst el
      have E := (if_pos rfl).symm.trans E
      refine ea_aload_n (pc := 0) dX12_place_0 rfl 0 rfl ?_
      refine ea_iload_n (pc := 1) dX12_place_1 rfl 1 rfl ?_
      refine ea_callV (pc := 2) (d' := d - 1) (As := [vI x1]) (st := []) dX12_place_2 kX12_isLetterOf (sX12_isLetterOf (d := d - 1) (by omega) hs) (by omega) rfl (Nat.le_of_ble_eq_true rfl) ew_2019 ew_2021 ew_89 (ci := 12) rfl (by decide) (hs.1 0 (by decide)).1 (hs.1 0 (by decide)).2.1 ?_
      refine ea_if_eq (pc := 5) (tgt := 46) dX12_place_5 rfl (fun c10 => ?_) (fun c10 => ?_)
      · have E := (if_pos c10).symm.trans E
        refine ea_iconst (pc := 46) dX12_place_46 (v := 0) rfl ?_
        exact ea_iretO (pc := 47) dX12_place_47 rfl (ea_bn (Or.inl rfl)) E
      · have E := (if_neg c10).symm.trans E
        refine ea_aload_n (pc := 8) dX12_place_8 rfl 0 rfl ?_
        refine ea_getR (pc := 9) dX12_place_9 ec_12 (k := 81) (Nat.le_of_ble_eq_true rfl) rfl (Or.inl ew_1426) (hs.1 0 (by decide)).1 (hs.1 0 (by decide)).2.1 (hs.2 0 81 rfl) ?_
        refine ea_iload_n (pc := 12) dX12_place_12 rfl 1 rfl ?_
        obtain ⟨z2, E⟩ := gd_some E
        refine ea_iald (pc := 13) dX12_place_13 (hs.1 55 (by decide)).1 (hs.1 55 (by decide)).2.1 (ea_vpl (hs.1 55 (by decide)).2.2 z2) ?_
        refine ea_iconst (pc := 14) dX12_place_14 (v := 3) rfl ?_
        refine ea_icmp_ne (pc := 15) (tgt := 46) dX12_place_15 rfl (fun c9 => ?_) (fun c9 => ?_)
        · have E := (if_neg c9).symm.trans E
          refine ea_iconst (pc := 46) dX12_place_46 (v := 0) rfl ?_
          exact ea_iretO (pc := 47) dX12_place_47 rfl (ea_bn (Or.inl rfl)) E
        · have E := (if_pos c9).symm.trans E
          refine ea_aload_n (pc := 18) dX12_place_18 rfl 0 rfl ?_
          refine ea_iload_n (pc := 19) dX12_place_19 rfl 2 rfl ?_
          refine ea_callV (pc := 20) (d' := d - 1) (As := [vI x2]) (st := []) dX12_place_20 kX12_isTown (sX12_isTown (d := d - 1) (by omega) hs) (by omega) rfl (Nat.le_of_ble_eq_true rfl) ew_1708 ew_1710 ew_47 (ci := 12) rfl (by decide) (hs.1 0 (by decide)).1 (hs.1 0 (by decide)).2.1 ?_
          refine ea_if_eq (pc := 23) (tgt := 46) dX12_place_23 rfl (fun c8 => ?_) (fun c8 => ?_)
          · have E := (if_pos c8).symm.trans E
            refine ea_iconst (pc := 46) dX12_place_46 (v := 0) rfl ?_
            exact ea_iretO (pc := 47) dX12_place_47 rfl (ea_bn (Or.inl rfl)) E
          · have E := (if_neg c8).symm.trans E
            refine ea_iload_n (pc := 26) dX12_place_26 rfl 2 rfl ?_
            refine ea_aload_n (pc := 27) dX12_place_27 rfl 0 rfl ?_
            refine ea_getR (pc := 28) dX12_place_28 ec_12 (k := 66) (Nat.le_of_ble_eq_true rfl) rfl (Or.inl ew_1411) (hs.1 0 (by decide)).1 (hs.1 0 (by decide)).2.1 (hs.2 0 66 rfl) ?_
            refine ea_iload_n (pc := 31) dX12_place_31 rfl 1 rfl ?_
            obtain ⟨z4, E⟩ := gd_some E
            refine ea_iald (pc := 32) dX12_place_32 (hs.1 40 (by decide)).1 (hs.1 40 (by decide)).2.1 (ea_vpl (hs.1 40 (by decide)).2.2 z4) ?_
            refine ea_icmp_eq (pc := 33) (tgt := 46) dX12_place_33 rfl (fun c7 => ?_) (fun c7 => ?_)
            · have E := (if_pos c7).symm.trans E
              refine ea_iconst (pc := 46) dX12_place_46 (v := 0) rfl ?_
              exact ea_iretO (pc := 47) dX12_place_47 rfl (ea_bn (Or.inl rfl)) E
            · have E := (if_neg c7).symm.trans E
              refine ea_iload_n (pc := 36) dX12_place_36 rfl 3 rfl ?_
              refine ea_iconst (pc := 37) dX12_place_37 (v := 1) rfl ?_
              refine ea_bipush (pc := 38) dX12_place_38 (v := 99) rfl ?_
              refine ea_callS (pc := 40) (d' := d - 1) (As := [vI x3, vI 1, vI 99]) (st := []) dX12_place_40 kX12_isIn (sX12_isIn (d := d - 1) (by omega)) (by omega) rfl (Nat.le_of_ble_eq_true rfl) ew_1712 ew_1713 ?_
              refine ea_if_ne (pc := 43) (tgt := 48) dX12_place_43 rfl (fun c6 => ?_) (fun c6 => ?_)
              · have E := (if_neg c6).symm.trans E
                refine ea_iconst (pc := 48) dX12_place_48 (v := 0) rfl ?_
                refine ea_istore (pc := 49) (lv' := [(0, vR (some (b0 + 0))), (1, vI x1), (2, vI x2), (3, vI x3), (4, vI 0)]) dX12_place_49 (Nat.le_of_ble_eq_true rfl) [1, 2, 3, 4, 0] rfl ?_
                exact ((ih 51 (x1 : Int32) (x2 : Int32) (x3 : Int32) (0 : Int32) h _ _ E hs).2.1 rfl)
              · have E := (if_pos c6).symm.trans E
                refine ea_iconst (pc := 46) dX12_place_46 (v := 0) rfl ?_
                exact ea_iretO (pc := 47) dX12_place_47 rfl (ea_bn (Or.inl rfl)) E
    refine ⟨?_, ?_⟩
    · intro el
      subst el
      have E := (if_neg (by decide)).symm.trans E
      have E := (if_pos rfl).symm.trans E
      refine ea_iload (pc := 51) dX12_place_51 4 rfl ?_
      refine ea_aload_n (pc := 53) dX12_place_53 rfl 0 rfl ?_
      refine ea_getR (pc := 54) dX12_place_54 ec_12 (k := 97) (Nat.le_of_ble_eq_true rfl) rfl (Or.inl ew_1442) (hs.1 0 (by decide)).1 (hs.1 0 (by decide)).2.1 (hs.2 0 97 rfl) ?_
      refine ea_iload_n (pc := 57) dX12_place_57 rfl 1 rfl ?_
      obtain ⟨z11, E⟩ := gd_some E
      refine ea_iald (pc := 58) dX12_place_58 (hs.1 70 (by decide)).1 (hs.1 70 (by decide)).2.1 (ea_vpl (hs.1 70 (by decide)).2.2 z11) ?_
      refine ea_icmp_ge (pc := 59) (tgt := 83) dX12_place_59 rfl (fun c14 => ?_) (fun c14 => ?_)
      · have E := (if_pos c14).symm.trans E
        exact ((ih 83 (x1 : Int32) (x2 : Int32) (x3 : Int32) (x4 : Int32) h _ _ E hs).2.2 rfl)
      · have E := (if_neg c14).symm.trans E
        refine ea_aload_n (pc := 62) dX12_place_62 rfl 0 rfl ?_
        refine ea_getR (pc := 63) dX12_place_63 ec_12 (k := 98) (Nat.le_of_ble_eq_true rfl) rfl (Or.inl ew_1443) (hs.1 0 (by decide)).1 (hs.1 0 (by decide)).2.1 (hs.2 0 98 rfl) ?_
        refine ea_iconst (pc := 66) dX12_place_66 (v := 4) rfl ?_
        refine ea_iload_n (pc := 67) dX12_place_67 rfl 1 rfl ?_
        refine ea_imul (pc := 68) dX12_place_68 ?_
        refine ea_iload (pc := 69) dX12_place_69 4 rfl ?_
        refine ea_iadd (pc := 71) dX12_place_71 ?_
        obtain ⟨z12, E⟩ := gd_some E
        refine ea_iald (pc := 72) dX12_place_72 (hs.1 71 (by decide)).1 (hs.1 71 (by decide)).2.1 (ea_vpl (hs.1 71 (by decide)).2.2 z12) ?_
        refine ea_iload_n (pc := 73) dX12_place_73 rfl 2 rfl ?_
        refine ea_icmp_eq (pc := 74) (tgt := 83) dX12_place_74 rfl (fun c13 => ?_) (fun c13 => ?_)
        · have E := (if_pos c13).symm.trans E
          exact ((ih 83 (x1 : Int32) (x2 : Int32) (x3 : Int32) (x4 : Int32) h _ _ E hs).2.2 rfl)
        · have E := (if_neg c13).symm.trans E
          refine ea_iinc (pc := 77) (v := 1) (lv' := [(0, vR (some (b0 + 0))), (1, vI x1), (2, vI x2), (3, vI x3), (4, vI (x4 + (1 : Int32)))]) dX12_place_77 4 rfl rfl (Nat.le_of_ble_eq_true rfl) [1, 2, 3, 4, 0] rfl ?_
          refine ea_goto (pc := 80) (tgt := 51) dX12_place_80 rfl ?_
          exact ((ih 51 (x1 : Int32) (x2 : Int32) (x3 : Int32) ((x4 + (1 : Int32)) : Int32) h _ _ E hs).2.1 rfl)
    intro el
    subst el
    have E := (if_neg (by decide)).symm.trans E
    have E := (if_neg (by decide)).symm.trans E
    have E := (if_pos rfl).symm.trans E
    refine ea_iload (pc := 83) dX12_place_83 4 rfl ?_
    refine ea_iconst (pc := 85) dX12_place_85 (v := 4) rfl ?_
    refine ea_icmp_ne (pc := 86) (tgt := 91) dX12_place_86 rfl (fun c27 => ?_) (fun c27 => ?_)
    · have E := (if_neg c27).symm.trans E
      refine ea_aload_n (pc := 91) dX12_place_91 rfl 0 rfl ?_
      refine ea_getR (pc := 92) dX12_place_92 ec_12 (k := 98) (Nat.le_of_ble_eq_true rfl) rfl (Or.inl ew_1443) (hs.1 0 (by decide)).1 (hs.1 0 (by decide)).2.1 (hs.2 0 98 rfl) ?_
      refine ea_iconst (pc := 95) dX12_place_95 (v := 4) rfl ?_
      refine ea_iload_n (pc := 96) dX12_place_96 rfl 1 rfl ?_
      refine ea_imul (pc := 97) dX12_place_97 ?_
      refine ea_iload (pc := 98) dX12_place_98 4 rfl ?_
      refine ea_iadd (pc := 100) dX12_place_100 ?_
      refine ea_iload_n (pc := 101) dX12_place_101 rfl 2 rfl ?_
      obtain ⟨z15, E⟩ := gd_some E
      refine ea_iast (pc := 102) dX12_place_102 (hs.1 71 (by decide)).1 (hs.1 71 (by decide)).2.1 (ea_vpl (hs.1 71 (by decide)).2.2 z15) ?_
      have hs16 : ShM b0 (ea_wi h (b0 + 71) (Int32.toNatClampNeg (((4 : Int32) * x1) + x4)) x2) := ShM_wi hs
      obtain ⟨H17, eH17, E⟩ := let_some E
      refine ea_nm eH17 ?_
      have hsH17 : ShM b0 H17 := by rw [eH17]; exact hs16
      refine ea_aload_n (pc := 103) dX12_place_103 rfl 0 rfl ?_
      refine ea_getR (pc := 104) dX12_place_104 ec_12 (k := 99) (Nat.le_of_ble_eq_true rfl) rfl (Or.inl ew_1444) (hsH17.1 0 (by decide)).1 (hsH17.1 0 (by decide)).2.1 (hsH17.2 0 99 rfl) ?_
      refine ea_iconst (pc := 107) dX12_place_107 (v := 4) rfl ?_
      refine ea_iload_n (pc := 108) dX12_place_108 rfl 1 rfl ?_
      refine ea_imul (pc := 109) dX12_place_109 ?_
      refine ea_iload (pc := 110) dX12_place_110 4 rfl ?_
      refine ea_iadd (pc := 112) dX12_place_112 ?_
      refine ea_iload_n (pc := 113) dX12_place_113 rfl 3 rfl ?_
      obtain ⟨z18, E⟩ := gd_some E
      refine ea_iast (pc := 114) dX12_place_114 (hsH17.1 72 (by decide)).1 (hsH17.1 72 (by decide)).2.1 (ea_vpl (hsH17.1 72 (by decide)).2.2 z18) ?_
      have hs19 : ShM b0 (ea_wi H17 (b0 + 72) (Int32.toNatClampNeg (((4 : Int32) * x1) + x4)) x3) := ShM_wi hsH17
      obtain ⟨H20, eH20, E⟩ := let_some E
      refine ea_nm eH20 ?_
      have hsH20 : ShM b0 H20 := by rw [eH20]; exact hs19
      refine ea_iload (pc := 115) dX12_place_115 4 rfl ?_
      refine ea_aload_n (pc := 117) dX12_place_117 rfl 0 rfl ?_
      refine ea_getR (pc := 118) dX12_place_118 ec_12 (k := 97) (Nat.le_of_ble_eq_true rfl) rfl (Or.inl ew_1442) (hsH20.1 0 (by decide)).1 (hsH20.1 0 (by decide)).2.1 (hsH20.2 0 97 rfl) ?_
      refine ea_iload_n (pc := 121) dX12_place_121 rfl 1 rfl ?_
      obtain ⟨z21, E⟩ := gd_some E
      refine ea_iald (pc := 122) dX12_place_122 (hsH20.1 70 (by decide)).1 (hsH20.1 70 (by decide)).2.1 (ea_vpl (hsH20.1 70 (by decide)).2.2 z21) ?_
      refine ea_icmp_ne (pc := 123) (tgt := 136) dX12_place_123 rfl (fun c26 => ?_) (fun c26 => ?_)
      · have E := (if_neg c26).symm.trans E
        refine ea_iconst (pc := 136) dX12_place_136 (v := 1) rfl ?_
        exact ea_iretO (pc := 137) dX12_place_137 rfl (ea_bn (Or.inr rfl)) E
      · have E := (if_pos c26).symm.trans E
        refine ea_aload_n (pc := 126) dX12_place_126 rfl 0 rfl ?_
        refine ea_getR (pc := 127) dX12_place_127 ec_12 (k := 97) (Nat.le_of_ble_eq_true rfl) rfl (Or.inl ew_1442) (hsH20.1 0 (by decide)).1 (hsH20.1 0 (by decide)).2.1 (hsH20.2 0 97 rfl) ?_
        refine ea_iload_n (pc := 130) dX12_place_130 rfl 1 rfl ?_
        refine ea_dup2 (pc := 131) dX12_place_131 rfl rfl ?_
        obtain ⟨z22, E⟩ := gd_some E
        refine ea_iald (pc := 132) dX12_place_132 (hsH20.1 70 (by decide)).1 (hsH20.1 70 (by decide)).2.1 (ea_vpl (hsH20.1 70 (by decide)).2.2 z22) ?_
        refine ea_iconst (pc := 133) dX12_place_133 (v := 1) rfl ?_
        refine ea_iadd (pc := 134) dX12_place_134 ?_
        obtain ⟨z23, E⟩ := gd_some E
        refine ea_iast (pc := 135) dX12_place_135 (hsH20.1 70 (by decide)).1 (hsH20.1 70 (by decide)).2.1 (ea_vpl (hsH20.1 70 (by decide)).2.2 z23) ?_
        have hs24 : ShM b0 (ea_wi H20 (b0 + 70) (Int32.toNatClampNeg x1) ((ea_i H20 (b0 + 70) (Int32.toNatClampNeg x1)) + (1 : Int32))) := ShM_wi hsH20
        obtain ⟨H25, eH25, E⟩ := let_some E
        refine ea_nm eH25 ?_
        have hsH25 : ShM b0 H25 := by rw [eH25]; exact hs24
        refine ea_iconst (pc := 136) dX12_place_136 (v := 1) rfl ?_
        exact ea_iretO (pc := 137) dX12_place_137 rfl (ea_bn (Or.inr rfl)) E
    · have E := (if_pos c27).symm.trans E
      refine ea_iconst (pc := 89) dX12_place_89 (v := 0) rfl ?_
      exact ea_iretO (pc := 90) dX12_place_90 rfl (ea_bn (Or.inl rfl)) E
noncomputable def qX12_place (b0 : Nat) (x1 : Int32) (x2 : Int32) (x3 : Int32) (h : ea_H) : Option (Int32 × ea_H) := gX12_place b0 1000000000 0 x1 x2 x3 0 h
def okX12_place (b0 : Nat) (x1 : Int32) (x2 : Int32) (x3 : Int32) (h : ea_H) : Prop := ∃ x, qX12_place b0 x1 x2 x3 h = some x
noncomputable def vX12_place (b0 : Nat) (x1 : Int32) (x2 : Int32) (x3 : Int32) (h : ea_H) : Int32 := ((qX12_place b0 x1 x2 x3 h).getD (0, h)).1
noncomputable def wX12_place (b0 : Nat) (x1 : Int32) (x2 : Int32) (x3 : Int32) (h : ea_H) : ea_H := ((qX12_place b0 x1 x2 x3 h).getD (0, h)).2
theorem sX12_place {d : Nat} {b0 : Nat} {x1 : Int32} {x2 : Int32} {x3 : Int32} {h : ea_H} (hd : 3 ≤ d) (hs : ShM b0 h) (K : okX12_place b0 x1 x2 x3 h) : ea_Met mX12_place d [vR (some (b0 + 0)), vI x1, vI x2, vI x3] h (some (vI (vX12_place b0 x1 x2 x3 h))) (wX12_place b0 x1 x2 x3 h) := by
  obtain ⟨⟨x, y⟩, K⟩ := K
  unfold wX12_place vX12_place
  rw [K]
  unfold qX12_place at K
  exact ea_enter rfl (Nat.le_of_ble_eq_true rfl) ((tX12_place hd 1000000000 0 x1 x2 x3 0 h x y K hs).1 rfl)
theorem zX12_place {b0 : Nat} : ∀ (f lbl : Nat) (x1 : Int32) (x2 : Int32) (x3 : Int32) (x4 : Int32) (h : ea_H) (r : Int32) (h' : ea_H), gX12_place b0 f lbl x1 x2 x3 x4 h = some (r, h') → ShM b0 h → ShM b0 h' := by
  intro f
  induction f with
  | zero => intro lbl x1 x2 x3 x4 h r h' E; cases E
  | succ f ih =>
    intro lbl x1 x2 x3 x4 h r h' E hs
    unfold gX12_place at E
    by_cases el0 : lbl = 0
    · have E := (if_pos el0).symm.trans E
      by_cases c10 : (vX12_isLetterOf b0 (x1 : Int32) h) = (0 : Int32)
      · have E := (if_pos c10).symm.trans E
        exact ea_shO E hs
      have E := (if_neg c10).symm.trans E
      obtain ⟨z2, E⟩ := gd_some E
      by_cases c9 : (ea_i h (b0 + 55) (Int32.toNatClampNeg x1)) = (3 : Int32)
      · have E := (if_pos c9).symm.trans E
        by_cases c8 : (vX12_isTown b0 (x2 : Int32) h) = (0 : Int32)
        · have E := (if_pos c8).symm.trans E
          exact ea_shO E hs
        have E := (if_neg c8).symm.trans E
        obtain ⟨z4, E⟩ := gd_some E
        by_cases c7 : x2 = (ea_i h (b0 + 40) (Int32.toNatClampNeg x1))
        · have E := (if_pos c7).symm.trans E
          exact ea_shO E hs
        have E := (if_neg c7).symm.trans E
        by_cases c6 : (vX12_isIn (x3 : Int32) (1 : Int32) (99 : Int32) h) = (0 : Int32)
        · have E := (if_pos c6).symm.trans E
          exact ea_shO E hs
        have E := (if_neg c6).symm.trans E
        exact ih 51 (x1 : Int32) (x2 : Int32) (x3 : Int32) (0 : Int32) h _ _ E hs
      have E := (if_neg c9).symm.trans E
      exact ea_shO E hs
    have E := (if_neg el0).symm.trans E
    by_cases el1 : lbl = 51
    · have E := (if_pos el1).symm.trans E
      obtain ⟨z11, E⟩ := gd_some E
      by_cases c14 : (ea_i h (b0 + 70) (Int32.toNatClampNeg x1)) ≤ x4
      · have E := (if_pos c14).symm.trans E
        exact ih 83 (x1 : Int32) (x2 : Int32) (x3 : Int32) (x4 : Int32) h _ _ E hs
      have E := (if_neg c14).symm.trans E
      obtain ⟨z12, E⟩ := gd_some E
      by_cases c13 : (ea_i h (b0 + 71) (Int32.toNatClampNeg (((4 : Int32) * x1) + x4))) = x2
      · have E := (if_pos c13).symm.trans E
        exact ih 83 (x1 : Int32) (x2 : Int32) (x3 : Int32) (x4 : Int32) h _ _ E hs
      have E := (if_neg c13).symm.trans E
      exact ih 51 (x1 : Int32) (x2 : Int32) (x3 : Int32) ((x4 + (1 : Int32)) : Int32) h _ _ E hs
    have E := (if_neg el1).symm.trans E
    by_cases el2 : lbl = 83
    · have E := (if_pos el2).symm.trans E
      by_cases c27 : x4 = (4 : Int32)
      · have E := (if_pos c27).symm.trans E
        exact ea_shO E hs
      have E := (if_neg c27).symm.trans E
      obtain ⟨z15, E⟩ := gd_some E
      obtain ⟨H17, eH17, E⟩ := let_some E
      have hsH17 : ShM b0 H17 := by rw [eH17]; exact (ShM_wi hs)
      obtain ⟨z18, E⟩ := gd_some E
      obtain ⟨H20, eH20, E⟩ := let_some E
      have hsH20 : ShM b0 H20 := by rw [eH20]; exact (ShM_wi hsH17)
      obtain ⟨z21, E⟩ := gd_some E
      by_cases c26 : x4 = (ea_i H20 (b0 + 70) (Int32.toNatClampNeg x1))
      · have E := (if_pos c26).symm.trans E
        obtain ⟨z22, E⟩ := gd_some E
        obtain ⟨z23, E⟩ := gd_some E
        obtain ⟨H25, eH25, E⟩ := let_some E
        have hsH25 : ShM b0 H25 := by rw [eH25]; exact (ShM_wi hsH20)
        exact ea_shO E hsH25
      have E := (if_neg c26).symm.trans E
      exact ea_shO E hsH20
    have E := (if_neg el2).symm.trans E
    cases E
theorem shX12_place {b0 : Nat} {x1 : Int32} {x2 : Int32} {x3 : Int32} {h : ea_H} (hs : ShM b0 h) : ShM b0 (wX12_place b0 x1 x2 x3 h) := by
  unfold wX12_place
  cases K : qX12_place b0 x1 x2 x3 h with
  | none => exact hs
  | some x => obtain ⟨x, y⟩ := x; unfold qX12_place at K; exact zX12_place _ _ _ _ _ _ _ _ _ K hs
noncomputable def gX12_ordered (b0 : Nat) : Nat → Nat → Int32 → Int32 → Int32 → Int32 → Int32 → ea_H → Option (Int32 × ea_H)
  | 0, _, _, _, _, _, _, _ => none
  | f + 1, lbl, x1, x2, x3, x4, x5, h =>
    if lbl = 0 then (gX12_ordered b0 f 2 (x1 : Int32) (x2 : Int32) (0 : Int32) 0 0 h) else
    if lbl = 2 then (gd (vp_in x1 120) (if (ea_i h (b0 + 70) (Int32.toNatClampNeg x1)) ≤ x3 then (some (((-1) : Int32), h)) else (gX12_ordered b0 f 18 (x1 : Int32) (x2 : Int32) (x3 : Int32) (0 : Int32) (0 : Int32) h))) else
    if lbl = 18 then (gd (vp_in x1 120) (if (ea_i h (b0 + 70) (Int32.toNatClampNeg x1)) ≤ x5 then (if x4 = x2 then (some ((((4 : Int32) * x1) + x3), h)) else (gX12_ordered b0 f 2 (x1 : Int32) (x2 : Int32) ((x3 + (1 : Int32)) : Int32) 0 0 h)) else (gd (vp_in (((4 : Int32) * x1) + x5) 480) (gd (vp_in (((4 : Int32) * x1) + x3) 480) (if (ea_i h (b0 + 72) (Int32.toNatClampNeg (((4 : Int32) * x1) + x3))) < (ea_i h (b0 + 72) (Int32.toNatClampNeg (((4 : Int32) * x1) + x5))) then (gX12_ordered b0 f 18 (x1 : Int32) (x2 : Int32) (x3 : Int32) ((x4 + (1 : Int32)) : Int32) ((x5 + (1 : Int32)) : Int32) h) else (if (ea_i h (b0 + 72) (Int32.toNatClampNeg (((4 : Int32) * x1) + x5))) = (ea_i h (b0 + 72) (Int32.toNatClampNeg (((4 : Int32) * x1) + x3))) then (gd (vp_in (((4 : Int32) * x1) + x5) 480) (gd (vp_in (((4 : Int32) * x1) + x3) 480) (if (ea_i h (b0 + 71) (Int32.toNatClampNeg (((4 : Int32) * x1) + x3))) ≤ (ea_i h (b0 + 71) (Int32.toNatClampNeg (((4 : Int32) * x1) + x5))) then (gX12_ordered b0 f 18 (x1 : Int32) (x2 : Int32) (x3 : Int32) ((x4 + (0 : Int32)) : Int32) ((x5 + (1 : Int32)) : Int32) h) else (gX12_ordered b0 f 18 (x1 : Int32) (x2 : Int32) (x3 : Int32) ((x4 + (1 : Int32)) : Int32) ((x5 + (1 : Int32)) : Int32) h)))) else (gX12_ordered b0 f 18 (x1 : Int32) (x2 : Int32) (x3 : Int32) ((x4 + (0 : Int32)) : Int32) ((x5 + (1 : Int32)) : Int32) h))))))) else none
theorem tX12_ordered {d : Nat} {b0 : Nat} {h0 : ea_H} (hd : 1 ≤ d) : ∀ (f lbl : Nat) (x1 : Int32) (x2 : Int32) (x3 : Int32) (x4 : Int32) (x5 : Int32) (h : ea_H) (r : Int32) (h' : ea_H), gX12_ordered b0 f lbl x1 x2 x3 x4 x5 h = some (r, h') → ShM b0 h → (lbl = 0 → ea_W mX12_ordered d h0 (some (vI r)) h' 0 [(0, vR (some (b0 + 0))), (1, vI x1), (2, vI x2)] [] h) ∧ (lbl = 2 → ea_W mX12_ordered d h0 (some (vI r)) h' 2 [(0, vR (some (b0 + 0))), (1, vI x1), (2, vI x2), (3, vI x3)] [] h) ∧ (lbl = 18 → ea_W mX12_ordered d h0 (some (vI r)) h' 18 [(0, vR (some (b0 + 0))), (1, vI x1), (2, vI x2), (3, vI x3), (4, vI x4), (5, vI x5)] [] h) := by
  intro f
  induction f with
  | zero => intro lbl x1 x2 x3 x4 x5 h r h' E; cases E
  | succ f ih =>
    intro lbl x1 x2 x3 x4 x5 h r h' E hs
    unfold gX12_ordered at E
    refine ⟨?_, ?_⟩
    · intro el
      subst el
      have E := (if_pos rfl).symm.trans E
      refine ea_iconst (pc := 0) dX12_ordered_0 (v := 0) rfl ?_
      refine ea_istore_n (pc := 1) (lv' := [(0, vR (some (b0 + 0))), (1, vI x1), (2, vI x2), (3, vI 0)]) dX12_ordered_1 rfl (Nat.le_of_ble_eq_true rfl) [1, 2, 3, 0] rfl ?_
      exact ((ih 2 (x1 : Int32) (x2 : Int32) (0 : Int32) 0 0 h _ _ E hs).2.1 rfl)
    refine ⟨?_, ?_⟩
    · intro el
      subst el
      have E := (if_neg (by decide)).symm.trans E
      have E := (if_pos rfl).symm.trans E
      refine ea_iload_n (pc := 2) dX12_ordered_2 rfl 3 rfl ?_
      refine ea_aload_n (pc := 3) dX12_ordered_3 rfl 0 rfl ?_
      refine ea_getR (pc := 4) dX12_ordered_4 ec_12 (k := 97) (Nat.le_of_ble_eq_true rfl) rfl (Or.inl ew_1442) (hs.1 0 (by decide)).1 (hs.1 0 (by decide)).2.1 (hs.2 0 97 rfl) ?_
      refine ea_iload_n (pc := 7) dX12_ordered_7 rfl 1 rfl ?_
      obtain ⟨z1, E⟩ := gd_some E
      refine ea_iald (pc := 8) dX12_ordered_8 (hs.1 70 (by decide)).1 (hs.1 70 (by decide)).2.1 (ea_vpl (hs.1 70 (by decide)).2.2 z1) ?_
      refine ea_icmp_ge (pc := 9) (tgt := 126) dX12_ordered_9 rfl (fun c2 => ?_) (fun c2 => ?_)
      · have E := (if_pos c2).symm.trans E
        refine ea_iconst (pc := 126) dX12_ordered_126 (v := (-1)) rfl ?_
        exact ea_iretO (pc := 127) dX12_ordered_127 rfl rfl E
      · have E := (if_neg c2).symm.trans E
        refine ea_iconst (pc := 12) dX12_ordered_12 (v := 0) rfl ?_
        refine ea_istore (pc := 13) (lv' := [(0, vR (some (b0 + 0))), (1, vI x1), (2, vI x2), (3, vI x3), (4, vI 0)]) dX12_ordered_13 (Nat.le_of_ble_eq_true rfl) [1, 2, 3, 4, 0] rfl ?_
        refine ea_iconst (pc := 15) dX12_ordered_15 (v := 0) rfl ?_
        refine ea_istore (pc := 16) (lv' := [(0, vR (some (b0 + 0))), (1, vI x1), (2, vI x2), (3, vI x3), (4, vI 0), (5, vI 0)]) dX12_ordered_16 (Nat.le_of_ble_eq_true rfl) [1, 2, 3, 4, 5, 0] rfl ?_
        exact ((ih 18 (x1 : Int32) (x2 : Int32) (x3 : Int32) (0 : Int32) (0 : Int32) h _ _ E hs).2.2 rfl)
    intro el
    subst el
    have E := (if_neg (by decide)).symm.trans E
    have E := (if_neg (by decide)).symm.trans E
    have E := (if_pos rfl).symm.trans E
    refine ea_iload (pc := 18) dX12_ordered_18 5 rfl ?_
    refine ea_aload_n (pc := 20) dX12_ordered_20 rfl 0 rfl ?_
    refine ea_getR (pc := 21) dX12_ordered_21 ec_12 (k := 97) (Nat.le_of_ble_eq_true rfl) rfl (Or.inl ew_1442) (hs.1 0 (by decide)).1 (hs.1 0 (by decide)).2.1 (hs.2 0 97 rfl) ?_
    refine ea_iload_n (pc := 24) dX12_ordered_24 rfl 1 rfl ?_
    obtain ⟨z3, E⟩ := gd_some E
    refine ea_iald (pc := 25) dX12_ordered_25 (hs.1 70 (by decide)).1 (hs.1 70 (by decide)).2.1 (ea_vpl (hs.1 70 (by decide)).2.2 z3) ?_
    refine ea_icmp_ge (pc := 26) (tgt := 108) dX12_ordered_26 rfl (fun c12 => ?_) (fun c12 => ?_)
    · have E := (if_pos c12).symm.trans E
      refine ea_iload (pc := 108) dX12_ordered_108 4 rfl ?_
      refine ea_iload_n (pc := 110) dX12_ordered_110 rfl 2 rfl ?_
      refine ea_icmp_ne (pc := 111) (tgt := 120) dX12_ordered_111 rfl (fun c4 => ?_) (fun c4 => ?_)
      · have E := (if_neg c4).symm.trans E
        refine ea_iinc (pc := 120) (v := 1) (lv' := [(0, vR (some (b0 + 0))), (1, vI x1), (2, vI x2), (3, vI (x3 + (1 : Int32)))]) dX12_ordered_120 3 rfl rfl (Nat.le_of_ble_eq_true rfl) [1, 2, 3, 0] rfl ?_
        refine ea_goto (pc := 123) (tgt := 2) dX12_ordered_123 rfl ?_
        exact ((ih 2 (x1 : Int32) (x2 : Int32) ((x3 + (1 : Int32)) : Int32) 0 0 h _ _ E hs).2.1 rfl)
      · have E := (if_pos c4).symm.trans E
        refine ea_iconst (pc := 114) dX12_ordered_114 (v := 4) rfl ?_
        refine ea_iload_n (pc := 115) dX12_ordered_115 rfl 1 rfl ?_
        refine ea_imul (pc := 116) dX12_ordered_116 ?_
        refine ea_iload_n (pc := 117) dX12_ordered_117 rfl 3 rfl ?_
        refine ea_iadd (pc := 118) dX12_ordered_118 ?_
        exact ea_iretO (pc := 119) dX12_ordered_119 rfl rfl E
    · have E := (if_neg c12).symm.trans E
      refine ea_aload_n (pc := 29) dX12_ordered_29 rfl 0 rfl ?_
      refine ea_getR (pc := 30) dX12_ordered_30 ec_12 (k := 99) (Nat.le_of_ble_eq_true rfl) rfl (Or.inl ew_1444) (hs.1 0 (by decide)).1 (hs.1 0 (by decide)).2.1 (hs.2 0 99 rfl) ?_
      refine ea_iconst (pc := 33) dX12_ordered_33 (v := 4) rfl ?_
      refine ea_iload_n (pc := 34) dX12_ordered_34 rfl 1 rfl ?_
      refine ea_imul (pc := 35) dX12_ordered_35 ?_
      refine ea_iload (pc := 36) dX12_ordered_36 5 rfl ?_
      refine ea_iadd (pc := 38) dX12_ordered_38 ?_
      obtain ⟨z5, E⟩ := gd_some E
      refine ea_iald (pc := 39) dX12_ordered_39 (hs.1 72 (by decide)).1 (hs.1 72 (by decide)).2.1 (ea_vpl (hs.1 72 (by decide)).2.2 z5) ?_
      refine ea_istore (pc := 40) (lv' := [(0, vR (some (b0 + 0))), (1, vI x1), (2, vI x2), (3, vI x3), (4, vI x4), (5, vI x5), (6, vI (ea_i h (b0 + 72) (Int32.toNatClampNeg (((4 : Int32) * x1) + x5))))]) dX12_ordered_40 (Nat.le_of_ble_eq_true rfl) [1, 2, 3, 4, 5, 6, 0] rfl ?_
      refine ea_aload_n (pc := 42) dX12_ordered_42 rfl 0 rfl ?_
      refine ea_getR (pc := 43) dX12_ordered_43 ec_12 (k := 99) (Nat.le_of_ble_eq_true rfl) rfl (Or.inl ew_1444) (hs.1 0 (by decide)).1 (hs.1 0 (by decide)).2.1 (hs.2 0 99 rfl) ?_
      refine ea_iconst (pc := 46) dX12_ordered_46 (v := 4) rfl ?_
      refine ea_iload_n (pc := 47) dX12_ordered_47 rfl 1 rfl ?_
      refine ea_imul (pc := 48) dX12_ordered_48 ?_
      refine ea_iload_n (pc := 49) dX12_ordered_49 rfl 3 rfl ?_
      refine ea_iadd (pc := 50) dX12_ordered_50 ?_
      obtain ⟨z6, E⟩ := gd_some E
      refine ea_iald (pc := 51) dX12_ordered_51 (hs.1 72 (by decide)).1 (hs.1 72 (by decide)).2.1 (ea_vpl (hs.1 72 (by decide)).2.2 z6) ?_
      refine ea_istore (pc := 52) (lv' := [(0, vR (some (b0 + 0))), (1, vI x1), (2, vI x2), (3, vI x3), (4, vI x4), (5, vI x5), (6, vI (ea_i h (b0 + 72) (Int32.toNatClampNeg (((4 : Int32) * x1) + x5)))), (7, vI (ea_i h (b0 + 72) (Int32.toNatClampNeg (((4 : Int32) * x1) + x3))))]) dX12_ordered_52 (Nat.le_of_ble_eq_true rfl) [1, 2, 3, 4, 5, 6, 7, 0] rfl ?_
      refine ea_iload (pc := 54) dX12_ordered_54 4 rfl ?_
      refine ea_iload (pc := 56) dX12_ordered_56 6 rfl ?_
      refine ea_iload (pc := 58) dX12_ordered_58 7 rfl ?_
      refine ea_icmp_gt (pc := 60) (tgt := 94) dX12_ordered_60 rfl (fun c11 => ?_) (fun c11 => ?_)
      · have E := (if_pos c11).symm.trans E
        refine ea_iconst (pc := 94) dX12_ordered_94 (v := 1) rfl ?_
        refine ea_goto (pc := 95) (tgt := 99) dX12_ordered_95 rfl ?_
        refine ea_iadd (pc := 99) dX12_ordered_99 ?_
        refine ea_istore (pc := 100) (lv' := [(0, vR (some (b0 + 0))), (1, vI x1), (2, vI x2), (3, vI x3), (4, vI (x4 + (1 : Int32))), (5, vI x5)]) dX12_ordered_100 (Nat.le_of_ble_eq_true rfl) [1, 2, 3, 4, 0, 5] rfl ?_
        refine ea_iinc (pc := 102) (v := 1) (lv' := [(0, vR (some (b0 + 0))), (1, vI x1), (2, vI x2), (3, vI x3), (4, vI (x4 + (1 : Int32))), (5, vI (x5 + (1 : Int32)))]) dX12_ordered_102 5 rfl rfl (Nat.le_of_ble_eq_true rfl) [1, 2, 3, 4, 5, 0] rfl ?_
        refine ea_goto (pc := 105) (tgt := 18) dX12_ordered_105 rfl ?_
        exact ((ih 18 (x1 : Int32) (x2 : Int32) (x3 : Int32) ((x4 + (1 : Int32)) : Int32) ((x5 + (1 : Int32)) : Int32) h _ _ E hs).2.2 rfl)
      · have E := (if_neg c11).symm.trans E
        refine ea_iload (pc := 63) dX12_ordered_63 6 rfl ?_
        refine ea_iload (pc := 65) dX12_ordered_65 7 rfl ?_
        refine ea_icmp_ne (pc := 67) (tgt := 98) dX12_ordered_67 rfl (fun c10 => ?_) (fun c10 => ?_)
        · have E := (if_neg c10).symm.trans E
          refine ea_iconst (pc := 98) dX12_ordered_98 (v := 0) rfl ?_
          refine ea_iadd (pc := 99) dX12_ordered_99 ?_
          refine ea_istore (pc := 100) (lv' := [(0, vR (some (b0 + 0))), (1, vI x1), (2, vI x2), (3, vI x3), (4, vI (x4 + (0 : Int32))), (5, vI x5)]) dX12_ordered_100 (Nat.le_of_ble_eq_true rfl) [1, 2, 3, 4, 0, 5] rfl ?_
          refine ea_iinc (pc := 102) (v := 1) (lv' := [(0, vR (some (b0 + 0))), (1, vI x1), (2, vI x2), (3, vI x3), (4, vI (x4 + (0 : Int32))), (5, vI (x5 + (1 : Int32)))]) dX12_ordered_102 5 rfl rfl (Nat.le_of_ble_eq_true rfl) [1, 2, 3, 4, 5, 0] rfl ?_
          refine ea_goto (pc := 105) (tgt := 18) dX12_ordered_105 rfl ?_
          exact ((ih 18 (x1 : Int32) (x2 : Int32) (x3 : Int32) ((x4 + (0 : Int32)) : Int32) ((x5 + (1 : Int32)) : Int32) h _ _ E hs).2.2 rfl)
        · have E := (if_pos c10).symm.trans E
          refine ea_aload_n (pc := 70) dX12_ordered_70 rfl 0 rfl ?_
          refine ea_getR (pc := 71) dX12_ordered_71 ec_12 (k := 98) (Nat.le_of_ble_eq_true rfl) rfl (Or.inl ew_1443) (hs.1 0 (by decide)).1 (hs.1 0 (by decide)).2.1 (hs.2 0 98 rfl) ?_
          refine ea_iconst (pc := 74) dX12_ordered_74 (v := 4) rfl ?_
          refine ea_iload_n (pc := 75) dX12_ordered_75 rfl 1 rfl ?_
          refine ea_imul (pc := 76) dX12_ordered_76 ?_
          refine ea_iload (pc := 77) dX12_ordered_77 5 rfl ?_
          refine ea_iadd (pc := 79) dX12_ordered_79 ?_
          obtain ⟨z7, E⟩ := gd_some E
          refine ea_iald (pc := 80) dX12_ordered_80 (hs.1 71 (by decide)).1 (hs.1 71 (by decide)).2.1 (ea_vpl (hs.1 71 (by decide)).2.2 z7) ?_
          refine ea_aload_n (pc := 81) dX12_ordered_81 rfl 0 rfl ?_
          refine ea_getR (pc := 82) dX12_ordered_82 ec_12 (k := 98) (Nat.le_of_ble_eq_true rfl) rfl (Or.inl ew_1443) (hs.1 0 (by decide)).1 (hs.1 0 (by decide)).2.1 (hs.2 0 98 rfl) ?_
          refine ea_iconst (pc := 85) dX12_ordered_85 (v := 4) rfl ?_
          refine ea_iload_n (pc := 86) dX12_ordered_86 rfl 1 rfl ?_
          refine ea_imul (pc := 87) dX12_ordered_87 ?_
          refine ea_iload_n (pc := 88) dX12_ordered_88 rfl 3 rfl ?_
          refine ea_iadd (pc := 89) dX12_ordered_89 ?_
          obtain ⟨z8, E⟩ := gd_some E
          refine ea_iald (pc := 90) dX12_ordered_90 (hs.1 71 (by decide)).1 (hs.1 71 (by decide)).2.1 (ea_vpl (hs.1 71 (by decide)).2.2 z8) ?_
          refine ea_icmp_ge (pc := 91) (tgt := 98) dX12_ordered_91 rfl (fun c9 => ?_) (fun c9 => ?_)
          · have E := (if_pos c9).symm.trans E
            refine ea_iconst (pc := 98) dX12_ordered_98 (v := 0) rfl ?_
            refine ea_iadd (pc := 99) dX12_ordered_99 ?_
            refine ea_istore (pc := 100) (lv' := [(0, vR (some (b0 + 0))), (1, vI x1), (2, vI x2), (3, vI x3), (4, vI (x4 + (0 : Int32))), (5, vI x5)]) dX12_ordered_100 (Nat.le_of_ble_eq_true rfl) [1, 2, 3, 4, 0, 5] rfl ?_
            refine ea_iinc (pc := 102) (v := 1) (lv' := [(0, vR (some (b0 + 0))), (1, vI x1), (2, vI x2), (3, vI x3), (4, vI (x4 + (0 : Int32))), (5, vI (x5 + (1 : Int32)))]) dX12_ordered_102 5 rfl rfl (Nat.le_of_ble_eq_true rfl) [1, 2, 3, 4, 5, 0] rfl ?_
            refine ea_goto (pc := 105) (tgt := 18) dX12_ordered_105 rfl ?_
            exact ((ih 18 (x1 : Int32) (x2 : Int32) (x3 : Int32) ((x4 + (0 : Int32)) : Int32) ((x5 + (1 : Int32)) : Int32) h _ _ E hs).2.2 rfl)
          · have E := (if_neg c9).symm.trans E
            refine ea_iconst (pc := 94) dX12_ordered_94 (v := 1) rfl ?_
            refine ea_goto (pc := 95) (tgt := 99) dX12_ordered_95 rfl ?_
            refine ea_iadd (pc := 99) dX12_ordered_99 ?_
            refine ea_istore (pc := 100) (lv' := [(0, vR (some (b0 + 0))), (1, vI x1), (2, vI x2), (3, vI x3), (4, vI (x4 + (1 : Int32))), (5, vI x5)]) dX12_ordered_100 (Nat.le_of_ble_eq_true rfl) [1, 2, 3, 4, 0, 5] rfl ?_
            refine ea_iinc (pc := 102) (v := 1) (lv' := [(0, vR (some (b0 + 0))), (1, vI x1), (2, vI x2), (3, vI x3), (4, vI (x4 + (1 : Int32))), (5, vI (x5 + (1 : Int32)))]) dX12_ordered_102 5 rfl rfl (Nat.le_of_ble_eq_true rfl) [1, 2, 3, 4, 5, 0] rfl ?_
            refine ea_goto (pc := 105) (tgt := 18) dX12_ordered_105 rfl ?_
            exact ((ih 18 (x1 : Int32) (x2 : Int32) (x3 : Int32) ((x4 + (1 : Int32)) : Int32) ((x5 + (1 : Int32)) : Int32) h _ _ E hs).2.2 rfl)
noncomputable def qX12_ordered (b0 : Nat) (x1 : Int32) (x2 : Int32) (h : ea_H) : Option (Int32 × ea_H) := gX12_ordered b0 1000000000 0 x1 x2 0 0 0 h
def okX12_ordered (b0 : Nat) (x1 : Int32) (x2 : Int32) (h : ea_H) : Prop := ∃ x, qX12_ordered b0 x1 x2 h = some x
noncomputable def vX12_ordered (b0 : Nat) (x1 : Int32) (x2 : Int32) (h : ea_H) : Int32 := ((qX12_ordered b0 x1 x2 h).getD (0, h)).1
noncomputable def wX12_ordered (b0 : Nat) (x1 : Int32) (x2 : Int32) (h : ea_H) : ea_H := ((qX12_ordered b0 x1 x2 h).getD (0, h)).2
theorem sX12_ordered {d : Nat} {b0 : Nat} {x1 : Int32} {x2 : Int32} {h : ea_H} (hd : 1 ≤ d) (hs : ShM b0 h) (K : okX12_ordered b0 x1 x2 h) : ea_Met mX12_ordered d [vR (some (b0 + 0)), vI x1, vI x2] h (some (vI (vX12_ordered b0 x1 x2 h))) (wX12_ordered b0 x1 x2 h) := by
  obtain ⟨⟨x, y⟩, K⟩ := K
  unfold wX12_ordered vX12_ordered
  rw [K]
  unfold qX12_ordered at K
  exact ea_enter rfl (Nat.le_of_ble_eq_true rfl) ((tX12_ordered hd 1000000000 0 x1 x2 0 0 0 h x y K hs).1 rfl)
theorem zX12_ordered {b0 : Nat} : ∀ (f lbl : Nat) (x1 : Int32) (x2 : Int32) (x3 : Int32) (x4 : Int32) (x5 : Int32) (h : ea_H) (r : Int32) (h' : ea_H), gX12_ordered b0 f lbl x1 x2 x3 x4 x5 h = some (r, h') → ShM b0 h → ShM b0 h' := by
  intro f
  induction f with
  | zero => intro lbl x1 x2 x3 x4 x5 h r h' E; cases E
  | succ f ih =>
    intro lbl x1 x2 x3 x4 x5 h r h' E hs
    unfold gX12_ordered at E
    by_cases el0 : lbl = 0
    · have E := (if_pos el0).symm.trans E
      exact ih 2 (x1 : Int32) (x2 : Int32) (0 : Int32) 0 0 h _ _ E hs
    have E := (if_neg el0).symm.trans E
    by_cases el1 : lbl = 2
    · have E := (if_pos el1).symm.trans E
      obtain ⟨z1, E⟩ := gd_some E
      by_cases c2 : (ea_i h (b0 + 70) (Int32.toNatClampNeg x1)) ≤ x3
      · have E := (if_pos c2).symm.trans E
        exact ea_shO E hs
      have E := (if_neg c2).symm.trans E
      exact ih 18 (x1 : Int32) (x2 : Int32) (x3 : Int32) (0 : Int32) (0 : Int32) h _ _ E hs
    have E := (if_neg el1).symm.trans E
    by_cases el2 : lbl = 18
    · have E := (if_pos el2).symm.trans E
      obtain ⟨z3, E⟩ := gd_some E
      by_cases c12 : (ea_i h (b0 + 70) (Int32.toNatClampNeg x1)) ≤ x5
      · have E := (if_pos c12).symm.trans E
        by_cases c4 : x4 = x2
        · have E := (if_pos c4).symm.trans E
          exact ea_shO E hs
        have E := (if_neg c4).symm.trans E
        exact ih 2 (x1 : Int32) (x2 : Int32) ((x3 + (1 : Int32)) : Int32) 0 0 h _ _ E hs
      have E := (if_neg c12).symm.trans E
      obtain ⟨z5, E⟩ := gd_some E
      obtain ⟨z6, E⟩ := gd_some E
      by_cases c11 : (ea_i h (b0 + 72) (Int32.toNatClampNeg (((4 : Int32) * x1) + x3))) < (ea_i h (b0 + 72) (Int32.toNatClampNeg (((4 : Int32) * x1) + x5)))
      · have E := (if_pos c11).symm.trans E
        exact ih 18 (x1 : Int32) (x2 : Int32) (x3 : Int32) ((x4 + (1 : Int32)) : Int32) ((x5 + (1 : Int32)) : Int32) h _ _ E hs
      have E := (if_neg c11).symm.trans E
      by_cases c10 : (ea_i h (b0 + 72) (Int32.toNatClampNeg (((4 : Int32) * x1) + x5))) = (ea_i h (b0 + 72) (Int32.toNatClampNeg (((4 : Int32) * x1) + x3)))
      · have E := (if_pos c10).symm.trans E
        obtain ⟨z7, E⟩ := gd_some E
        obtain ⟨z8, E⟩ := gd_some E
        by_cases c9 : (ea_i h (b0 + 71) (Int32.toNatClampNeg (((4 : Int32) * x1) + x3))) ≤ (ea_i h (b0 + 71) (Int32.toNatClampNeg (((4 : Int32) * x1) + x5)))
        · have E := (if_pos c9).symm.trans E
          exact ih 18 (x1 : Int32) (x2 : Int32) (x3 : Int32) ((x4 + (0 : Int32)) : Int32) ((x5 + (1 : Int32)) : Int32) h _ _ E hs
        have E := (if_neg c9).symm.trans E
        exact ih 18 (x1 : Int32) (x2 : Int32) (x3 : Int32) ((x4 + (1 : Int32)) : Int32) ((x5 + (1 : Int32)) : Int32) h _ _ E hs
      have E := (if_neg c10).symm.trans E
      exact ih 18 (x1 : Int32) (x2 : Int32) (x3 : Int32) ((x4 + (0 : Int32)) : Int32) ((x5 + (1 : Int32)) : Int32) h _ _ E hs
    have E := (if_neg el2).symm.trans E
    cases E
theorem shX12_ordered {b0 : Nat} {x1 : Int32} {x2 : Int32} {h : ea_H} (hs : ShM b0 h) : ShM b0 (wX12_ordered b0 x1 x2 h) := by
  unfold wX12_ordered
  cases K : qX12_ordered b0 x1 x2 h with
  | none => exact hs
  | some x => obtain ⟨x, y⟩ := x; unfold qX12_ordered at K; exact zX12_ordered _ _ _ _ _ _ _ _ _ _ K hs
noncomputable def gX12_common (b0 : Nat) : Nat → Nat → Int64 → Int64 → Int64 → Int64 → ea_H → Option (Int64 × ea_H)
  | 0, _, _, _, _, _, _ => none
  | f + 1, lbl, y0, y2, y4, y6, h =>
    if lbl = 0 then (gX12_common b0 f 6 0 0 (y0 : Int64) (y2 : Int64) h) else
    if lbl = 6 then (if (lg_cmp y6 (0 : Int64)) = (0 : Int32) then (some (y4, h)) else (gd ((¬ y6 = 0)) (gX12_common b0 f 6 0 0 (y6 : Int64) ((y4 - y4 / y6 * y6) : Int64) h))) else none
theorem tX12_common {d : Nat} {b0 : Nat} {h0 : ea_H} (hd : 1 ≤ d) : ∀ (f lbl : Nat) (y0 : Int64) (y2 : Int64) (y4 : Int64) (y6 : Int64) (h : ea_H) (r : Int64) (h' : ea_H), gX12_common b0 f lbl y0 y2 y4 y6 h = some (r, h') → ShM b0 h → (lbl = 0 → ea_W mX12_common d h0 (some (vJ r)) h' 0 [(0, vJ y0), (2, vJ y2)] [] h) ∧ (lbl = 6 → ea_W mX12_common d h0 (some (vJ r)) h' 6 [(4, vJ y4), (6, vJ y6)] [] h) := by
  intro f
  induction f with
  | zero => intro lbl y0 y2 y4 y6 h r h' E; cases E
  | succ f ih =>
    intro lbl y0 y2 y4 y6 h r h' E hs
    unfold gX12_common at E
    refine ⟨?_, ?_⟩
    · intro el
      subst el
      have E := (if_pos rfl).symm.trans E
      refine ea_lload_n (pc := 0) dX12_common_0 rfl 0 rfl ?_
      refine ea_lstore (pc := 1) (lv' := [(2, vJ y2), (4, vJ y0)]) dX12_common_1 (Nat.le_of_ble_eq_true rfl) [2, 0] rfl ?_
      refine ea_lload_n (pc := 3) dX12_common_3 rfl 0 rfl ?_
      refine ea_lstore (pc := 4) (lv' := [(4, vJ y0), (6, vJ y2)]) dX12_common_4 (Nat.le_of_ble_eq_true rfl) [2, 0] rfl ?_
      exact ((ih 6 0 0 (y0 : Int64) (y2 : Int64) h _ _ E hs).2 rfl)
    intro el
    subst el
    have E := (if_neg (by decide)).symm.trans E
    have E := (if_pos rfl).symm.trans E
    refine ea_lload (pc := 6) dX12_common_6 1 rfl ?_
    refine ea_lconst (pc := 8) dX12_common_8 (v := 0) rfl ?_
    refine ea_lcmp (pc := 9) dX12_common_9 ?_
    refine ea_if_eq (pc := 10) (tgt := 31) dX12_common_10 rfl (fun c2 => ?_) (fun c2 => ?_)
    · have E := (if_pos c2).symm.trans E
      refine ea_lload (pc := 31) dX12_common_31 0 rfl ?_
      exact ea_lretO (pc := 33) dX12_common_33 rfl E
    · have E := (if_neg c2).symm.trans E
      refine ea_lload (pc := 13) dX12_common_13 0 rfl ?_
      refine ea_lload (pc := 15) dX12_common_15 1 rfl ?_
      obtain ⟨z1, E⟩ := gd_some E
      refine ea_lrem (pc := 17) dX12_common_17 z1 ?_
      refine ea_lstore (pc := 18) (lv' := [(6, vJ y6), (8, vJ (y4 - y4 / y6 * y6))]) dX12_common_18 (Nat.le_of_ble_eq_true rfl) [2, 0] rfl ?_
      refine ea_lload (pc := 20) dX12_common_20 0 rfl ?_
      refine ea_lstore (pc := 22) (lv' := [(4, vJ y6), (8, vJ (y4 - y4 / y6 * y6))]) dX12_common_22 (Nat.le_of_ble_eq_true rfl) [0, 2] rfl ?_
      refine ea_lload (pc := 24) dX12_common_24 1 rfl ?_
      refine ea_lstore (pc := 26) (lv' := [(4, vJ y6), (6, vJ (y4 - y4 / y6 * y6))]) dX12_common_26 (Nat.le_of_ble_eq_true rfl) [1, 0] rfl ?_
      refine ea_goto (pc := 28) (tgt := 6) dX12_common_28 rfl ?_
      exact ((ih 6 0 0 (y6 : Int64) ((y4 - y4 / y6 * y6) : Int64) h _ _ E hs).2 rfl)
noncomputable def qX12_common (b0 : Nat) (y0 : Int64) (y2 : Int64) (h : ea_H) : Option (Int64 × ea_H) := gX12_common b0 1000000000 0 y0 y2 0 0 h
def okX12_common (b0 : Nat) (y0 : Int64) (y2 : Int64) (h : ea_H) : Prop := ∃ x, qX12_common b0 y0 y2 h = some x
noncomputable def vX12_common (b0 : Nat) (y0 : Int64) (y2 : Int64) (h : ea_H) : Int64 := ((qX12_common b0 y0 y2 h).getD (0, h)).1
noncomputable def wX12_common (b0 : Nat) (y0 : Int64) (y2 : Int64) (h : ea_H) : ea_H := ((qX12_common b0 y0 y2 h).getD (0, h)).2
theorem sX12_common {d : Nat} {b0 : Nat} {y0 : Int64} {y2 : Int64} {h : ea_H} (hd : 1 ≤ d) (hs : ShM b0 h) (K : okX12_common b0 y0 y2 h) : ea_Met mX12_common d [vJ y0, vJ y2] h (some (vJ (vX12_common b0 y0 y2 h))) (wX12_common b0 y0 y2 h) := by
  obtain ⟨⟨x, y⟩, K⟩ := K
  unfold wX12_common vX12_common
  rw [K]
  unfold qX12_common at K
  exact ea_enter rfl (Nat.le_of_ble_eq_true rfl) ((tX12_common hd 1000000000 0 y0 y2 0 0 h x y K hs).1 rfl)
theorem zX12_common {b0 : Nat} : ∀ (f lbl : Nat) (y0 : Int64) (y2 : Int64) (y4 : Int64) (y6 : Int64) (h : ea_H) (r : Int64) (h' : ea_H), gX12_common b0 f lbl y0 y2 y4 y6 h = some (r, h') → ShM b0 h → ShM b0 h' := by
  intro f
  induction f with
  | zero => intro lbl y0 y2 y4 y6 h r h' E; cases E
  | succ f ih =>
    intro lbl y0 y2 y4 y6 h r h' E hs
    unfold gX12_common at E
    by_cases el0 : lbl = 0
    · have E := (if_pos el0).symm.trans E
      exact ih 6 0 0 (y0 : Int64) (y2 : Int64) h _ _ E hs
    have E := (if_neg el0).symm.trans E
    by_cases el1 : lbl = 6
    · have E := (if_pos el1).symm.trans E
      by_cases c2 : (lg_cmp y6 (0 : Int64)) = (0 : Int32)
      · have E := (if_pos c2).symm.trans E
        exact ea_shO E hs
      have E := (if_neg c2).symm.trans E
      obtain ⟨z1, E⟩ := gd_some E
      exact ih 6 0 0 (y6 : Int64) ((y4 - y4 / y6 * y6) : Int64) h _ _ E hs
    have E := (if_neg el1).symm.trans E
    cases E
theorem shX12_common {b0 : Nat} {y0 : Int64} {y2 : Int64} {h : ea_H} (hs : ShM b0 h) : ShM b0 (wX12_common b0 y0 y2 h) := by
  unfold wX12_common
  cases K : qX12_common b0 y0 y2 h with
  | none => exact hs
  | some x => obtain ⟨x, y⟩ := x; unfold qX12_common at K; exact zX12_common _ _ _ _ _ _ _ _ _ K hs
noncomputable def gX12_order (b0 : Nat) : Nat → Nat → Int32 → Int32 → Int32 → Int64 → Int64 → ea_H → Option (Int64 × ea_H)
  | 0, _, _, _, _, _, _, _ => none
  | f + 1, lbl, x1, x2, x7, y3, y5, h =>
    if lbl = 0 then (if (vX12_isLetterOf b0 (x1 : Int32) h) = (0 : Int32) then (some (((-1) : Int64), h)) else (if x2 = (0 : Int32) then (gd (vp_in x1 120) (some ((Int32.toInt64 (ea_i h (b0 + 70) (Int32.toNatClampNeg x1))), h))) else (if x2 = (1 : Int32) then (gX12_order b0 f 34 (x1 : Int32) (x2 : Int32) 0 0 0 h) else (if x2 = (2 : Int32) then (gX12_order b0 f 34 (x1 : Int32) (x2 : Int32) 0 0 0 h) else (gd (vp_in x1 120) (if (vX12_isIn (x2 : Int32) (10 : Int32) (((9 : Int32) + (ea_i h (b0 + 70) (Int32.toNatClampNeg x1))) : Int32) h) = (0 : Int32) then (gd (vp_in x1 120) (if (vX12_isIn (x2 : Int32) (20 : Int32) (((19 : Int32) + (ea_i h (b0 + 70) (Int32.toNatClampNeg x1))) : Int32) h) = (0 : Int32) then (some (((-1) : Int64), h)) else (gd ((okX12_ordered b0 (x1 : Int32) ((x2 - (20 : Int32)) : Int32) h)) (ea_let (wX12_ordered b0 (x1 : Int32) ((x2 - (20 : Int32)) : Int32) h) fun H8 => (gd (vp_in (vX12_ordered b0 (x1 : Int32) ((x2 - (20 : Int32)) : Int32) h) 480) (some ((Int32.toInt64 (ea_i H8 (b0 + 72) (Int32.toNatClampNeg (vX12_ordered b0 (x1 : Int32) ((x2 - (20 : Int32)) : Int32) h)))), H8))))))) else (gd ((okX12_ordered b0 (x1 : Int32) ((x2 - (10 : Int32)) : Int32) h)) (ea_let (wX12_ordered b0 (x1 : Int32) ((x2 - (10 : Int32)) : Int32) h) fun H13 => (gd (vp_in (vX12_ordered b0 (x1 : Int32) ((x2 - (10 : Int32)) : Int32) h) 480) (some ((Int32.toInt64 (ea_i H13 (b0 + 71) (Int32.toNatClampNeg (vX12_ordered b0 (x1 : Int32) ((x2 - (10 : Int32)) : Int32) h)))), H13))))))))))) else
    if lbl = 34 then (gd (vp_in x1 120) (if (ea_i h (b0 + 70) (Int32.toNatClampNeg x1)) = (0 : Int32) then (some (((-1) : Int64), h)) else (gX12_order b0 f 55 (x1 : Int32) (x2 : Int32) (0 : Int32) (1 : Int64) (1 : Int64) h))) else
    if lbl = 55 then (gd (vp_in x1 120) (if (ea_i h (b0 + 70) (Int32.toNatClampNeg x1)) ≤ x7 then (gd ((okX12_common b0 ((y3 - y5) : Int64) (y3 : Int64) h)) (ea_let (wX12_common b0 ((y3 - y5) : Int64) (y3 : Int64) h) fun H26 => (if x2 = (1 : Int32) then (gd ((¬ (vX12_common b0 ((y3 - y5) : Int64) (y3 : Int64) h) = 0)) (some (((y3 - y5) / (vX12_common b0 ((y3 - y5) : Int64) (y3 : Int64) h)), H26))) else (gd ((¬ (vX12_common b0 ((y3 - y5) : Int64) (y3 : Int64) h) = 0)) (some ((y3 / (vX12_common b0 ((y3 - y5) : Int64) (y3 : Int64) h)), H26)))))) else (gd (vp_in (((4 : Int32) * x1) + x7) 480) (gX12_order b0 f 55 (x1 : Int32) (x2 : Int32) ((x7 + (1 : Int32)) : Int32) ((y3 * (100 : Int64)) : Int64) ((y5 * (Int32.toInt64 ((100 : Int32) - (ea_i h (b0 + 72) (Int32.toNatClampNeg (((4 : Int32) * x1) + x7)))))) : Int64) h)))) else none
theorem tX12_order {d : Nat} {b0 : Nat} {h0 : ea_H} (hd : 3 ≤ d) : ∀ (f lbl : Nat) (x1 : Int32) (x2 : Int32) (x7 : Int32) (y3 : Int64) (y5 : Int64) (h : ea_H) (r : Int64) (h' : ea_H), gX12_order b0 f lbl x1 x2 x7 y3 y5 h = some (r, h') → ShM b0 h → (lbl = 0 → ea_W mX12_order d h0 (some (vJ r)) h' 0 [(0, vR (some (b0 + 0))), (1, vI x1), (2, vI x2)] [] h) ∧ (lbl = 34 → ea_W mX12_order d h0 (some (vJ r)) h' 34 [(0, vR (some (b0 + 0))), (1, vI x1), (2, vI x2)] [] h) ∧ (lbl = 55 → ea_W mX12_order d h0 (some (vJ r)) h' 55 [(0, vR (some (b0 + 0))), (1, vI x1), (2, vI x2), (3, vJ y3), (5, vJ y5), (7, vI x7)] [] h) := by
  intro f
  induction f with
  | zero => intro lbl x1 x2 x7 y3 y5 h r h' E; cases E
  | succ f ih =>
    intro lbl x1 x2 x7 y3 y5 h r h' E hs
    unfold gX12_order at E
    refine ⟨?_, ?_⟩
    · intro el
      subst el
      have E := (if_pos rfl).symm.trans E
      refine ea_aload_n (pc := 0) dX12_order_0 rfl 0 rfl ?_
      refine ea_iload_n (pc := 1) dX12_order_1 rfl 1 rfl ?_
      refine ea_callV (pc := 2) (d' := d - 1) (As := [vI x1]) (st := []) dX12_order_2 kX12_isLetterOf (sX12_isLetterOf (d := d - 1) (by omega) hs) (by omega) rfl (Nat.le_of_ble_eq_true rfl) ew_2019 ew_2021 ew_89 (ci := 12) rfl (by decide) (hs.1 0 (by decide)).1 (hs.1 0 (by decide)).2.1 ?_
      refine ea_if_ne (pc := 5) (tgt := 12) dX12_order_5 rfl (fun c20 => ?_) (fun c20 => ?_)
      · have E := (if_neg c20).symm.trans E
        refine ea_iload_n (pc := 12) dX12_order_12 rfl 2 rfl ?_
        refine ea_if_ne (pc := 13) (tgt := 24) dX12_order_13 rfl (fun c19 => ?_) (fun c19 => ?_)
        · have E := (if_neg c19).symm.trans E
          refine ea_iload_n (pc := 24) dX12_order_24 rfl 2 rfl ?_
          refine ea_iconst (pc := 25) dX12_order_25 (v := 1) rfl ?_
          refine ea_icmp_eq (pc := 26) (tgt := 34) dX12_order_26 rfl (fun c17 => ?_) (fun c17 => ?_)
          · have E := (if_pos c17).symm.trans E
            exact ((ih 34 (x1 : Int32) (x2 : Int32) 0 0 0 h _ _ E hs).2.1 rfl)
          · have E := (if_neg c17).symm.trans E
            refine ea_iload_n (pc := 29) dX12_order_29 rfl 2 rfl ?_
            refine ea_iconst (pc := 30) dX12_order_30 (v := 2) rfl ?_
            refine ea_icmp_ne (pc := 31) (tgt := 128) dX12_order_31 rfl (fun c16 => ?_) (fun c16 => ?_)
            · have E := (if_neg c16).symm.trans E
              refine ea_iload_n (pc := 128) dX12_order_128 rfl 2 rfl ?_
              refine ea_bipush (pc := 129) dX12_order_129 (v := 10) rfl ?_
              refine ea_bipush (pc := 131) dX12_order_131 (v := 9) rfl ?_
              refine ea_aload_n (pc := 133) dX12_order_133 rfl 0 rfl ?_
              refine ea_getR (pc := 134) dX12_order_134 ec_12 (k := 97) (Nat.le_of_ble_eq_true rfl) rfl (Or.inl ew_1442) (hs.1 0 (by decide)).1 (hs.1 0 (by decide)).2.1 (hs.2 0 97 rfl) ?_
              refine ea_iload_n (pc := 137) dX12_order_137 rfl 1 rfl ?_
              obtain ⟨z2, E⟩ := gd_some E
              refine ea_iald (pc := 138) dX12_order_138 (hs.1 70 (by decide)).1 (hs.1 70 (by decide)).2.1 (ea_vpl (hs.1 70 (by decide)).2.2 z2) ?_
              refine ea_iadd (pc := 139) dX12_order_139 ?_
              refine ea_callS (pc := 140) (d' := d - 1) (As := [vI x2, vI 10, vI ((9 : Int32) + (ea_i h (b0 + 70) (Int32.toNatClampNeg x1)))]) (st := []) dX12_order_140 kX12_isIn (sX12_isIn (d := d - 1) (by omega)) (by omega) rfl (Nat.le_of_ble_eq_true rfl) ew_1712 ew_1713 ?_
              refine ea_if_eq (pc := 143) (tgt := 162) dX12_order_143 rfl (fun c15 => ?_) (fun c15 => ?_)
              · have E := (if_pos c15).symm.trans E
                refine ea_iload_n (pc := 162) dX12_order_162 rfl 2 rfl ?_
                refine ea_bipush (pc := 163) dX12_order_163 (v := 20) rfl ?_
                refine ea_bipush (pc := 165) dX12_order_165 (v := 19) rfl ?_
                refine ea_aload_n (pc := 167) dX12_order_167 rfl 0 rfl ?_
                refine ea_getR (pc := 168) dX12_order_168 ec_12 (k := 97) (Nat.le_of_ble_eq_true rfl) rfl (Or.inl ew_1442) (hs.1 0 (by decide)).1 (hs.1 0 (by decide)).2.1 (hs.2 0 97 rfl) ?_
                refine ea_iload_n (pc := 171) dX12_order_171 rfl 1 rfl ?_
                obtain ⟨z4, E⟩ := gd_some E
                refine ea_iald (pc := 172) dX12_order_172 (hs.1 70 (by decide)).1 (hs.1 70 (by decide)).2.1 (ea_vpl (hs.1 70 (by decide)).2.2 z4) ?_
                refine ea_iadd (pc := 173) dX12_order_173 ?_
                refine ea_callS (pc := 174) (d' := d - 1) (As := [vI x2, vI 20, vI ((19 : Int32) + (ea_i h (b0 + 70) (Int32.toNatClampNeg x1)))]) (st := []) dX12_order_174 kX12_isIn (sX12_isIn (d := d - 1) (by omega)) (by omega) rfl (Nat.le_of_ble_eq_true rfl) ew_1712 ew_1713 ?_
                refine ea_if_eq (pc := 177) (tgt := 198) dX12_order_177 rfl (fun c10 => ?_) (fun c10 => ?_)
                · have E := (if_pos c10).symm.trans E
                  refine ea_ldc2 (pc := 198) dX12_order_198 ew_2118 ?_
                  exact ea_lretO (pc := 201) dX12_order_201 rfl E
                · have E := (if_neg c10).symm.trans E
                  refine ea_aload_n (pc := 180) dX12_order_180 rfl 0 rfl ?_
                  refine ea_getR (pc := 181) dX12_order_181 ec_12 (k := 99) (Nat.le_of_ble_eq_true rfl) rfl (Or.inl ew_1444) (hs.1 0 (by decide)).1 (hs.1 0 (by decide)).2.1 (hs.2 0 99 rfl) ?_
                  refine ea_aload_n (pc := 184) dX12_order_184 rfl 0 rfl ?_
                  refine ea_iload_n (pc := 185) dX12_order_185 rfl 1 rfl ?_
                  refine ea_iload_n (pc := 186) dX12_order_186 rfl 2 rfl ?_
                  refine ea_bipush (pc := 187) dX12_order_187 (v := 20) rfl ?_
                  refine ea_isub (pc := 189) dX12_order_189 ?_
                  obtain ⟨z6, E⟩ := gd_some E
                  refine ea_callV (pc := 190) (d' := d - 1) (As := [vI x1, vI (x2 - (20 : Int32))]) (st := [vR (some (b0 + 72))]) dX12_order_190 kX12_ordered (sX12_ordered (d := d - 1) (by omega) hs z6) (by omega) rfl (Nat.le_of_ble_eq_true rfl) ew_2123 ew_2125 ew_101 (ci := 12) rfl (by decide) (hs.1 0 (by decide)).1 (hs.1 0 (by decide)).2.1 ?_
                  have hs7 : ShM b0 (wX12_ordered b0 (x1 : Int32) ((x2 - (20 : Int32)) : Int32) h) := shX12_ordered hs
                  obtain ⟨H8, eH8, E⟩ := let_some E
                  refine ea_nm eH8 ?_
                  have hsH8 : ShM b0 H8 := by rw [eH8]; exact hs7
                  obtain ⟨z9, E⟩ := gd_some E
                  refine ea_iald (pc := 193) dX12_order_193 (hsH8.1 72 (by decide)).1 (hsH8.1 72 (by decide)).2.1 (ea_vpl (hsH8.1 72 (by decide)).2.2 z9) ?_
                  refine ea_i2l (pc := 194) dX12_order_194 ?_
                  refine ea_goto (pc := 195) (tgt := 201) dX12_order_195 rfl ?_
                  exact ea_lretO (pc := 201) dX12_order_201 rfl E
              · have E := (if_neg c15).symm.trans E
                refine ea_aload_n (pc := 146) dX12_order_146 rfl 0 rfl ?_
                refine ea_getR (pc := 147) dX12_order_147 ec_12 (k := 98) (Nat.le_of_ble_eq_true rfl) rfl (Or.inl ew_1443) (hs.1 0 (by decide)).1 (hs.1 0 (by decide)).2.1 (hs.2 0 98 rfl) ?_
                refine ea_aload_n (pc := 150) dX12_order_150 rfl 0 rfl ?_
                refine ea_iload_n (pc := 151) dX12_order_151 rfl 1 rfl ?_
                refine ea_iload_n (pc := 152) dX12_order_152 rfl 2 rfl ?_
                refine ea_bipush (pc := 153) dX12_order_153 (v := 10) rfl ?_
                refine ea_isub (pc := 155) dX12_order_155 ?_
                obtain ⟨z11, E⟩ := gd_some E
                refine ea_callV (pc := 156) (d' := d - 1) (As := [vI x1, vI (x2 - (10 : Int32))]) (st := [vR (some (b0 + 71))]) dX12_order_156 kX12_ordered (sX12_ordered (d := d - 1) (by omega) hs z11) (by omega) rfl (Nat.le_of_ble_eq_true rfl) ew_2123 ew_2125 ew_101 (ci := 12) rfl (by decide) (hs.1 0 (by decide)).1 (hs.1 0 (by decide)).2.1 ?_
                have hs12 : ShM b0 (wX12_ordered b0 (x1 : Int32) ((x2 - (10 : Int32)) : Int32) h) := shX12_ordered hs
                obtain ⟨H13, eH13, E⟩ := let_some E
                refine ea_nm eH13 ?_
                have hsH13 : ShM b0 H13 := by rw [eH13]; exact hs12
                obtain ⟨z14, E⟩ := gd_some E
                refine ea_iald (pc := 159) dX12_order_159 (hsH13.1 71 (by decide)).1 (hsH13.1 71 (by decide)).2.1 (ea_vpl (hsH13.1 71 (by decide)).2.2 z14) ?_
                refine ea_i2l (pc := 160) dX12_order_160 ?_
                exact ea_lretO (pc := 161) dX12_order_161 rfl E
            · have E := (if_pos c16).symm.trans E
              exact ((ih 34 (x1 : Int32) (x2 : Int32) 0 0 0 h _ _ E hs).2.1 rfl)
        · have E := (if_pos c19).symm.trans E
          refine ea_aload_n (pc := 16) dX12_order_16 rfl 0 rfl ?_
          refine ea_getR (pc := 17) dX12_order_17 ec_12 (k := 97) (Nat.le_of_ble_eq_true rfl) rfl (Or.inl ew_1442) (hs.1 0 (by decide)).1 (hs.1 0 (by decide)).2.1 (hs.2 0 97 rfl) ?_
          refine ea_iload_n (pc := 20) dX12_order_20 rfl 1 rfl ?_
          obtain ⟨z18, E⟩ := gd_some E
          refine ea_iald (pc := 21) dX12_order_21 (hs.1 70 (by decide)).1 (hs.1 70 (by decide)).2.1 (ea_vpl (hs.1 70 (by decide)).2.2 z18) ?_
          refine ea_i2l (pc := 22) dX12_order_22 ?_
          exact ea_lretO (pc := 23) dX12_order_23 rfl E
      · have E := (if_pos c20).symm.trans E
        refine ea_ldc2 (pc := 8) dX12_order_8 ew_2118 ?_
        exact ea_lretO (pc := 11) dX12_order_11 rfl E
    refine ⟨?_, ?_⟩
    · intro el
      subst el
      have E := (if_neg (by decide)).symm.trans E
      have E := (if_pos rfl).symm.trans E
      refine ea_aload_n (pc := 34) dX12_order_34 rfl 0 rfl ?_
      refine ea_getR (pc := 35) dX12_order_35 ec_12 (k := 97) (Nat.le_of_ble_eq_true rfl) rfl (Or.inl ew_1442) (hs.1 0 (by decide)).1 (hs.1 0 (by decide)).2.1 (hs.2 0 97 rfl) ?_
      refine ea_iload_n (pc := 38) dX12_order_38 rfl 1 rfl ?_
      obtain ⟨z21, E⟩ := gd_some E
      refine ea_iald (pc := 39) dX12_order_39 (hs.1 70 (by decide)).1 (hs.1 70 (by decide)).2.1 (ea_vpl (hs.1 70 (by decide)).2.2 z21) ?_
      refine ea_if_ne (pc := 40) (tgt := 47) dX12_order_40 rfl (fun c22 => ?_) (fun c22 => ?_)
      · have E := (if_neg c22).symm.trans E
        refine ea_lconst (pc := 47) dX12_order_47 (v := 1) rfl ?_
        refine ea_lstore_n (pc := 48) (lv' := [(0, vR (some (b0 + 0))), (1, vI x1), (2, vI x2), (3, vJ 1)]) dX12_order_48 rfl (Nat.le_of_ble_eq_true rfl) [1, 2, 3, 0] rfl ?_
        refine ea_lconst (pc := 49) dX12_order_49 (v := 1) rfl ?_
        refine ea_lstore (pc := 50) (lv' := [(0, vR (some (b0 + 0))), (1, vI x1), (2, vI x2), (3, vJ 1), (5, vJ 1)]) dX12_order_50 (Nat.le_of_ble_eq_true rfl) [1, 2, 3, 4, 0] rfl ?_
        refine ea_iconst (pc := 52) dX12_order_52 (v := 0) rfl ?_
        refine ea_istore (pc := 53) (lv' := [(0, vR (some (b0 + 0))), (1, vI x1), (2, vI x2), (3, vJ 1), (5, vJ 1), (7, vI 0)]) dX12_order_53 (Nat.le_of_ble_eq_true rfl) [1, 2, 3, 4, 5, 0] rfl ?_
        exact ((ih 55 (x1 : Int32) (x2 : Int32) (0 : Int32) (1 : Int64) (1 : Int64) h _ _ E hs).2.2 rfl)
      · have E := (if_pos c22).symm.trans E
        refine ea_ldc2 (pc := 43) dX12_order_43 ew_2118 ?_
        exact ea_lretO (pc := 46) dX12_order_46 rfl E
    intro el
    subst el
    have E := (if_neg (by decide)).symm.trans E
    have E := (if_neg (by decide)).symm.trans E
    have E := (if_pos rfl).symm.trans E
    refine ea_iload (pc := 55) dX12_order_55 5 rfl ?_
    refine ea_aload_n (pc := 57) dX12_order_57 rfl 0 rfl ?_
    refine ea_getR (pc := 58) dX12_order_58 ec_12 (k := 97) (Nat.le_of_ble_eq_true rfl) rfl (Or.inl ew_1442) (hs.1 0 (by decide)).1 (hs.1 0 (by decide)).2.1 (hs.2 0 97 rfl) ?_
    refine ea_iload_n (pc := 61) dX12_order_61 rfl 1 rfl ?_
    obtain ⟨z23, E⟩ := gd_some E
    refine ea_iald (pc := 62) dX12_order_62 (hs.1 70 (by decide)).1 (hs.1 70 (by decide)).2.1 (ea_vpl (hs.1 70 (by decide)).2.2 z23) ?_
    refine ea_icmp_ge (pc := 63) (tgt := 98) dX12_order_63 rfl (fun c31 => ?_) (fun c31 => ?_)
    · have E := (if_pos c31).symm.trans E
      refine ea_lload_n (pc := 98) dX12_order_98 rfl 3 rfl ?_
      refine ea_lload (pc := 99) dX12_order_99 4 rfl ?_
      refine ea_lsub (pc := 101) dX12_order_101 ?_
      refine ea_lload_n (pc := 102) dX12_order_102 rfl 3 rfl ?_
      obtain ⟨z24, E⟩ := gd_some E
      refine ea_callS (pc := 103) (d' := d - 1) (As := [vJ (y3 - y5), vJ y3]) (st := []) dX12_order_103 kX12_common (sX12_common (d := d - 1) (by omega) hs z24) (by omega) rfl (Nat.le_of_ble_eq_true rfl) ew_2120 ew_2121 ?_
      have hs25 : ShM b0 (wX12_common b0 ((y3 - y5) : Int64) (y3 : Int64) h) := shX12_common hs
      obtain ⟨H26, eH26, E⟩ := let_some E
      refine ea_nm eH26 ?_
      have hsH26 : ShM b0 H26 := by rw [eH26]; exact hs25
      refine ea_lstore (pc := 106) (lv' := [(2, vI x2), (3, vJ y3), (5, vJ y5), (7, vJ (vX12_common b0 ((y3 - y5) : Int64) (y3 : Int64) h))]) dX12_order_106 (Nat.le_of_ble_eq_true rfl) [3, 4, 5, 0] rfl ?_
      refine ea_iload_n (pc := 108) dX12_order_108 rfl 0 rfl ?_
      refine ea_iconst (pc := 109) dX12_order_109 (v := 1) rfl ?_
      refine ea_icmp_ne (pc := 110) (tgt := 123) dX12_order_110 rfl (fun c29 => ?_) (fun c29 => ?_)
      · have E := (if_neg c29).symm.trans E
        refine ea_lload_n (pc := 123) dX12_order_123 rfl 1 rfl ?_
        refine ea_lload (pc := 124) dX12_order_124 3 rfl ?_
        obtain ⟨z27, E⟩ := gd_some E
        refine ea_ldiv (pc := 126) dX12_order_126 z27 ?_
        exact ea_lretO (pc := 127) dX12_order_127 rfl E
      · have E := (if_pos c29).symm.trans E
        refine ea_lload_n (pc := 113) dX12_order_113 rfl 1 rfl ?_
        refine ea_lload (pc := 114) dX12_order_114 2 rfl ?_
        refine ea_lsub (pc := 116) dX12_order_116 ?_
        refine ea_lload (pc := 117) dX12_order_117 3 rfl ?_
        obtain ⟨z28, E⟩ := gd_some E
        refine ea_ldiv (pc := 119) dX12_order_119 z28 ?_
        refine ea_goto (pc := 120) (tgt := 127) dX12_order_120 rfl ?_
        exact ea_lretO (pc := 127) dX12_order_127 rfl E
    · have E := (if_neg c31).symm.trans E
      refine ea_lload_n (pc := 66) dX12_order_66 rfl 3 rfl ?_
      refine ea_ldc2 (pc := 67) dX12_order_67 ew_2119 ?_
      refine ea_lmul (pc := 70) dX12_order_70 ?_
      refine ea_lstore_n (pc := 71) (lv' := [(0, vR (some (b0 + 0))), (1, vI x1), (2, vI x2), (3, vJ (y3 * (100 : Int64))), (5, vJ y5), (7, vI x7)]) dX12_order_71 rfl (Nat.le_of_ble_eq_true rfl) [1, 2, 3, 0, 4, 5] rfl ?_
      refine ea_lload (pc := 72) dX12_order_72 4 rfl ?_
      refine ea_bipush (pc := 74) dX12_order_74 (v := 100) rfl ?_
      refine ea_aload_n (pc := 76) dX12_order_76 rfl 0 rfl ?_
      refine ea_getR (pc := 77) dX12_order_77 ec_12 (k := 99) (Nat.le_of_ble_eq_true rfl) rfl (Or.inl ew_1444) (hs.1 0 (by decide)).1 (hs.1 0 (by decide)).2.1 (hs.2 0 99 rfl) ?_
      refine ea_iconst (pc := 80) dX12_order_80 (v := 4) rfl ?_
      refine ea_iload_n (pc := 81) dX12_order_81 rfl 1 rfl ?_
      refine ea_imul (pc := 82) dX12_order_82 ?_
      refine ea_iload (pc := 83) dX12_order_83 5 rfl ?_
      refine ea_iadd (pc := 85) dX12_order_85 ?_
      obtain ⟨z30, E⟩ := gd_some E
      refine ea_iald (pc := 86) dX12_order_86 (hs.1 72 (by decide)).1 (hs.1 72 (by decide)).2.1 (ea_vpl (hs.1 72 (by decide)).2.2 z30) ?_
      refine ea_isub (pc := 87) dX12_order_87 ?_
      refine ea_i2l (pc := 88) dX12_order_88 ?_
      refine ea_lmul (pc := 89) dX12_order_89 ?_
      refine ea_lstore (pc := 90) (lv' := [(0, vR (some (b0 + 0))), (1, vI x1), (2, vI x2), (3, vJ (y3 * (100 : Int64))), (5, vJ (y5 * (Int32.toInt64 ((100 : Int32) - (ea_i h (b0 + 72) (Int32.toNatClampNeg (((4 : Int32) * x1) + x7))))))), (7, vI x7)]) dX12_order_90 (Nat.le_of_ble_eq_true rfl) [1, 2, 3, 4, 0, 5] rfl ?_
      refine ea_iinc (pc := 92) (v := 1) (lv' := [(0, vR (some (b0 + 0))), (1, vI x1), (2, vI x2), (3, vJ (y3 * (100 : Int64))), (5, vJ (y5 * (Int32.toInt64 ((100 : Int32) - (ea_i h (b0 + 72) (Int32.toNatClampNeg (((4 : Int32) * x1) + x7))))))), (7, vI (x7 + (1 : Int32)))]) dX12_order_92 5 rfl rfl (Nat.le_of_ble_eq_true rfl) [1, 2, 3, 4, 5, 0] rfl ?_
      refine ea_goto (pc := 95) (tgt := 55) dX12_order_95 rfl ?_
      exact ((ih 55 (x1 : Int32) (x2 : Int32) ((x7 + (1 : Int32)) : Int32) ((y3 * (100 : Int64)) : Int64) ((y5 * (Int32.toInt64 ((100 : Int32) - (ea_i h (b0 + 72) (Int32.toNatClampNeg (((4 : Int32) * x1) + x7)))))) : Int64) h _ _ E hs).2.2 rfl)
noncomputable def qX12_order (b0 : Nat) (x1 : Int32) (x2 : Int32) (h : ea_H) : Option (Int64 × ea_H) := gX12_order b0 1000000000 0 x1 x2 0 0 0 h
def okX12_order (b0 : Nat) (x1 : Int32) (x2 : Int32) (h : ea_H) : Prop := ∃ x, qX12_order b0 x1 x2 h = some x
noncomputable def vX12_order (b0 : Nat) (x1 : Int32) (x2 : Int32) (h : ea_H) : Int64 := ((qX12_order b0 x1 x2 h).getD (0, h)).1
noncomputable def wX12_order (b0 : Nat) (x1 : Int32) (x2 : Int32) (h : ea_H) : ea_H := ((qX12_order b0 x1 x2 h).getD (0, h)).2
theorem sX12_order {d : Nat} {b0 : Nat} {x1 : Int32} {x2 : Int32} {h : ea_H} (hd : 3 ≤ d) (hs : ShM b0 h) (K : okX12_order b0 x1 x2 h) : ea_Met mX12_order d [vR (some (b0 + 0)), vI x1, vI x2] h (some (vJ (vX12_order b0 x1 x2 h))) (wX12_order b0 x1 x2 h) := by
  obtain ⟨⟨x, y⟩, K⟩ := K
  unfold wX12_order vX12_order
  rw [K]
  unfold qX12_order at K
  exact ea_enter rfl (Nat.le_of_ble_eq_true rfl) ((tX12_order hd 1000000000 0 x1 x2 0 0 0 h x y K hs).1 rfl)
