/-! the reference, 2 -/
theorem zX12_where {b0 : Nat} : ∀ (f lbl : Nat) (x1 : Int32) (x2 : Int32) (x3 : Int32) (x4 : Int32) (h : ea_H) (r : Int32) (h' : ea_H), gX12_where b0 f lbl x1 x2 x3 x4 h = some (r, h') → ShM b0 h → ShM b0 h' := by
  intro f
  induction f with
  | zero => intro lbl x1 x2 x3 x4 h r h' E; cases E
  | succ f ih =>
    intro lbl x1 x2 x3 x4 h r h' E hs
    unfold gX12_where at E
    by_cases el0 : lbl = 0
    · have E := (if_pos el0).symm.trans E
      by_cases c8 : (vX12_isLetterOf b0 (x1 : Int32) h) = (0 : Int32)
      · have E := (if_pos c8).symm.trans E
        cases E
        exact hs
      have E := (if_neg c8).symm.trans E
      obtain ⟨z2, E⟩ := gd_some E
      by_cases c7 : (vX12_isIn (x2 : Int32) ((ea_i h (b0 + 44) (Int32.toNatClampNeg x1)) : Int32) ((ea_i h (b0 + 0) 0) : Int32) h) = (0 : Int32)
      · have E := (if_pos c7).symm.trans E
        cases E
        exact hs
      have E := (if_neg c7).symm.trans E
      by_cases c6 : (vX12_isIn (x3 : Int32) (0 : Int32) (1 : Int32) h) = (0 : Int32)
      · have E := (if_pos c6).symm.trans E
        cases E
        exact hs
      have E := (if_neg c6).symm.trans E
      obtain ⟨z5, E⟩ := gd_some E
      exact ih 46 (x1 : Int32) (x2 : Int32) (x3 : Int32) (((ea_i h (b0 + 50) (Int32.toNatClampNeg x1)) - (1 : Int32)) : Int32) h _ _ E hs
    have E := (if_neg el0).symm.trans E
    by_cases el1 : lbl = 46
    · have E := (if_pos el1).symm.trans E
      obtain ⟨z9, E⟩ := gd_some E
      by_cases c13 : (ea_i h (b0 + 62) (Int32.toNatClampNeg (((1000 : Int32) * x1) + x4))) ≤ x2
      · have E := (if_pos c13).symm.trans E
        by_cases c12 : x3 = (0 : Int32)
        · have E := (if_pos c12).symm.trans E
          obtain ⟨z11, E⟩ := gd_some E
          cases E
          exact hs
        have E := (if_neg c12).symm.trans E
        obtain ⟨z10, E⟩ := gd_some E
        cases E
        exact hs
      have E := (if_neg c13).symm.trans E
      exact ih 46 (x1 : Int32) (x2 : Int32) (x3 : Int32) ((x4 + ((-1) : Int32)) : Int32) h _ _ E hs
    have E := (if_neg el1).symm.trans E
    cases E
theorem shX12_where {b0 : Nat} {x1 : Int32} {x2 : Int32} {x3 : Int32} {h : ea_H} (hs : ShM b0 h) : ShM b0 (wX12_where b0 x1 x2 x3 h) := by
  unfold wX12_where
  cases K : qX12_where b0 x1 x2 x3 h with
  | none => exact hs
  | some x => obtain ⟨x, y⟩ := x; unfold qX12_where at K; exact zX12_where _ _ _ _ _ _ _ _ _ K hs
noncomputable def vX12_sorter (b0 : Nat) (x1 : Int32) (x2 : Int32) (h : ea_H) : Int32 := (if (vX12_isIn (x1 : Int32) (1 : Int32) (99 : Int32) h) = (0 : Int32) then ((-1) : Int32) else (if (vX12_isIn (x2 : Int32) (0 : Int32) (4095 : Int32) h) = (0 : Int32) then ((-1) : Int32) else (if (ea_i h (b0 + 0) 92) = (8 : Int32) then ((-1) : Int32) else ((ea_i (ea_wi (ea_wi (ea_wi h (b0 + 66) (Int32.toNatClampNeg (ea_i h (b0 + 0) 92)) x1) (b0 + 67) (Int32.toNatClampNeg (ea_i (ea_wi h (b0 + 66) (Int32.toNatClampNeg (ea_i h (b0 + 0) 92)) x1) (b0 + 0) 92)) x2) (b0 + 0) 92 ((ea_i (ea_wi (ea_wi h (b0 + 66) (Int32.toNatClampNeg (ea_i h (b0 + 0) 92)) x1) (b0 + 67) (Int32.toNatClampNeg (ea_i (ea_wi h (b0 + 66) (Int32.toNatClampNeg (ea_i h (b0 + 0) 92)) x1) (b0 + 0) 92)) x2) (b0 + 0) 92) + (1 : Int32))) (b0 + 0) 92) - (1 : Int32)))))
noncomputable def wX12_sorter (b0 : Nat) (x1 : Int32) (x2 : Int32) (h : ea_H) : ea_H := (if (vX12_isIn (x1 : Int32) (1 : Int32) (99 : Int32) h) = (0 : Int32) then h else (if (vX12_isIn (x2 : Int32) (0 : Int32) (4095 : Int32) h) = (0 : Int32) then h else (if (ea_i h (b0 + 0) 92) = (8 : Int32) then h else (ea_wi (ea_wi (ea_wi h (b0 + 66) (Int32.toNatClampNeg (ea_i h (b0 + 0) 92)) x1) (b0 + 67) (Int32.toNatClampNeg (ea_i (ea_wi h (b0 + 66) (Int32.toNatClampNeg (ea_i h (b0 + 0) 92)) x1) (b0 + 0) 92)) x2) (b0 + 0) 92 ((ea_i (ea_wi (ea_wi h (b0 + 66) (Int32.toNatClampNeg (ea_i h (b0 + 0) 92)) x1) (b0 + 67) (Int32.toNatClampNeg (ea_i (ea_wi h (b0 + 66) (Int32.toNatClampNeg (ea_i h (b0 + 0) 92)) x1) (b0 + 0) 92)) x2) (b0 + 0) 92) + (1 : Int32))))))
def okX12_sorter (b0 : Nat) (x1 : Int32) (x2 : Int32) (h : ea_H) : Prop := ((vX12_isIn (x1 : Int32) (1 : Int32) (99 : Int32) h) = (0 : Int32) → True) ∧ (¬ (vX12_isIn (x1 : Int32) (1 : Int32) (99 : Int32) h) = (0 : Int32) → ((vX12_isIn (x2 : Int32) (0 : Int32) (4095 : Int32) h) = (0 : Int32) → True) ∧ (¬ (vX12_isIn (x2 : Int32) (0 : Int32) (4095 : Int32) h) = (0 : Int32) → ((ea_i h (b0 + 0) 92) = (8 : Int32) → True) ∧ (¬ (ea_i h (b0 + 0) 92) = (8 : Int32) → vp_in (ea_i h (b0 + 0) 92) 8 ∧ (vp_in (ea_i (ea_wi h (b0 + 66) (Int32.toNatClampNeg (ea_i h (b0 + 0) 92)) x1) (b0 + 0) 92) 8))))
theorem shX12_sorter {b0 : Nat} {x1 : Int32} {x2 : Int32} {h : ea_H} (hs : ShM b0 h) : ShM b0 (wX12_sorter b0 x1 x2 h) := (ShM_it hs (ShM_it hs (ShM_it hs (ShM_wi (ShM_wi (ShM_wi hs))))))
theorem sX12_sorter {d : Nat} {b0 : Nat} {x1 : Int32} {x2 : Int32} {h : ea_H} (hd : 2 ≤ d) (hs : ShM b0 h) (K : okX12_sorter b0 x1 x2 h) : ea_Met mX12_sorter d [vR (some (b0 + 0)), vI x1, vI x2] h (some (vI (vX12_sorter b0 x1 x2 h))) (wX12_sorter b0 x1 x2 h) := by
  obtain ⟨X, EX⟩ : ∃ z, z = vX12_sorter b0 x1 x2 h := ⟨_, rfl⟩
  rw [← EX]
  unfold vX12_sorter at EX
  obtain ⟨Y, EY⟩ : ∃ z, z = wX12_sorter b0 x1 x2 h := ⟨_, rfl⟩
  rw [← EY]
  unfold wX12_sorter at EY
  unfold okX12_sorter at K
  refine ea_enter rfl (Nat.le_of_ble_eq_true rfl) ?_
  refine ea_iload_n (pc := 0) dX12_sorter_0 rfl 1 rfl ?_
  refine ea_iconst (pc := 1) dX12_sorter_1 (v := 1) rfl ?_
  refine ea_bipush (pc := 2) dX12_sorter_2 (v := 99) rfl ?_
  refine ea_callS (pc := 4) (d' := d - 1) (As := [vI x1, vI 1, vI 99]) (st := []) dX12_sorter_4 kX12_isIn (sX12_isIn (d := d - 1) (by omega)) (by omega) rfl (Nat.le_of_ble_eq_true rfl) ew_1712 ew_1713 ?_
  refine ea_if_eq (pc := 7) (tgt := 30) dX12_sorter_7 rfl (fun c10 => ?_) (fun c10 => ?_)
  · have EX := EX.trans (if_pos c10)
    have EY := EY.trans (if_pos c10)
    refine ea_iconst (pc := 30) dX12_sorter_30 (v := (-1)) rfl ?_
    subst EX
    subst EY
    exact ea_ireturn (pc := 31) dX12_sorter_31 rfl rfl
  · have EX := EX.trans (if_neg c10)
    have EY := EY.trans (if_neg c10)
    have K := K.2 c10
    refine ea_iload_n (pc := 10) dX12_sorter_10 rfl 2 rfl ?_
    refine ea_iconst (pc := 11) dX12_sorter_11 (v := 0) rfl ?_
    refine ea_sipush (pc := 12) dX12_sorter_12 (v := 4095) rfl ?_
    refine ea_callS (pc := 15) (d' := d - 1) (As := [vI x2, vI 0, vI 4095]) (st := []) dX12_sorter_15 kX12_isIn (sX12_isIn (d := d - 1) (by omega)) (by omega) rfl (Nat.le_of_ble_eq_true rfl) ew_1712 ew_1713 ?_
    refine ea_if_eq (pc := 18) (tgt := 30) dX12_sorter_18 rfl (fun c9 => ?_) (fun c9 => ?_)
    · have EX := EX.trans (if_pos c9)
      have EY := EY.trans (if_pos c9)
      refine ea_iconst (pc := 30) dX12_sorter_30 (v := (-1)) rfl ?_
      subst EX
      subst EY
      exact ea_ireturn (pc := 31) dX12_sorter_31 rfl rfl
    · have EX := EX.trans (if_neg c9)
      have EY := EY.trans (if_neg c9)
      have K := K.2 c9
      refine ea_aload_n (pc := 21) dX12_sorter_21 rfl 0 rfl ?_
      refine ea_getI (pc := 22) dX12_sorter_22 ec_12 (k := 92) (Nat.le_of_ble_eq_true rfl) rfl (Or.inl ew_1437) (hs.1 0 (by decide)).1 (hs.1 0 (by decide)).2.1 ?_
      refine ea_bipush (pc := 25) dX12_sorter_25 (v := 8) rfl ?_
      refine ea_icmp_ne (pc := 27) (tgt := 32) dX12_sorter_27 rfl (fun c8 => ?_) (fun c8 => ?_)
      · have EX := EX.trans (if_neg c8)
        have EY := EY.trans (if_neg c8)
        have K := K.2 c8
        refine ea_aload_n (pc := 32) dX12_sorter_32 rfl 0 rfl ?_
        refine ea_getR (pc := 33) dX12_sorter_33 ec_12 (k := 93) (Nat.le_of_ble_eq_true rfl) rfl (Or.inl ew_1438) (hs.1 0 (by decide)).1 (hs.1 0 (by decide)).2.1 (hs.2 0 93 rfl) ?_
        refine ea_aload_n (pc := 36) dX12_sorter_36 rfl 0 rfl ?_
        refine ea_getI (pc := 37) dX12_sorter_37 ec_12 (k := 92) (Nat.le_of_ble_eq_true rfl) rfl (Or.inl ew_1437) (hs.1 0 (by decide)).1 (hs.1 0 (by decide)).2.1 ?_
        refine ea_iload_n (pc := 40) dX12_sorter_40 rfl 1 rfl ?_
        obtain ⟨z3, K⟩ := K
        refine ea_iast (pc := 41) dX12_sorter_41 (hs.1 66 (by decide)).1 (hs.1 66 (by decide)).2.1 (ea_vpl (hs.1 66 (by decide)).2.2 z3) ?_
        have hs4 : ShM b0 (ea_wi h (b0 + 66) (Int32.toNatClampNeg (ea_i h (b0 + 0) 92)) x1) := ShM_wi hs
        refine ea_aload_n (pc := 42) dX12_sorter_42 rfl 0 rfl ?_
        refine ea_getR (pc := 43) dX12_sorter_43 ec_12 (k := 94) (Nat.le_of_ble_eq_true rfl) rfl (Or.inl ew_1439) (hs4.1 0 (by decide)).1 (hs4.1 0 (by decide)).2.1 (hs4.2 0 94 rfl) ?_
        refine ea_aload_n (pc := 46) dX12_sorter_46 rfl 0 rfl ?_
        refine ea_getI (pc := 47) dX12_sorter_47 ec_12 (k := 92) (Nat.le_of_ble_eq_true rfl) rfl (Or.inl ew_1437) (hs4.1 0 (by decide)).1 (hs4.1 0 (by decide)).2.1 ?_
        refine ea_iload_n (pc := 50) dX12_sorter_50 rfl 2 rfl ?_
        have z5 := K
        refine ea_iast (pc := 51) dX12_sorter_51 (hs4.1 67 (by decide)).1 (hs4.1 67 (by decide)).2.1 (ea_vpl (hs4.1 67 (by decide)).2.2 z5) ?_
        have hs6 : ShM b0 (ea_wi (ea_wi h (b0 + 66) (Int32.toNatClampNeg (ea_i h (b0 + 0) 92)) x1) (b0 + 67) (Int32.toNatClampNeg (ea_i (ea_wi h (b0 + 66) (Int32.toNatClampNeg (ea_i h (b0 + 0) 92)) x1) (b0 + 0) 92)) x2) := ShM_wi hs4
        refine ea_aload_n (pc := 52) dX12_sorter_52 rfl 0 rfl ?_
        refine ea_dup (pc := 53) dX12_sorter_53 rfl ?_
        refine ea_getI (pc := 54) dX12_sorter_54 ec_12 (k := 92) (Nat.le_of_ble_eq_true rfl) rfl (Or.inl ew_1437) (hs6.1 0 (by decide)).1 (hs6.1 0 (by decide)).2.1 ?_
        refine ea_iconst (pc := 57) dX12_sorter_57 (v := 1) rfl ?_
        refine ea_iadd (pc := 58) dX12_sorter_58 ?_
        refine ea_putI (pc := 59) dX12_sorter_59 ec_12 (k := 92) (Nat.le_of_ble_eq_true rfl) rfl (Or.inl ⟨rfl, Or.inl ew_1437⟩) rfl rfl (hs6.1 0 (by decide)).1 (hs6.1 0 (by decide)).2.1 ?_
        have hs7 : ShM b0 (ea_wi (ea_wi (ea_wi h (b0 + 66) (Int32.toNatClampNeg (ea_i h (b0 + 0) 92)) x1) (b0 + 67) (Int32.toNatClampNeg (ea_i (ea_wi h (b0 + 66) (Int32.toNatClampNeg (ea_i h (b0 + 0) 92)) x1) (b0 + 0) 92)) x2) (b0 + 0) 92 ((ea_i (ea_wi (ea_wi h (b0 + 66) (Int32.toNatClampNeg (ea_i h (b0 + 0) 92)) x1) (b0 + 67) (Int32.toNatClampNeg (ea_i (ea_wi h (b0 + 66) (Int32.toNatClampNeg (ea_i h (b0 + 0) 92)) x1) (b0 + 0) 92)) x2) (b0 + 0) 92) + (1 : Int32))) := ShM_wi hs6
        refine ea_aload_n (pc := 62) dX12_sorter_62 rfl 0 rfl ?_
        refine ea_getI (pc := 63) dX12_sorter_63 ec_12 (k := 92) (Nat.le_of_ble_eq_true rfl) rfl (Or.inl ew_1437) (hs7.1 0 (by decide)).1 (hs7.1 0 (by decide)).2.1 ?_
        refine ea_iconst (pc := 66) dX12_sorter_66 (v := 1) rfl ?_
        refine ea_isub (pc := 67) dX12_sorter_67 ?_
        subst EX
        subst EY
        exact ea_ireturn (pc := 68) dX12_sorter_68 rfl rfl
      · have EX := EX.trans (if_pos c8)
        have EY := EY.trans (if_pos c8)
        refine ea_iconst (pc := 30) dX12_sorter_30 (v := (-1)) rfl ?_
        subst EX
        subst EY
        exact ea_ireturn (pc := 31) dX12_sorter_31 rfl rfl
noncomputable def vX12_seat (b0 : Nat) (x1 : Int32) (x2 : Int32) (h : ea_H) : Int32 := (if (vX12_isIn (x1 : Int32) (0 : Int32) (((ea_i h (b0 + 0) 92) - (1 : Int32)) : Int32) h) = (0 : Int32) then (0 : Int32) else (if x2 = ((-1) : Int32) then (1 : Int32) else (if (vX12_isTrain b0 (x2 : Int32) h) = (0 : Int32) then (0 : Int32) else (1 : Int32))))
noncomputable def wX12_seat (b0 : Nat) (x1 : Int32) (x2 : Int32) (h : ea_H) : ea_H := (if (vX12_isIn (x1 : Int32) (0 : Int32) (((ea_i h (b0 + 0) 92) - (1 : Int32)) : Int32) h) = (0 : Int32) then h else (if x2 = ((-1) : Int32) then (ea_wi h (b0 + 68) (Int32.toNatClampNeg x1) x2) else (if (vX12_isTrain b0 (x2 : Int32) h) = (0 : Int32) then h else (ea_wi h (b0 + 68) (Int32.toNatClampNeg x1) x2))))
def okX12_seat (b0 : Nat) (x1 : Int32) (x2 : Int32) (h : ea_H) : Prop := ((vX12_isIn (x1 : Int32) (0 : Int32) (((ea_i h (b0 + 0) 92) - (1 : Int32)) : Int32) h) = (0 : Int32) → True) ∧ (¬ (vX12_isIn (x1 : Int32) (0 : Int32) (((ea_i h (b0 + 0) 92) - (1 : Int32)) : Int32) h) = (0 : Int32) → (x2 = ((-1) : Int32) → vp_in x1 8) ∧ (¬ x2 = ((-1) : Int32) → ((vX12_isTrain b0 (x2 : Int32) h) = (0 : Int32) → True) ∧ (¬ (vX12_isTrain b0 (x2 : Int32) h) = (0 : Int32) → vp_in x1 8)))
theorem bo_vX12_seat (b0 : Nat) (x1 : Int32) (x2 : Int32) (h : ea_H) : vX12_seat b0 x1 x2 h = 0 ∨ vX12_seat b0 x1 x2 h = 1 := (ea_itB (Or.inl rfl) (ea_itB (Or.inr rfl) (ea_itB (Or.inl rfl) (Or.inr rfl))))
theorem shX12_seat {b0 : Nat} {x1 : Int32} {x2 : Int32} {h : ea_H} (hs : ShM b0 h) : ShM b0 (wX12_seat b0 x1 x2 h) := (ShM_it hs (ShM_it (ShM_wi hs) (ShM_it hs (ShM_wi hs))))
theorem sX12_seat {d : Nat} {b0 : Nat} {x1 : Int32} {x2 : Int32} {h : ea_H} (hd : 3 ≤ d) (hs : ShM b0 h) (K : okX12_seat b0 x1 x2 h) : ea_Met mX12_seat d [vR (some (b0 + 0)), vI x1, vI x2] h (some (vI (vX12_seat b0 x1 x2 h))) (wX12_seat b0 x1 x2 h) := by
  obtain ⟨X, EX⟩ : ∃ z, z = vX12_seat b0 x1 x2 h := ⟨_, rfl⟩
  rw [← EX]
  unfold vX12_seat at EX
  obtain ⟨Y, EY⟩ : ∃ z, z = wX12_seat b0 x1 x2 h := ⟨_, rfl⟩
  rw [← EY]
  unfold wX12_seat at EY
  unfold okX12_seat at K
  refine ea_enter rfl (Nat.le_of_ble_eq_true rfl) ?_
  refine ea_iload_n (pc := 0) dX12_seat_0 rfl 1 rfl ?_
  refine ea_iconst (pc := 1) dX12_seat_1 (v := 0) rfl ?_
  refine ea_aload_n (pc := 2) dX12_seat_2 rfl 0 rfl ?_
  refine ea_getI (pc := 3) dX12_seat_3 ec_12 (k := 92) (Nat.le_of_ble_eq_true rfl) rfl (Or.inl ew_1437) (hs.1 0 (by decide)).1 (hs.1 0 (by decide)).2.1 ?_
  refine ea_iconst (pc := 6) dX12_seat_6 (v := 1) rfl ?_
  refine ea_isub (pc := 7) dX12_seat_7 ?_
  refine ea_callS (pc := 8) (d' := d - 1) (As := [vI x1, vI 0, vI ((ea_i h (b0 + 0) 92) - (1 : Int32))]) (st := []) dX12_seat_8 kX12_isIn (sX12_isIn (d := d - 1) (by omega)) (by omega) rfl (Nat.le_of_ble_eq_true rfl) ew_1712 ew_1713 ?_
  refine ea_if_eq (pc := 11) (tgt := 27) dX12_seat_11 rfl (fun c9 => ?_) (fun c9 => ?_)
  · have EX := EX.trans (if_pos c9)
    have EY := EY.trans (if_pos c9)
    refine ea_iconst (pc := 27) dX12_seat_27 (v := 0) rfl ?_
    subst EX
    subst EY
    exact ea_ireturn (pc := 28) dX12_seat_28 rfl (ea_bn (Or.inl rfl))
  · have EX := EX.trans (if_neg c9)
    have EY := EY.trans (if_neg c9)
    have K := K.2 c9
    refine ea_iload_n (pc := 14) dX12_seat_14 rfl 2 rfl ?_
    refine ea_iconst (pc := 15) dX12_seat_15 (v := (-1)) rfl ?_
    refine ea_icmp_eq (pc := 16) (tgt := 29) dX12_seat_16 rfl (fun c8 => ?_) (fun c8 => ?_)
    · have EX := EX.trans (if_pos c8)
      have EY := EY.trans (if_pos c8)
      have K := K.1 c8
      refine ea_aload_n (pc := 29) dX12_seat_29 rfl 0 rfl ?_
      refine ea_getR (pc := 30) dX12_seat_30 ec_12 (k := 95) (Nat.le_of_ble_eq_true rfl) rfl (Or.inl ew_1440) (hs.1 0 (by decide)).1 (hs.1 0 (by decide)).2.1 (hs.2 0 95 rfl) ?_
      refine ea_iload_n (pc := 33) dX12_seat_33 rfl 1 rfl ?_
      refine ea_iload_n (pc := 34) dX12_seat_34 rfl 2 rfl ?_
      have z2 := K
      refine ea_iast (pc := 35) dX12_seat_35 (hs.1 68 (by decide)).1 (hs.1 68 (by decide)).2.1 (ea_vpl (hs.1 68 (by decide)).2.2 z2) ?_
      have hs3 : ShM b0 (ea_wi h (b0 + 68) (Int32.toNatClampNeg x1) x2) := ShM_wi hs
      refine ea_iconst (pc := 36) dX12_seat_36 (v := 1) rfl ?_
      subst EX
      subst EY
      exact ea_ireturn (pc := 37) dX12_seat_37 rfl (ea_bn (Or.inr rfl))
    · have EX := EX.trans (if_neg c8)
      have EY := EY.trans (if_neg c8)
      have K := K.2 c8
      refine ea_aload_n (pc := 19) dX12_seat_19 rfl 0 rfl ?_
      refine ea_iload_n (pc := 20) dX12_seat_20 rfl 2 rfl ?_
      refine ea_callV (pc := 21) (d' := d - 1) (As := [vI x2]) (st := []) dX12_seat_21 kX12_isTrain (sX12_isTrain (d := d - 1) (by omega) hs) (by omega) rfl (Nat.le_of_ble_eq_true rfl) ew_1736 ew_1738 ew_50 (ci := 12) rfl (by decide) (hs.1 0 (by decide)).1 (hs.1 0 (by decide)).2.1 ?_
      refine ea_if_ne (pc := 24) (tgt := 29) dX12_seat_24 rfl (fun c7 => ?_) (fun c7 => ?_)
      · have EX := EX.trans (if_neg c7)
        have EY := EY.trans (if_neg c7)
        have K := K.2 c7
        refine ea_aload_n (pc := 29) dX12_seat_29 rfl 0 rfl ?_
        refine ea_getR (pc := 30) dX12_seat_30 ec_12 (k := 95) (Nat.le_of_ble_eq_true rfl) rfl (Or.inl ew_1440) (hs.1 0 (by decide)).1 (hs.1 0 (by decide)).2.1 (hs.2 0 95 rfl) ?_
        refine ea_iload_n (pc := 33) dX12_seat_33 rfl 1 rfl ?_
        refine ea_iload_n (pc := 34) dX12_seat_34 rfl 2 rfl ?_
        have z5 := K
        refine ea_iast (pc := 35) dX12_seat_35 (hs.1 68 (by decide)).1 (hs.1 68 (by decide)).2.1 (ea_vpl (hs.1 68 (by decide)).2.2 z5) ?_
        have hs6 : ShM b0 (ea_wi h (b0 + 68) (Int32.toNatClampNeg x1) x2) := ShM_wi hs
        refine ea_iconst (pc := 36) dX12_seat_36 (v := 1) rfl ?_
        subst EX
        subst EY
        exact ea_ireturn (pc := 37) dX12_seat_37 rfl (ea_bn (Or.inr rfl))
      · have EX := EX.trans (if_pos c7)
        have EY := EY.trans (if_pos c7)
        refine ea_iconst (pc := 27) dX12_seat_27 (v := 0) rfl ?_
        subst EX
        subst EY
        exact ea_ireturn (pc := 28) dX12_seat_28 rfl (ea_bn (Or.inl rfl))
noncomputable def vX12_code (x0 : Int32) (h : ea_H) : Int32 := (((10 : Int32) * (x0 - x0 / (7 : Int32) * (7 : Int32))) + (x0 / (7 : Int32)))
theorem sX12_code {d : Nat} {x0 : Int32} {h : ea_H} (hd : 1 ≤ d) : ea_Met mX12_code d [vI x0] h (some (vI (vX12_code x0 h))) h := by
  obtain ⟨X, EX⟩ : ∃ z, z = vX12_code x0 h := ⟨_, rfl⟩
  rw [← EX]
  unfold vX12_code at EX
  refine ea_enter rfl (Nat.le_of_ble_eq_true rfl) ?_
  refine ea_bipush (pc := 0) dX12_code_0 (v := 10) rfl ?_
  refine ea_iload_n (pc := 2) dX12_code_2 rfl 0 rfl ?_
  refine ea_bipush (pc := 3) dX12_code_3 (v := 7) rfl ?_
  refine ea_irem (pc := 5) dX12_code_5 (by decide) ?_
  refine ea_imul (pc := 6) dX12_code_6 ?_
  refine ea_iload_n (pc := 7) dX12_code_7 rfl 0 rfl ?_
  refine ea_bipush (pc := 8) dX12_code_8 (v := 7) rfl ?_
  refine ea_idiv (pc := 10) dX12_code_10 (by decide) ?_
  refine ea_iadd (pc := 11) dX12_code_11 ?_
  subst EX
  exact ea_ireturn (pc := 12) dX12_code_12 rfl rfl
noncomputable def vX12_isAboard (b0 : Nat) (x1 : Int32) (x2 : Int32) (h : ea_H) : Int32 := (if (ea_i h (b0 + 55) (Int32.toNatClampNeg x1)) = (1 : Int32) then (if (ea_i h (b0 + 56) (Int32.toNatClampNeg x1)) = (vX12_code (x2 : Int32) h) then (1 : Int32) else (0 : Int32)) else (0 : Int32))
def okX12_isAboard (b0 : Nat) (x1 : Int32) (x2 : Int32) (h : ea_H) : Prop := vp_in x1 120 ∧ (((ea_i h (b0 + 55) (Int32.toNatClampNeg x1)) = (1 : Int32) → vp_in x1 120) ∧ (¬ (ea_i h (b0 + 55) (Int32.toNatClampNeg x1)) = (1 : Int32) → True))
theorem bo_vX12_isAboard (b0 : Nat) (x1 : Int32) (x2 : Int32) (h : ea_H) : vX12_isAboard b0 x1 x2 h = 0 ∨ vX12_isAboard b0 x1 x2 h = 1 := (ea_itB (ea_itB (Or.inr rfl) (Or.inl rfl)) (Or.inl rfl))
theorem sX12_isAboard {d : Nat} {b0 : Nat} {x1 : Int32} {x2 : Int32} {h : ea_H} (hd : 2 ≤ d) (hs : ShM b0 h) (K : okX12_isAboard b0 x1 x2 h) : ea_Met mX12_isAboard d [vR (some (b0 + 0)), vI x1, vI x2] h (some (vI (vX12_isAboard b0 x1 x2 h))) h := by
  obtain ⟨X, EX⟩ : ∃ z, z = vX12_isAboard b0 x1 x2 h := ⟨_, rfl⟩
  rw [← EX]
  unfold vX12_isAboard at EX
  unfold okX12_isAboard at K
  refine ea_enter rfl (Nat.le_of_ble_eq_true rfl) ?_
  refine ea_aload_n (pc := 0) dX12_isAboard_0 rfl 0 rfl ?_
  refine ea_getR (pc := 1) dX12_isAboard_1 ec_12 (k := 81) (Nat.le_of_ble_eq_true rfl) rfl (Or.inl ew_1426) (hs.1 0 (by decide)).1 (hs.1 0 (by decide)).2.1 (hs.2 0 81 rfl) ?_
  refine ea_iload_n (pc := 4) dX12_isAboard_4 rfl 1 rfl ?_
  obtain ⟨z1, K⟩ := K
  refine ea_iald (pc := 5) dX12_isAboard_5 (hs.1 55 (by decide)).1 (hs.1 55 (by decide)).2.1 (ea_vpl (hs.1 55 (by decide)).2.2 z1) ?_
  refine ea_iconst (pc := 6) dX12_isAboard_6 (v := 1) rfl ?_
  refine ea_icmp_ne (pc := 7) (tgt := 27) dX12_isAboard_7 rfl (fun c5 => ?_) (fun c5 => ?_)
  · have EX := EX.trans (if_neg c5)
    refine ea_iconst (pc := 27) dX12_isAboard_27 (v := 0) rfl ?_
    subst EX
    exact ea_ireturn (pc := 28) dX12_isAboard_28 rfl (ea_bn (Or.inl rfl))
  · have EX := EX.trans (if_pos c5)
    have K := K.1 c5
    refine ea_aload_n (pc := 10) dX12_isAboard_10 rfl 0 rfl ?_
    refine ea_getR (pc := 11) dX12_isAboard_11 ec_12 (k := 82) (Nat.le_of_ble_eq_true rfl) rfl (Or.inl ew_1427) (hs.1 0 (by decide)).1 (hs.1 0 (by decide)).2.1 (hs.2 0 82 rfl) ?_
    refine ea_iload_n (pc := 14) dX12_isAboard_14 rfl 1 rfl ?_
    have z2 := K
    refine ea_iald (pc := 15) dX12_isAboard_15 (hs.1 56 (by decide)).1 (hs.1 56 (by decide)).2.1 (ea_vpl (hs.1 56 (by decide)).2.2 z2) ?_
    refine ea_iload_n (pc := 16) dX12_isAboard_16 rfl 2 rfl ?_
    refine ea_callS (pc := 17) (d' := d - 1) (As := [vI x2]) (st := [vI (ea_i h (b0 + 56) (Int32.toNatClampNeg x1))]) dX12_isAboard_17 kX12_code (sX12_code (d := d - 1) (by omega)) (by omega) rfl (Nat.le_of_ble_eq_true rfl) ew_2071 ew_2072 ?_
    refine ea_icmp_ne (pc := 20) (tgt := 27) dX12_isAboard_20 rfl (fun c4 => ?_) (fun c4 => ?_)
    · have EX := EX.trans (if_neg c4)
      refine ea_iconst (pc := 27) dX12_isAboard_27 (v := 0) rfl ?_
      subst EX
      exact ea_ireturn (pc := 28) dX12_isAboard_28 rfl (ea_bn (Or.inl rfl))
    · have EX := EX.trans (if_pos c4)
      refine ea_iconst (pc := 23) dX12_isAboard_23 (v := 1) rfl ?_
      refine ea_goto (pc := 24) (tgt := 28) dX12_isAboard_24 rfl ?_
      subst EX
      exact ea_ireturn (pc := 28) dX12_isAboard_28 rfl (ea_bn (Or.inr rfl))
noncomputable def wX12_putsDown (b0 : Nat) (x1 : Int32) (x2 : Int32) (x3 : Int32) (h : ea_H) : ea_H := (if (ea_i (ea_wi (ea_wi h (b0 + 61) (Int32.toNatClampNeg x1) 0) (b0 + 57) (Int32.toNatClampNeg x1) (-1)) (b0 + 40) (Int32.toNatClampNeg x1)) = x3 then (if (ea_i (ea_wi (ea_wi h (b0 + 61) (Int32.toNatClampNeg x1) 0) (b0 + 57) (Int32.toNatClampNeg x1) (-1)) (b0 + 54) (Int32.toNatClampNeg x1)) = (0 : Int32) then (if (ea_i (wX12_turns b0 (x1 : Int32) (x2 : Int32) (2 : Int32) (x3 : Int32) (ea_wi (ea_wi h (b0 + 61) (Int32.toNatClampNeg x1) 0) (b0 + 57) (Int32.toNatClampNeg x1) (-1))) (b0 + 55) (Int32.toNatClampNeg x1)) = (3 : Int32) then (ea_wi (wX12_turns b0 (x1 : Int32) (x2 : Int32) (2 : Int32) (x3 : Int32) (ea_wi (ea_wi h (b0 + 61) (Int32.toNatClampNeg x1) 0) (b0 + 57) (Int32.toNatClampNeg x1) (-1))) (b0 + 51) (Int32.toNatClampNeg x1) 0) else (wX12_turns b0 (x1 : Int32) (x2 : Int32) (2 : Int32) (x3 : Int32) (ea_wi (ea_wi h (b0 + 61) (Int32.toNatClampNeg x1) 0) (b0 + 57) (Int32.toNatClampNeg x1) (-1)))) else (if (ea_i (wX12_turns b0 (x1 : Int32) (x2 : Int32) (3 : Int32) (x3 : Int32) (ea_wi (ea_wi h (b0 + 61) (Int32.toNatClampNeg x1) 0) (b0 + 57) (Int32.toNatClampNeg x1) (-1))) (b0 + 55) (Int32.toNatClampNeg x1)) = (3 : Int32) then (ea_wi (wX12_turns b0 (x1 : Int32) (x2 : Int32) (3 : Int32) (x3 : Int32) (ea_wi (ea_wi h (b0 + 61) (Int32.toNatClampNeg x1) 0) (b0 + 57) (Int32.toNatClampNeg x1) (-1))) (b0 + 51) (Int32.toNatClampNeg x1) 0) else (wX12_turns b0 (x1 : Int32) (x2 : Int32) (3 : Int32) (x3 : Int32) (ea_wi (ea_wi h (b0 + 61) (Int32.toNatClampNeg x1) 0) (b0 + 57) (Int32.toNatClampNeg x1) (-1))))) else (if (ea_i (wX12_turns b0 (x1 : Int32) (x2 : Int32) (0 : Int32) (x3 : Int32) (ea_wi (ea_wi h (b0 + 61) (Int32.toNatClampNeg x1) 0) (b0 + 57) (Int32.toNatClampNeg x1) (-1))) (b0 + 55) (Int32.toNatClampNeg x1)) = (3 : Int32) then (ea_wi (wX12_turns b0 (x1 : Int32) (x2 : Int32) (0 : Int32) (x3 : Int32) (ea_wi (ea_wi h (b0 + 61) (Int32.toNatClampNeg x1) 0) (b0 + 57) (Int32.toNatClampNeg x1) (-1))) (b0 + 51) (Int32.toNatClampNeg x1) 0) else (wX12_turns b0 (x1 : Int32) (x2 : Int32) (0 : Int32) (x3 : Int32) (ea_wi (ea_wi h (b0 + 61) (Int32.toNatClampNeg x1) 0) (b0 + 57) (Int32.toNatClampNeg x1) (-1)))))
def okX12_putsDown (b0 : Nat) (x1 : Int32) (x2 : Int32) (x3 : Int32) (h : ea_H) : Prop := vp_in x1 120 ∧ (vp_in x1 120 ∧ (vp_in x1 120 ∧ (((ea_i (ea_wi (ea_wi h (b0 + 61) (Int32.toNatClampNeg x1) 0) (b0 + 57) (Int32.toNatClampNeg x1) (-1)) (b0 + 40) (Int32.toNatClampNeg x1)) = x3 → vp_in x1 120 ∧ (((ea_i (ea_wi (ea_wi h (b0 + 61) (Int32.toNatClampNeg x1) 0) (b0 + 57) (Int32.toNatClampNeg x1) (-1)) (b0 + 54) (Int32.toNatClampNeg x1)) = (0 : Int32) → (okX12_turns b0 (x1 : Int32) (x2 : Int32) (2 : Int32) (x3 : Int32) (ea_wi (ea_wi h (b0 + 61) (Int32.toNatClampNeg x1) 0) (b0 + 57) (Int32.toNatClampNeg x1) (-1))) ∧ (vp_in x1 120 ∧ (((ea_i (wX12_turns b0 (x1 : Int32) (x2 : Int32) (2 : Int32) (x3 : Int32) (ea_wi (ea_wi h (b0 + 61) (Int32.toNatClampNeg x1) 0) (b0 + 57) (Int32.toNatClampNeg x1) (-1))) (b0 + 55) (Int32.toNatClampNeg x1)) = (3 : Int32) → vp_in x1 120) ∧ (¬ (ea_i (wX12_turns b0 (x1 : Int32) (x2 : Int32) (2 : Int32) (x3 : Int32) (ea_wi (ea_wi h (b0 + 61) (Int32.toNatClampNeg x1) 0) (b0 + 57) (Int32.toNatClampNeg x1) (-1))) (b0 + 55) (Int32.toNatClampNeg x1)) = (3 : Int32) → True)))) ∧ (¬ (ea_i (ea_wi (ea_wi h (b0 + 61) (Int32.toNatClampNeg x1) 0) (b0 + 57) (Int32.toNatClampNeg x1) (-1)) (b0 + 54) (Int32.toNatClampNeg x1)) = (0 : Int32) → (okX12_turns b0 (x1 : Int32) (x2 : Int32) (3 : Int32) (x3 : Int32) (ea_wi (ea_wi h (b0 + 61) (Int32.toNatClampNeg x1) 0) (b0 + 57) (Int32.toNatClampNeg x1) (-1))) ∧ (vp_in x1 120 ∧ (((ea_i (wX12_turns b0 (x1 : Int32) (x2 : Int32) (3 : Int32) (x3 : Int32) (ea_wi (ea_wi h (b0 + 61) (Int32.toNatClampNeg x1) 0) (b0 + 57) (Int32.toNatClampNeg x1) (-1))) (b0 + 55) (Int32.toNatClampNeg x1)) = (3 : Int32) → vp_in x1 120) ∧ (¬ (ea_i (wX12_turns b0 (x1 : Int32) (x2 : Int32) (3 : Int32) (x3 : Int32) (ea_wi (ea_wi h (b0 + 61) (Int32.toNatClampNeg x1) 0) (b0 + 57) (Int32.toNatClampNeg x1) (-1))) (b0 + 55) (Int32.toNatClampNeg x1)) = (3 : Int32) → True)))))) ∧ (¬ (ea_i (ea_wi (ea_wi h (b0 + 61) (Int32.toNatClampNeg x1) 0) (b0 + 57) (Int32.toNatClampNeg x1) (-1)) (b0 + 40) (Int32.toNatClampNeg x1)) = x3 → (okX12_turns b0 (x1 : Int32) (x2 : Int32) (0 : Int32) (x3 : Int32) (ea_wi (ea_wi h (b0 + 61) (Int32.toNatClampNeg x1) 0) (b0 + 57) (Int32.toNatClampNeg x1) (-1))) ∧ (vp_in x1 120 ∧ (((ea_i (wX12_turns b0 (x1 : Int32) (x2 : Int32) (0 : Int32) (x3 : Int32) (ea_wi (ea_wi h (b0 + 61) (Int32.toNatClampNeg x1) 0) (b0 + 57) (Int32.toNatClampNeg x1) (-1))) (b0 + 55) (Int32.toNatClampNeg x1)) = (3 : Int32) → vp_in x1 120) ∧ (¬ (ea_i (wX12_turns b0 (x1 : Int32) (x2 : Int32) (0 : Int32) (x3 : Int32) (ea_wi (ea_wi h (b0 + 61) (Int32.toNatClampNeg x1) 0) (b0 + 57) (Int32.toNatClampNeg x1) (-1))) (b0 + 55) (Int32.toNatClampNeg x1)) = (3 : Int32) → True)))))))
theorem shX12_putsDown {b0 : Nat} {x1 : Int32} {x2 : Int32} {x3 : Int32} {h : ea_H} (hs : ShM b0 h) : ShM b0 (wX12_putsDown b0 x1 x2 x3 h) := (ShM_it (ShM_it (ShM_it (ShM_wi (shX12_turns (ShM_wi (ShM_wi hs)))) (shX12_turns (ShM_wi (ShM_wi hs)))) (ShM_it (ShM_wi (shX12_turns (ShM_wi (ShM_wi hs)))) (shX12_turns (ShM_wi (ShM_wi hs))))) (ShM_it (ShM_wi (shX12_turns (ShM_wi (ShM_wi hs)))) (shX12_turns (ShM_wi (ShM_wi hs)))))
theorem sX12_putsDown {d : Nat} {b0 : Nat} {x1 : Int32} {x2 : Int32} {x3 : Int32} {h : ea_H} (hd : 2 ≤ d) (hs : ShM b0 h) (K : okX12_putsDown b0 x1 x2 x3 h) : ea_Met mX12_putsDown d [vR (some (b0 + 0)), vI x1, vI x2, vI x3] h none (wX12_putsDown b0 x1 x2 x3 h) := by
  obtain ⟨Y, EY⟩ : ∃ z, z = wX12_putsDown b0 x1 x2 x3 h := ⟨_, rfl⟩
  rw [← EY]
  unfold wX12_putsDown at EY
  unfold okX12_putsDown at K
  refine ea_enter rfl (Nat.le_of_ble_eq_true rfl) ?_
  refine ea_aload_n (pc := 0) dX12_putsDown_0 rfl 0 rfl ?_
  refine ea_getR (pc := 1) dX12_putsDown_1 ec_12 (k := 87) (Nat.le_of_ble_eq_true rfl) rfl (Or.inl ew_1432) (hs.1 0 (by decide)).1 (hs.1 0 (by decide)).2.1 (hs.2 0 87 rfl) ?_
  refine ea_iload_n (pc := 4) dX12_putsDown_4 rfl 1 rfl ?_
  refine ea_iconst (pc := 5) dX12_putsDown_5 (v := 0) rfl ?_
  obtain ⟨z1, K⟩ := K
  refine ea_zast (pc := 6) dX12_putsDown_6 (y := 0) (ea_bn (Or.inl rfl)) (hs.1 61 (by decide)).1 (hs.1 61 (by decide)).2.1 (ea_vpl (hs.1 61 (by decide)).2.2 z1) ?_
  have hs2 : ShM b0 (ea_wi h (b0 + 61) (Int32.toNatClampNeg x1) 0) := ShM_wi hs
  refine ea_aload_n (pc := 7) dX12_putsDown_7 rfl 0 rfl ?_
  refine ea_getR (pc := 8) dX12_putsDown_8 ec_12 (k := 83) (Nat.le_of_ble_eq_true rfl) rfl (Or.inl ew_1428) (hs2.1 0 (by decide)).1 (hs2.1 0 (by decide)).2.1 (hs2.2 0 83 rfl) ?_
  refine ea_iload_n (pc := 11) dX12_putsDown_11 rfl 1 rfl ?_
  refine ea_iconst (pc := 12) dX12_putsDown_12 (v := (-1)) rfl ?_
  obtain ⟨z3, K⟩ := K
  refine ea_iast (pc := 13) dX12_putsDown_13 (hs2.1 57 (by decide)).1 (hs2.1 57 (by decide)).2.1 (ea_vpl (hs2.1 57 (by decide)).2.2 z3) ?_
  have hs4 : ShM b0 (ea_wi (ea_wi h (b0 + 61) (Int32.toNatClampNeg x1) 0) (b0 + 57) (Int32.toNatClampNeg x1) (-1)) := ShM_wi hs2
  refine ea_aload_n (pc := 14) dX12_putsDown_14 rfl 0 rfl ?_
  refine ea_iload_n (pc := 15) dX12_putsDown_15 rfl 1 rfl ?_
  refine ea_iload_n (pc := 16) dX12_putsDown_16 rfl 2 rfl ?_
  refine ea_aload_n (pc := 17) dX12_putsDown_17 rfl 0 rfl ?_
  refine ea_getR (pc := 18) dX12_putsDown_18 ec_12 (k := 66) (Nat.le_of_ble_eq_true rfl) rfl (Or.inl ew_1411) (hs4.1 0 (by decide)).1 (hs4.1 0 (by decide)).2.1 (hs4.2 0 66 rfl) ?_
  refine ea_iload_n (pc := 21) dX12_putsDown_21 rfl 1 rfl ?_
  obtain ⟨z5, K⟩ := K
  refine ea_iald (pc := 22) dX12_putsDown_22 (hs4.1 40 (by decide)).1 (hs4.1 40 (by decide)).2.1 (ea_vpl (hs4.1 40 (by decide)).2.2 z5) ?_
  refine ea_iload_n (pc := 23) dX12_putsDown_23 rfl 3 rfl ?_
  refine ea_icmp_eq (pc := 24) (tgt := 31) dX12_putsDown_24 rfl (fun c26 => ?_) (fun c26 => ?_)
  · have EY := EY.trans (if_pos c26)
    have K := K.1 c26
    refine ea_aload_n (pc := 31) dX12_putsDown_31 rfl 0 rfl ?_
    refine ea_getR (pc := 32) dX12_putsDown_32 ec_12 (k := 80) (Nat.le_of_ble_eq_true rfl) rfl (Or.inl ew_1425) (hs4.1 0 (by decide)).1 (hs4.1 0 (by decide)).2.1 (hs4.2 0 80 rfl) ?_
    refine ea_iload_n (pc := 35) dX12_putsDown_35 rfl 1 rfl ?_
    obtain ⟨z6, K⟩ := K
    refine ea_zald (pc := 36) dX12_putsDown_36 (hs4.1 54 (by decide)).1 (hs4.1 54 (by decide)).2.1 (ea_vpl (hs4.1 54 (by decide)).2.2 z6) ?_
    refine ea_if_eq (pc := 37) (tgt := 44) dX12_putsDown_37 rfl (fun c19 => ?_) (fun c19 => ?_)
    · have EY := EY.trans (if_pos c19)
      have K := K.1 c19
      refine ea_iconst (pc := 44) dX12_putsDown_44 (v := 2) rfl ?_
      refine ea_iload_n (pc := 45) dX12_putsDown_45 rfl 3 rfl ?_
      obtain ⟨z7, K⟩ := K
      refine ea_callV (pc := 46) (d' := d - 1) (As := [vI x1, vI x2, vI 2, vI x3]) (st := []) dX12_putsDown_46 kX12_turns (sX12_turns (d := d - 1) (by omega) hs4 z7) (by omega) rfl (Nat.le_of_ble_eq_true rfl) ew_2011 ew_2013 ew_88 (ci := 12) rfl (by decide) (hs4.1 0 (by decide)).1 (hs4.1 0 (by decide)).2.1 ?_
      have hs8 : ShM b0 (wX12_turns b0 (x1 : Int32) (x2 : Int32) (2 : Int32) (x3 : Int32) (ea_wi (ea_wi h (b0 + 61) (Int32.toNatClampNeg x1) 0) (b0 + 57) (Int32.toNatClampNeg x1) (-1))) := shX12_turns hs4
      refine ea_aload_n (pc := 49) dX12_putsDown_49 rfl 0 rfl ?_
      refine ea_getR (pc := 50) dX12_putsDown_50 ec_12 (k := 81) (Nat.le_of_ble_eq_true rfl) rfl (Or.inl ew_1426) (hs8.1 0 (by decide)).1 (hs8.1 0 (by decide)).2.1 (hs8.2 0 81 rfl) ?_
      refine ea_iload_n (pc := 53) dX12_putsDown_53 rfl 1 rfl ?_
      obtain ⟨z9, K⟩ := K
      refine ea_iald (pc := 54) dX12_putsDown_54 (hs8.1 55 (by decide)).1 (hs8.1 55 (by decide)).2.1 (ea_vpl (hs8.1 55 (by decide)).2.2 z9) ?_
      refine ea_iconst (pc := 55) dX12_putsDown_55 (v := 3) rfl ?_
      refine ea_icmp_ne (pc := 56) (tgt := 66) dX12_putsDown_56 rfl (fun c12 => ?_) (fun c12 => ?_)
      · have EY := EY.trans (if_neg c12)
        subst EY
        exact ea_return (pc := 66) dX12_putsDown_66 rfl
      · have EY := EY.trans (if_pos c12)
        have K := K.1 c12
        refine ea_aload_n (pc := 59) dX12_putsDown_59 rfl 0 rfl ?_
        refine ea_getR (pc := 60) dX12_putsDown_60 ec_12 (k := 77) (Nat.le_of_ble_eq_true rfl) rfl (Or.inl ew_1422) (hs8.1 0 (by decide)).1 (hs8.1 0 (by decide)).2.1 (hs8.2 0 77 rfl) ?_
        refine ea_iload_n (pc := 63) dX12_putsDown_63 rfl 1 rfl ?_
        refine ea_iconst (pc := 64) dX12_putsDown_64 (v := 0) rfl ?_
        have z10 := K
        refine ea_iast (pc := 65) dX12_putsDown_65 (hs8.1 51 (by decide)).1 (hs8.1 51 (by decide)).2.1 (ea_vpl (hs8.1 51 (by decide)).2.2 z10) ?_
        have hs11 : ShM b0 (ea_wi (wX12_turns b0 (x1 : Int32) (x2 : Int32) (2 : Int32) (x3 : Int32) (ea_wi (ea_wi h (b0 + 61) (Int32.toNatClampNeg x1) 0) (b0 + 57) (Int32.toNatClampNeg x1) (-1))) (b0 + 51) (Int32.toNatClampNeg x1) 0) := ShM_wi hs8
        subst EY
        exact ea_return (pc := 66) dX12_putsDown_66 rfl
    · have EY := EY.trans (if_neg c19)
      have K := K.2 c19
      refine ea_iconst (pc := 40) dX12_putsDown_40 (v := 3) rfl ?_
      refine ea_goto (pc := 41) (tgt := 45) dX12_putsDown_41 rfl ?_
      refine ea_iload_n (pc := 45) dX12_putsDown_45 rfl 3 rfl ?_
      obtain ⟨z13, K⟩ := K
      refine ea_callV (pc := 46) (d' := d - 1) (As := [vI x1, vI x2, vI 3, vI x3]) (st := []) dX12_putsDown_46 kX12_turns (sX12_turns (d := d - 1) (by omega) hs4 z13) (by omega) rfl (Nat.le_of_ble_eq_true rfl) ew_2011 ew_2013 ew_88 (ci := 12) rfl (by decide) (hs4.1 0 (by decide)).1 (hs4.1 0 (by decide)).2.1 ?_
      have hs14 : ShM b0 (wX12_turns b0 (x1 : Int32) (x2 : Int32) (3 : Int32) (x3 : Int32) (ea_wi (ea_wi h (b0 + 61) (Int32.toNatClampNeg x1) 0) (b0 + 57) (Int32.toNatClampNeg x1) (-1))) := shX12_turns hs4
      refine ea_aload_n (pc := 49) dX12_putsDown_49 rfl 0 rfl ?_
      refine ea_getR (pc := 50) dX12_putsDown_50 ec_12 (k := 81) (Nat.le_of_ble_eq_true rfl) rfl (Or.inl ew_1426) (hs14.1 0 (by decide)).1 (hs14.1 0 (by decide)).2.1 (hs14.2 0 81 rfl) ?_
      refine ea_iload_n (pc := 53) dX12_putsDown_53 rfl 1 rfl ?_
      obtain ⟨z15, K⟩ := K
      refine ea_iald (pc := 54) dX12_putsDown_54 (hs14.1 55 (by decide)).1 (hs14.1 55 (by decide)).2.1 (ea_vpl (hs14.1 55 (by decide)).2.2 z15) ?_
      refine ea_iconst (pc := 55) dX12_putsDown_55 (v := 3) rfl ?_
      refine ea_icmp_ne (pc := 56) (tgt := 66) dX12_putsDown_56 rfl (fun c18 => ?_) (fun c18 => ?_)
      · have EY := EY.trans (if_neg c18)
        subst EY
        exact ea_return (pc := 66) dX12_putsDown_66 rfl
      · have EY := EY.trans (if_pos c18)
        have K := K.1 c18
        refine ea_aload_n (pc := 59) dX12_putsDown_59 rfl 0 rfl ?_
        refine ea_getR (pc := 60) dX12_putsDown_60 ec_12 (k := 77) (Nat.le_of_ble_eq_true rfl) rfl (Or.inl ew_1422) (hs14.1 0 (by decide)).1 (hs14.1 0 (by decide)).2.1 (hs14.2 0 77 rfl) ?_
        refine ea_iload_n (pc := 63) dX12_putsDown_63 rfl 1 rfl ?_
        refine ea_iconst (pc := 64) dX12_putsDown_64 (v := 0) rfl ?_
        have z16 := K
        refine ea_iast (pc := 65) dX12_putsDown_65 (hs14.1 51 (by decide)).1 (hs14.1 51 (by decide)).2.1 (ea_vpl (hs14.1 51 (by decide)).2.2 z16) ?_
        have hs17 : ShM b0 (ea_wi (wX12_turns b0 (x1 : Int32) (x2 : Int32) (3 : Int32) (x3 : Int32) (ea_wi (ea_wi h (b0 + 61) (Int32.toNatClampNeg x1) 0) (b0 + 57) (Int32.toNatClampNeg x1) (-1))) (b0 + 51) (Int32.toNatClampNeg x1) 0) := ShM_wi hs14
        subst EY
        exact ea_return (pc := 66) dX12_putsDown_66 rfl
  · have EY := EY.trans (if_neg c26)
    have K := K.2 c26
    refine ea_iconst (pc := 27) dX12_putsDown_27 (v := 0) rfl ?_
    refine ea_goto (pc := 28) (tgt := 45) dX12_putsDown_28 rfl ?_
    refine ea_iload_n (pc := 45) dX12_putsDown_45 rfl 3 rfl ?_
    obtain ⟨z20, K⟩ := K
    refine ea_callV (pc := 46) (d' := d - 1) (As := [vI x1, vI x2, vI 0, vI x3]) (st := []) dX12_putsDown_46 kX12_turns (sX12_turns (d := d - 1) (by omega) hs4 z20) (by omega) rfl (Nat.le_of_ble_eq_true rfl) ew_2011 ew_2013 ew_88 (ci := 12) rfl (by decide) (hs4.1 0 (by decide)).1 (hs4.1 0 (by decide)).2.1 ?_
    have hs21 : ShM b0 (wX12_turns b0 (x1 : Int32) (x2 : Int32) (0 : Int32) (x3 : Int32) (ea_wi (ea_wi h (b0 + 61) (Int32.toNatClampNeg x1) 0) (b0 + 57) (Int32.toNatClampNeg x1) (-1))) := shX12_turns hs4
    refine ea_aload_n (pc := 49) dX12_putsDown_49 rfl 0 rfl ?_
    refine ea_getR (pc := 50) dX12_putsDown_50 ec_12 (k := 81) (Nat.le_of_ble_eq_true rfl) rfl (Or.inl ew_1426) (hs21.1 0 (by decide)).1 (hs21.1 0 (by decide)).2.1 (hs21.2 0 81 rfl) ?_
    refine ea_iload_n (pc := 53) dX12_putsDown_53 rfl 1 rfl ?_
    obtain ⟨z22, K⟩ := K
    refine ea_iald (pc := 54) dX12_putsDown_54 (hs21.1 55 (by decide)).1 (hs21.1 55 (by decide)).2.1 (ea_vpl (hs21.1 55 (by decide)).2.2 z22) ?_
    refine ea_iconst (pc := 55) dX12_putsDown_55 (v := 3) rfl ?_
    refine ea_icmp_ne (pc := 56) (tgt := 66) dX12_putsDown_56 rfl (fun c25 => ?_) (fun c25 => ?_)
    · have EY := EY.trans (if_neg c25)
      subst EY
      exact ea_return (pc := 66) dX12_putsDown_66 rfl
    · have EY := EY.trans (if_pos c25)
      have K := K.1 c25
      refine ea_aload_n (pc := 59) dX12_putsDown_59 rfl 0 rfl ?_
      refine ea_getR (pc := 60) dX12_putsDown_60 ec_12 (k := 77) (Nat.le_of_ble_eq_true rfl) rfl (Or.inl ew_1422) (hs21.1 0 (by decide)).1 (hs21.1 0 (by decide)).2.1 (hs21.2 0 77 rfl) ?_
      refine ea_iload_n (pc := 63) dX12_putsDown_63 rfl 1 rfl ?_
      refine ea_iconst (pc := 64) dX12_putsDown_64 (v := 0) rfl ?_
      have z23 := K
      refine ea_iast (pc := 65) dX12_putsDown_65 (hs21.1 51 (by decide)).1 (hs21.1 51 (by decide)).2.1 (ea_vpl (hs21.1 51 (by decide)).2.2 z23) ?_
      have hs24 : ShM b0 (ea_wi (wX12_turns b0 (x1 : Int32) (x2 : Int32) (0 : Int32) (x3 : Int32) (ea_wi (ea_wi h (b0 + 61) (Int32.toNatClampNeg x1) 0) (b0 + 57) (Int32.toNatClampNeg x1) (-1))) (b0 + 51) (Int32.toNatClampNeg x1) 0) := ShM_wi hs21
      subst EY
      exact ea_return (pc := 66) dX12_putsDown_66 rfl
noncomputable def gX12_coming (b0 : Nat) : Nat → Nat → Int32 → Int32 → Int32 → Int32 → Int32 → Int32 → ea_H → Option (Unit × ea_H)
  | 0, _, _, _, _, _, _, _, _ => none
  | f + 1, lbl, sx0, x1, x2, x3, x4, x5, h =>
    if lbl = 0 then (gd (vp_in x1 1000) (gd (vp_in x1 1000) (gd (vp_in ((ea_i h (b0 + 12) (Int32.toNatClampNeg x1)) / (7 : Int32)) 10) (if (ea_i h (b0 + 13) (Int32.toNatClampNeg x1)) = ((ea_i h (b0 + 2) (Int32.toNatClampNeg ((ea_i h (b0 + 12) (Int32.toNatClampNeg x1)) / (7 : Int32)))) - (1 : Int32)) then (gX12_coming b0 f 34 (1 : Int32) (x1 : Int32) ((ea_i h (b0 + 12) (Int32.toNatClampNeg x1)) : Int32) ((ea_i h (b0 + 13) (Int32.toNatClampNeg x1)) : Int32) 0 0 h) else (gX12_coming b0 f 34 (0 : Int32) (x1 : Int32) ((ea_i h (b0 + 12) (Int32.toNatClampNeg x1)) : Int32) ((ea_i h (b0 + 13) (Int32.toNatClampNeg x1)) : Int32) 0 0 h))))) else
    if lbl = 34 then (gd (vp_in (((8 : Int32) * x2) + x3) 560) (if (ea_i h (b0 + 8) (Int32.toNatClampNeg (((8 : Int32) * x2) + x3))) = (0 : Int32) then (gX12_coming b0 f 54 0 (x1 : Int32) (x2 : Int32) (x3 : Int32) (sx0 : Int32) (0 : Int32) h) else (some ((), h)))) else
    if lbl = 54 then (if (ea_i h (b0 + 0) 63) ≤ x5 then (some ((), h)) else (gd ((okX12_isAboard b0 (x5 : Int32) (x2 : Int32) h)) (if (vX12_isAboard b0 (x5 : Int32) (x2 : Int32) h) = (0 : Int32) then (gX12_coming b0 f 54 0 (x1 : Int32) (x2 : Int32) (x3 : Int32) (x4 : Int32) ((x5 + (1 : Int32)) : Int32) h) else (gd (vp_in x5 120) (if (ea_i h (b0 + 61) (Int32.toNatClampNeg x5)) = (0 : Int32) then (gX12_coming b0 f 118 0 (x1 : Int32) (x2 : Int32) (x3 : Int32) (x4 : Int32) (x5 : Int32) h) else (gd (vp_in x5 120) (if x3 < (ea_i h (b0 + 57) (Int32.toNatClampNeg x5)) then (gX12_coming b0 f 118 0 (x1 : Int32) (x2 : Int32) (x3 : Int32) (x4 : Int32) (x5 : Int32) h) else (gd (vp_in x1 1000) (gd ((okX12_townOf b0 (x2 : Int32) (x3 : Int32) h)) (gd ((okX12_putsDown b0 (x5 : Int32) ((ea_i h (b0 + 10) (Int32.toNatClampNeg x1)) : Int32) ((vX12_townOf b0 (x2 : Int32) (x3 : Int32) h) : Int32) h)) (gX12_coming b0 f 54 0 (x1 : Int32) (x2 : Int32) (x3 : Int32) (x4 : Int32) ((x5 + (1 : Int32)) : Int32) (wX12_putsDown b0 (x5 : Int32) ((ea_i h (b0 + 10) (Int32.toNatClampNeg x1)) : Int32) ((vX12_townOf b0 (x2 : Int32) (x3 : Int32) h) : Int32) h)))))))))))) else
    if lbl = 118 then (if x4 = (0 : Int32) then (gX12_coming b0 f 54 0 (x1 : Int32) (x2 : Int32) (x3 : Int32) (x4 : Int32) ((x5 + (1 : Int32)) : Int32) h) else (gd (vp_in x5 120) (if (ea_i h (b0 + 61) (Int32.toNatClampNeg x5)) = (0 : Int32) then (gd (vp_in x5 120) (gd (vp_in x5 120) (gd (vp_in x2 70) (gd (vp_in x2 70) (gX12_coming b0 f 154 0 (x1 : Int32) (x2 : Int32) (x3 : Int32) (x4 : Int32) (x5 : Int32) (ea_wi (ea_wi h (b0 + 58) (Int32.toNatClampNeg x5) ((ea_i h (b0 + 58) (Int32.toNatClampNeg x5)) + (1 : Int32))) (b0 + 60) (Int32.toNatClampNeg x2) ((ea_i (ea_wi h (b0 + 58) (Int32.toNatClampNeg x5) ((ea_i h (b0 + 58) (Int32.toNatClampNeg x5)) + (1 : Int32))) (b0 + 60) (Int32.toNatClampNeg x2)) + (1 : Int32)))))))) else (gX12_coming b0 f 154 0 (x1 : Int32) (x2 : Int32) (x3 : Int32) (x4 : Int32) (x5 : Int32) h)))) else
    if lbl = 154 then (gd (vp_in x1 1000) (gd ((okX12_townOf b0 (x2 : Int32) (x3 : Int32) h)) (gd ((okX12_putsDown b0 (x5 : Int32) ((ea_i h (b0 + 10) (Int32.toNatClampNeg x1)) : Int32) ((vX12_townOf b0 (x2 : Int32) (x3 : Int32) h) : Int32) h)) (gX12_coming b0 f 54 0 (x1 : Int32) (x2 : Int32) (x3 : Int32) (x4 : Int32) ((x5 + (1 : Int32)) : Int32) (wX12_putsDown b0 (x5 : Int32) ((ea_i h (b0 + 10) (Int32.toNatClampNeg x1)) : Int32) ((vX12_townOf b0 (x2 : Int32) (x3 : Int32) h) : Int32) h))))) else none
theorem tX12_coming {d : Nat} {b0 : Nat} {h0 : ea_H} (hd : 3 ≤ d) : ∀ (f lbl : Nat) (sx0 : Int32) (x1 : Int32) (x2 : Int32) (x3 : Int32) (x4 : Int32) (x5 : Int32) (h : ea_H) (r : Unit) (h' : ea_H), gX12_coming b0 f lbl sx0 x1 x2 x3 x4 x5 h = some (r, h') → ShM b0 h → (lbl = 0 → ea_W mX12_coming d h0 none h' 0 [(0, vR (some (b0 + 0))), (1, vI x1)] [] h) ∧ (lbl = 34 → ea_W mX12_coming d h0 none h' 34 [(0, vR (some (b0 + 0))), (1, vI x1), (2, vI x2), (3, vI x3)] [vI sx0] h) ∧ (lbl = 54 → ea_W mX12_coming d h0 none h' 54 [(0, vR (some (b0 + 0))), (1, vI x1), (2, vI x2), (3, vI x3), (4, vI x4), (5, vI x5)] [] h) ∧ (lbl = 118 → ea_W mX12_coming d h0 none h' 118 [(0, vR (some (b0 + 0))), (1, vI x1), (2, vI x2), (3, vI x3), (4, vI x4), (5, vI x5)] [] h) ∧ (lbl = 154 → ea_W mX12_coming d h0 none h' 154 [(0, vR (some (b0 + 0))), (1, vI x1), (2, vI x2), (3, vI x3), (4, vI x4), (5, vI x5)] [] h) := by
  intro f
  induction f with
  | zero => intro lbl sx0 x1 x2 x3 x4 x5 h r h' E; cases E
  | succ f ih =>
    intro lbl sx0 x1 x2 x3 x4 x5 h r h' E hs
    unfold gX12_coming at E
    refine ⟨?_, ?_⟩
    · intro el
      subst el
      have E := (if_pos rfl).symm.trans E
      refine ea_aload_n (pc := 0) dX12_coming_0 rfl 0 rfl ?_
      refine ea_getR (pc := 1) dX12_coming_1 ec_12 (k := 16) (Nat.le_of_ble_eq_true rfl) rfl (Or.inl ew_1361) (hs.1 0 (by decide)).1 (hs.1 0 (by decide)).2.1 (hs.2 0 16 rfl) ?_
      refine ea_iload_n (pc := 4) dX12_coming_4 rfl 1 rfl ?_
      obtain ⟨z1, E⟩ := gd_some E
      refine ea_iald (pc := 5) dX12_coming_5 (hs.1 12 (by decide)).1 (hs.1 12 (by decide)).2.1 (ea_vpl (hs.1 12 (by decide)).2.2 z1) ?_
      refine ea_istore_n (pc := 6) (lv' := [(0, vR (some (b0 + 0))), (1, vI x1), (2, vI (ea_i h (b0 + 12) (Int32.toNatClampNeg x1)))]) dX12_coming_6 rfl (Nat.le_of_ble_eq_true rfl) [1, 2, 0] rfl ?_
      refine ea_aload_n (pc := 7) dX12_coming_7 rfl 0 rfl ?_
      refine ea_getR (pc := 8) dX12_coming_8 ec_12 (k := 17) (Nat.le_of_ble_eq_true rfl) rfl (Or.inl ew_1362) (hs.1 0 (by decide)).1 (hs.1 0 (by decide)).2.1 (hs.2 0 17 rfl) ?_
      refine ea_iload_n (pc := 11) dX12_coming_11 rfl 1 rfl ?_
      obtain ⟨z2, E⟩ := gd_some E
      refine ea_iald (pc := 12) dX12_coming_12 (hs.1 13 (by decide)).1 (hs.1 13 (by decide)).2.1 (ea_vpl (hs.1 13 (by decide)).2.2 z2) ?_
      refine ea_istore_n (pc := 13) (lv' := [(0, vR (some (b0 + 0))), (1, vI x1), (2, vI (ea_i h (b0 + 12) (Int32.toNatClampNeg x1))), (3, vI (ea_i h (b0 + 13) (Int32.toNatClampNeg x1)))]) dX12_coming_13 rfl (Nat.le_of_ble_eq_true rfl) [1, 2, 3, 0] rfl ?_
      refine ea_iload_n (pc := 14) dX12_coming_14 rfl 3 rfl ?_
      refine ea_aload_n (pc := 15) dX12_coming_15 rfl 0 rfl ?_
      refine ea_getR (pc := 16) dX12_coming_16 ec_12 (k := 4) (Nat.le_of_ble_eq_true rfl) rfl (Or.inl ew_1349) (hs.1 0 (by decide)).1 (hs.1 0 (by decide)).2.1 (hs.2 0 4 rfl) ?_
      refine ea_iload_n (pc := 19) dX12_coming_19 rfl 2 rfl ?_
      refine ea_bipush (pc := 20) dX12_coming_20 (v := 7) rfl ?_
      refine ea_idiv (pc := 22) dX12_coming_22 (by decide) ?_
      obtain ⟨z3, E⟩ := gd_some E
      refine ea_iald (pc := 23) dX12_coming_23 (hs.1 2 (by decide)).1 (hs.1 2 (by decide)).2.1 (ea_vpl (hs.1 2 (by decide)).2.2 z3) ?_
      refine ea_iconst (pc := 24) dX12_coming_24 (v := 1) rfl ?_
      refine ea_isub (pc := 25) dX12_coming_25 ?_
      refine ea_icmp_ne (pc := 26) (tgt := 33) dX12_coming_26 rfl (fun c4 => ?_) (fun c4 => ?_)
      · have E := (if_neg c4).symm.trans E
        refine ea_iconst (pc := 33) dX12_coming_33 (v := 0) rfl ?_
        exact ((ih 34 (0 : Int32) (x1 : Int32) ((ea_i h (b0 + 12) (Int32.toNatClampNeg x1)) : Int32) ((ea_i h (b0 + 13) (Int32.toNatClampNeg x1)) : Int32) 0 0 h _ _ E hs).2.1 rfl)
      · have E := (if_pos c4).symm.trans E
        refine ea_iconst (pc := 29) dX12_coming_29 (v := 1) rfl ?_
        refine ea_goto (pc := 30) (tgt := 34) dX12_coming_30 rfl ?_
        exact ((ih 34 (1 : Int32) (x1 : Int32) ((ea_i h (b0 + 12) (Int32.toNatClampNeg x1)) : Int32) ((ea_i h (b0 + 13) (Int32.toNatClampNeg x1)) : Int32) 0 0 h _ _ E hs).2.1 rfl)
    refine ⟨?_, ?_⟩
    · intro el
      subst el
      have E := (if_neg (by decide)).symm.trans E
      have E := (if_pos rfl).symm.trans E
      refine ea_istore (pc := 34) (lv' := [(0, vR (some (b0 + 0))), (1, vI x1), (2, vI x2), (3, vI x3), (4, vI sx0)]) dX12_coming_34 (Nat.le_of_ble_eq_true rfl) [1, 2, 3, 4, 0] rfl ?_
      refine ea_aload_n (pc := 36) dX12_coming_36 rfl 0 rfl ?_
      refine ea_getR (pc := 37) dX12_coming_37 ec_12 (k := 10) (Nat.le_of_ble_eq_true rfl) rfl (Or.inl ew_1355) (hs.1 0 (by decide)).1 (hs.1 0 (by decide)).2.1 (hs.2 0 10 rfl) ?_
      refine ea_bipush (pc := 40) dX12_coming_40 (v := 8) rfl ?_
      refine ea_iload_n (pc := 42) dX12_coming_42 rfl 2 rfl ?_
      refine ea_imul (pc := 43) dX12_coming_43 ?_
      refine ea_iload_n (pc := 44) dX12_coming_44 rfl 3 rfl ?_
      refine ea_iadd (pc := 45) dX12_coming_45 ?_
      obtain ⟨z5, E⟩ := gd_some E
      refine ea_zald (pc := 46) dX12_coming_46 (hs.1 8 (by decide)).1 (hs.1 8 (by decide)).2.1 (ea_vpl (hs.1 8 (by decide)).2.2 z5) ?_
      refine ea_if_eq (pc := 47) (tgt := 51) dX12_coming_47 rfl (fun c6 => ?_) (fun c6 => ?_)
      · have E := (if_pos c6).symm.trans E
        refine ea_iconst (pc := 51) dX12_coming_51 (v := 0) rfl ?_
        refine ea_istore (pc := 52) (lv' := [(0, vR (some (b0 + 0))), (1, vI x1), (2, vI x2), (3, vI x3), (4, vI sx0), (5, vI 0)]) dX12_coming_52 (Nat.le_of_ble_eq_true rfl) [1, 2, 3, 4, 5, 0] rfl ?_
        exact ((ih 54 0 (x1 : Int32) (x2 : Int32) (x3 : Int32) (sx0 : Int32) (0 : Int32) h _ _ E hs).2.2.1 rfl)
      · have E := (if_neg c6).symm.trans E
        cases E
        exact ea_return (pc := 50) dX12_coming_50 rfl
    refine ⟨?_, ?_⟩
    · intro el
      subst el
      have E := (if_neg (by decide)).symm.trans E
      have E := (if_neg (by decide)).symm.trans E
      have E := (if_pos rfl).symm.trans E
      refine ea_iload (pc := 54) dX12_coming_54 5 rfl ?_
      refine ea_aload_n (pc := 56) dX12_coming_56 rfl 0 rfl ?_
      refine ea_getI (pc := 57) dX12_coming_57 ec_12 (k := 63) (Nat.le_of_ble_eq_true rfl) rfl (Or.inl ew_1408) (hs.1 0 (by decide)).1 (hs.1 0 (by decide)).2.1 ?_
      refine ea_icmp_ge (pc := 60) (tgt := 178) dX12_coming_60 rfl (fun c17 => ?_) (fun c17 => ?_)
      · have E := (if_pos c17).symm.trans E
        cases E
        exact ea_return (pc := 178) dX12_coming_178 rfl
      · have E := (if_neg c17).symm.trans E
        refine ea_aload_n (pc := 63) dX12_coming_63 rfl 0 rfl ?_
        refine ea_iload (pc := 64) dX12_coming_64 5 rfl ?_
        refine ea_iload_n (pc := 66) dX12_coming_66 rfl 2 rfl ?_
        obtain ⟨z7, E⟩ := gd_some E
        refine ea_callV (pc := 67) (d' := d - 1) (As := [vI x5, vI x2]) (st := []) dX12_coming_67 kX12_isAboard (sX12_isAboard (d := d - 1) (by omega) hs z7) (by omega) rfl (Nat.le_of_ble_eq_true rfl) ew_2067 ew_2069 ew_95 (ci := 12) rfl (by decide) (hs.1 0 (by decide)).1 (hs.1 0 (by decide)).2.1 ?_
        refine ea_if_ne (pc := 70) (tgt := 76) dX12_coming_70 rfl (fun c16 => ?_) (fun c16 => ?_)
        · have E := (if_neg c16).symm.trans E
          refine ea_aload_n (pc := 76) dX12_coming_76 rfl 0 rfl ?_
          refine ea_getR (pc := 77) dX12_coming_77 ec_12 (k := 87) (Nat.le_of_ble_eq_true rfl) rfl (Or.inl ew_1432) (hs.1 0 (by decide)).1 (hs.1 0 (by decide)).2.1 (hs.2 0 87 rfl) ?_
          refine ea_iload (pc := 80) dX12_coming_80 5 rfl ?_
          obtain ⟨z8, E⟩ := gd_some E
          refine ea_zald (pc := 82) dX12_coming_82 (hs.1 61 (by decide)).1 (hs.1 61 (by decide)).2.1 (ea_vpl (hs.1 61 (by decide)).2.2 z8) ?_
          refine ea_if_eq (pc := 83) (tgt := 118) dX12_coming_83 rfl (fun c15 => ?_) (fun c15 => ?_)
          · have E := (if_pos c15).symm.trans E
            exact ((ih 118 0 (x1 : Int32) (x2 : Int32) (x3 : Int32) (x4 : Int32) (x5 : Int32) h _ _ E hs).2.2.2.1 rfl)
          · have E := (if_neg c15).symm.trans E
            refine ea_aload_n (pc := 86) dX12_coming_86 rfl 0 rfl ?_
            refine ea_getR (pc := 87) dX12_coming_87 ec_12 (k := 83) (Nat.le_of_ble_eq_true rfl) rfl (Or.inl ew_1428) (hs.1 0 (by decide)).1 (hs.1 0 (by decide)).2.1 (hs.2 0 83 rfl) ?_
            refine ea_iload (pc := 90) dX12_coming_90 5 rfl ?_
            obtain ⟨z9, E⟩ := gd_some E
            refine ea_iald (pc := 92) dX12_coming_92 (hs.1 57 (by decide)).1 (hs.1 57 (by decide)).2.1 (ea_vpl (hs.1 57 (by decide)).2.2 z9) ?_
            refine ea_iload_n (pc := 93) dX12_coming_93 rfl 3 rfl ?_
            refine ea_icmp_gt (pc := 94) (tgt := 118) dX12_coming_94 rfl (fun c14 => ?_) (fun c14 => ?_)
            · have E := (if_pos c14).symm.trans E
              exact ((ih 118 0 (x1 : Int32) (x2 : Int32) (x3 : Int32) (x4 : Int32) (x5 : Int32) h _ _ E hs).2.2.2.1 rfl)
            · have E := (if_neg c14).symm.trans E
              refine ea_aload_n (pc := 97) dX12_coming_97 rfl 0 rfl ?_
              refine ea_iload (pc := 98) dX12_coming_98 5 rfl ?_
              refine ea_aload_n (pc := 100) dX12_coming_100 rfl 0 rfl ?_
              refine ea_getR (pc := 101) dX12_coming_101 ec_12 (k := 14) (Nat.le_of_ble_eq_true rfl) rfl (Or.inl ew_1359) (hs.1 0 (by decide)).1 (hs.1 0 (by decide)).2.1 (hs.2 0 14 rfl) ?_
              refine ea_iload_n (pc := 104) dX12_coming_104 rfl 1 rfl ?_
              obtain ⟨z10, E⟩ := gd_some E
              refine ea_iald (pc := 105) dX12_coming_105 (hs.1 10 (by decide)).1 (hs.1 10 (by decide)).2.1 (ea_vpl (hs.1 10 (by decide)).2.2 z10) ?_
              refine ea_aload_n (pc := 106) dX12_coming_106 rfl 0 rfl ?_
              refine ea_iload_n (pc := 107) dX12_coming_107 rfl 2 rfl ?_
              refine ea_iload_n (pc := 108) dX12_coming_108 rfl 3 rfl ?_
              obtain ⟨z11, E⟩ := gd_some E
              refine ea_callV (pc := 109) (d' := d - 1) (As := [vI x2, vI x3]) (st := [vI (ea_i h (b0 + 10) (Int32.toNatClampNeg x1)), vI x5, vR (some (b0 + 0))]) dX12_coming_109 kX12_townOf (sX12_townOf (d := d - 1) (by omega) hs z11) (by omega) rfl (Nat.le_of_ble_eq_true rfl) ew_1798 ew_1800 ew_60 (ci := 12) rfl (by decide) (hs.1 0 (by decide)).1 (hs.1 0 (by decide)).2.1 ?_
              obtain ⟨z12, E⟩ := gd_some E
              refine ea_callV (pc := 112) (d' := d - 1) (As := [vI x5, vI (ea_i h (b0 + 10) (Int32.toNatClampNeg x1)), vI (vX12_townOf b0 (x2 : Int32) (x3 : Int32) h)]) (st := []) dX12_coming_112 kX12_putsDown (sX12_putsDown (d := d - 1) (by omega) hs z12) (by omega) rfl (Nat.le_of_ble_eq_true rfl) ew_2074 ew_2076 ew_96 (ci := 12) rfl (by decide) (hs.1 0 (by decide)).1 (hs.1 0 (by decide)).2.1 ?_
              have hs13 : ShM b0 (wX12_putsDown b0 (x5 : Int32) ((ea_i h (b0 + 10) (Int32.toNatClampNeg x1)) : Int32) ((vX12_townOf b0 (x2 : Int32) (x3 : Int32) h) : Int32) h) := shX12_putsDown hs
              refine ea_goto (pc := 115) (tgt := 172) dX12_coming_115 rfl ?_
              refine ea_iinc (pc := 172) (v := 1) (lv' := [(0, vR (some (b0 + 0))), (1, vI x1), (2, vI x2), (3, vI x3), (4, vI x4), (5, vI (x5 + (1 : Int32)))]) dX12_coming_172 5 rfl rfl (Nat.le_of_ble_eq_true rfl) [1, 2, 3, 4, 5, 0] rfl ?_
              refine ea_goto (pc := 175) (tgt := 54) dX12_coming_175 rfl ?_
              exact ((ih 54 0 (x1 : Int32) (x2 : Int32) (x3 : Int32) (x4 : Int32) ((x5 + (1 : Int32)) : Int32) (wX12_putsDown b0 (x5 : Int32) ((ea_i h (b0 + 10) (Int32.toNatClampNeg x1)) : Int32) ((vX12_townOf b0 (x2 : Int32) (x3 : Int32) h) : Int32) h) _ _ E hs13).2.2.1 rfl)
        · have E := (if_pos c16).symm.trans E
          refine ea_goto (pc := 73) (tgt := 172) dX12_coming_73 rfl ?_
          refine ea_iinc (pc := 172) (v := 1) (lv' := [(0, vR (some (b0 + 0))), (1, vI x1), (2, vI x2), (3, vI x3), (4, vI x4), (5, vI (x5 + (1 : Int32)))]) dX12_coming_172 5 rfl rfl (Nat.le_of_ble_eq_true rfl) [1, 2, 3, 4, 5, 0] rfl ?_
          refine ea_goto (pc := 175) (tgt := 54) dX12_coming_175 rfl ?_
          exact ((ih 54 0 (x1 : Int32) (x2 : Int32) (x3 : Int32) (x4 : Int32) ((x5 + (1 : Int32)) : Int32) h _ _ E hs).2.2.1 rfl)
    refine ⟨?_, ?_⟩
    · intro el
      subst el
      have E := (if_neg (by decide)).symm.trans E
      have E := (if_neg (by decide)).symm.trans E
      have E := (if_neg (by decide)).symm.trans E
      have E := (if_pos rfl).symm.trans E
      refine ea_iload (pc := 118) dX12_coming_118 4 rfl ?_
      refine ea_if_eq (pc := 120) (tgt := 172) dX12_coming_120 rfl (fun c26 => ?_) (fun c26 => ?_)
      · have E := (if_pos c26).symm.trans E
        refine ea_iinc (pc := 172) (v := 1) (lv' := [(0, vR (some (b0 + 0))), (1, vI x1), (2, vI x2), (3, vI x3), (4, vI x4), (5, vI (x5 + (1 : Int32)))]) dX12_coming_172 5 rfl rfl (Nat.le_of_ble_eq_true rfl) [1, 2, 3, 4, 5, 0] rfl ?_
        refine ea_goto (pc := 175) (tgt := 54) dX12_coming_175 rfl ?_
        exact ((ih 54 0 (x1 : Int32) (x2 : Int32) (x3 : Int32) (x4 : Int32) ((x5 + (1 : Int32)) : Int32) h _ _ E hs).2.2.1 rfl)
      · have E := (if_neg c26).symm.trans E
        refine ea_aload_n (pc := 123) dX12_coming_123 rfl 0 rfl ?_
        refine ea_getR (pc := 124) dX12_coming_124 ec_12 (k := 87) (Nat.le_of_ble_eq_true rfl) rfl (Or.inl ew_1432) (hs.1 0 (by decide)).1 (hs.1 0 (by decide)).2.1 (hs.2 0 87 rfl) ?_
        refine ea_iload (pc := 127) dX12_coming_127 5 rfl ?_
        obtain ⟨z18, E⟩ := gd_some E
        refine ea_zald (pc := 129) dX12_coming_129 (hs.1 61 (by decide)).1 (hs.1 61 (by decide)).2.1 (ea_vpl (hs.1 61 (by decide)).2.2 z18) ?_
        refine ea_if_ne (pc := 130) (tgt := 154) dX12_coming_130 rfl (fun c25 => ?_) (fun c25 => ?_)
        · have E := (if_neg c25).symm.trans E
          exact ((ih 154 0 (x1 : Int32) (x2 : Int32) (x3 : Int32) (x4 : Int32) (x5 : Int32) h _ _ E hs).2.2.2.2 rfl)
        · have E := (if_pos c25).symm.trans E
          refine ea_aload_n (pc := 133) dX12_coming_133 rfl 0 rfl ?_
          refine ea_getR (pc := 134) dX12_coming_134 ec_12 (k := 84) (Nat.le_of_ble_eq_true rfl) rfl (Or.inl ew_1429) (hs.1 0 (by decide)).1 (hs.1 0 (by decide)).2.1 (hs.2 0 84 rfl) ?_
          refine ea_iload (pc := 137) dX12_coming_137 5 rfl ?_
          refine ea_dup2 (pc := 139) dX12_coming_139 rfl rfl ?_
          obtain ⟨z19, E⟩ := gd_some E
          refine ea_iald (pc := 140) dX12_coming_140 (hs.1 58 (by decide)).1 (hs.1 58 (by decide)).2.1 (ea_vpl (hs.1 58 (by decide)).2.2 z19) ?_
          refine ea_iconst (pc := 141) dX12_coming_141 (v := 1) rfl ?_
          refine ea_iadd (pc := 142) dX12_coming_142 ?_
          obtain ⟨z20, E⟩ := gd_some E
          refine ea_iast (pc := 143) dX12_coming_143 (hs.1 58 (by decide)).1 (hs.1 58 (by decide)).2.1 (ea_vpl (hs.1 58 (by decide)).2.2 z20) ?_
          have hs21 : ShM b0 (ea_wi h (b0 + 58) (Int32.toNatClampNeg x5) ((ea_i h (b0 + 58) (Int32.toNatClampNeg x5)) + (1 : Int32))) := ShM_wi hs
          refine ea_aload_n (pc := 144) dX12_coming_144 rfl 0 rfl ?_
          refine ea_getR (pc := 145) dX12_coming_145 ec_12 (k := 86) (Nat.le_of_ble_eq_true rfl) rfl (Or.inl ew_1431) (hs21.1 0 (by decide)).1 (hs21.1 0 (by decide)).2.1 (hs21.2 0 86 rfl) ?_
          refine ea_iload_n (pc := 148) dX12_coming_148 rfl 2 rfl ?_
          refine ea_dup2 (pc := 149) dX12_coming_149 rfl rfl ?_
          obtain ⟨z22, E⟩ := gd_some E
          refine ea_iald (pc := 150) dX12_coming_150 (hs21.1 60 (by decide)).1 (hs21.1 60 (by decide)).2.1 (ea_vpl (hs21.1 60 (by decide)).2.2 z22) ?_
          refine ea_iconst (pc := 151) dX12_coming_151 (v := 1) rfl ?_
          refine ea_iadd (pc := 152) dX12_coming_152 ?_
          obtain ⟨z23, E⟩ := gd_some E
          refine ea_iast (pc := 153) dX12_coming_153 (hs21.1 60 (by decide)).1 (hs21.1 60 (by decide)).2.1 (ea_vpl (hs21.1 60 (by decide)).2.2 z23) ?_
          have hs24 : ShM b0 (ea_wi (ea_wi h (b0 + 58) (Int32.toNatClampNeg x5) ((ea_i h (b0 + 58) (Int32.toNatClampNeg x5)) + (1 : Int32))) (b0 + 60) (Int32.toNatClampNeg x2) ((ea_i (ea_wi h (b0 + 58) (Int32.toNatClampNeg x5) ((ea_i h (b0 + 58) (Int32.toNatClampNeg x5)) + (1 : Int32))) (b0 + 60) (Int32.toNatClampNeg x2)) + (1 : Int32))) := ShM_wi hs21
          exact ((ih 154 0 (x1 : Int32) (x2 : Int32) (x3 : Int32) (x4 : Int32) (x5 : Int32) (ea_wi (ea_wi h (b0 + 58) (Int32.toNatClampNeg x5) ((ea_i h (b0 + 58) (Int32.toNatClampNeg x5)) + (1 : Int32))) (b0 + 60) (Int32.toNatClampNeg x2) ((ea_i (ea_wi h (b0 + 58) (Int32.toNatClampNeg x5) ((ea_i h (b0 + 58) (Int32.toNatClampNeg x5)) + (1 : Int32))) (b0 + 60) (Int32.toNatClampNeg x2)) + (1 : Int32))) _ _ E hs24).2.2.2.2 rfl)
    intro el
    subst el
    have E := (if_neg (by decide)).symm.trans E
    have E := (if_neg (by decide)).symm.trans E
    have E := (if_neg (by decide)).symm.trans E
    have E := (if_neg (by decide)).symm.trans E
    have E := (if_pos rfl).symm.trans E
    refine ea_aload_n (pc := 154) dX12_coming_154 rfl 0 rfl ?_
    refine ea_iload (pc := 155) dX12_coming_155 5 rfl ?_
    refine ea_aload_n (pc := 157) dX12_coming_157 rfl 0 rfl ?_
    refine ea_getR (pc := 158) dX12_coming_158 ec_12 (k := 14) (Nat.le_of_ble_eq_true rfl) rfl (Or.inl ew_1359) (hs.1 0 (by decide)).1 (hs.1 0 (by decide)).2.1 (hs.2 0 14 rfl) ?_
    refine ea_iload_n (pc := 161) dX12_coming_161 rfl 1 rfl ?_
    obtain ⟨z27, E⟩ := gd_some E
    refine ea_iald (pc := 162) dX12_coming_162 (hs.1 10 (by decide)).1 (hs.1 10 (by decide)).2.1 (ea_vpl (hs.1 10 (by decide)).2.2 z27) ?_
    refine ea_aload_n (pc := 163) dX12_coming_163 rfl 0 rfl ?_
    refine ea_iload_n (pc := 164) dX12_coming_164 rfl 2 rfl ?_
    refine ea_iload_n (pc := 165) dX12_coming_165 rfl 3 rfl ?_
    obtain ⟨z28, E⟩ := gd_some E
    refine ea_callV (pc := 166) (d' := d - 1) (As := [vI x2, vI x3]) (st := [vI (ea_i h (b0 + 10) (Int32.toNatClampNeg x1)), vI x5, vR (some (b0 + 0))]) dX12_coming_166 kX12_townOf (sX12_townOf (d := d - 1) (by omega) hs z28) (by omega) rfl (Nat.le_of_ble_eq_true rfl) ew_1798 ew_1800 ew_60 (ci := 12) rfl (by decide) (hs.1 0 (by decide)).1 (hs.1 0 (by decide)).2.1 ?_
    obtain ⟨z29, E⟩ := gd_some E
    refine ea_callV (pc := 169) (d' := d - 1) (As := [vI x5, vI (ea_i h (b0 + 10) (Int32.toNatClampNeg x1)), vI (vX12_townOf b0 (x2 : Int32) (x3 : Int32) h)]) (st := []) dX12_coming_169 kX12_putsDown (sX12_putsDown (d := d - 1) (by omega) hs z29) (by omega) rfl (Nat.le_of_ble_eq_true rfl) ew_2074 ew_2076 ew_96 (ci := 12) rfl (by decide) (hs.1 0 (by decide)).1 (hs.1 0 (by decide)).2.1 ?_
    have hs30 : ShM b0 (wX12_putsDown b0 (x5 : Int32) ((ea_i h (b0 + 10) (Int32.toNatClampNeg x1)) : Int32) ((vX12_townOf b0 (x2 : Int32) (x3 : Int32) h) : Int32) h) := shX12_putsDown hs
    refine ea_iinc (pc := 172) (v := 1) (lv' := [(0, vR (some (b0 + 0))), (1, vI x1), (2, vI x2), (3, vI x3), (4, vI x4), (5, vI (x5 + (1 : Int32)))]) dX12_coming_172 5 rfl rfl (Nat.le_of_ble_eq_true rfl) [1, 2, 3, 4, 5, 0] rfl ?_
    refine ea_goto (pc := 175) (tgt := 54) dX12_coming_175 rfl ?_
    exact ((ih 54 0 (x1 : Int32) (x2 : Int32) (x3 : Int32) (x4 : Int32) ((x5 + (1 : Int32)) : Int32) (wX12_putsDown b0 (x5 : Int32) ((ea_i h (b0 + 10) (Int32.toNatClampNeg x1)) : Int32) ((vX12_townOf b0 (x2 : Int32) (x3 : Int32) h) : Int32) h) _ _ E hs30).2.2.1 rfl)
noncomputable def qX12_coming (b0 : Nat) (x1 : Int32) (h : ea_H) : Option (Unit × ea_H) := gX12_coming b0 1000000000 0 0 x1 0 0 0 0 h
def okX12_coming (b0 : Nat) (x1 : Int32) (h : ea_H) : Prop := ∃ x, qX12_coming b0 x1 h = some x
noncomputable def wX12_coming (b0 : Nat) (x1 : Int32) (h : ea_H) : ea_H := ((qX12_coming b0 x1 h).getD ((), h)).2
theorem sX12_coming {d : Nat} {b0 : Nat} {x1 : Int32} {h : ea_H} (hd : 3 ≤ d) (hs : ShM b0 h) (K : okX12_coming b0 x1 h) : ea_Met mX12_coming d [vR (some (b0 + 0)), vI x1] h none (wX12_coming b0 x1 h) := by
  obtain ⟨⟨x, y⟩, K⟩ := K
  unfold wX12_coming
  rw [K]
  unfold qX12_coming at K
  exact ea_enter rfl (Nat.le_of_ble_eq_true rfl) ((tX12_coming hd 1000000000 0 0 x1 0 0 0 0 h x y K hs).1 rfl)
theorem zX12_coming {b0 : Nat} : ∀ (f lbl : Nat) (sx0 : Int32) (x1 : Int32) (x2 : Int32) (x3 : Int32) (x4 : Int32) (x5 : Int32) (h : ea_H) (r : Unit) (h' : ea_H), gX12_coming b0 f lbl sx0 x1 x2 x3 x4 x5 h = some (r, h') → ShM b0 h → ShM b0 h' := by
  intro f
  induction f with
  | zero => intro lbl sx0 x1 x2 x3 x4 x5 h r h' E; cases E
  | succ f ih =>
    intro lbl sx0 x1 x2 x3 x4 x5 h r h' E hs
    unfold gX12_coming at E
    by_cases el0 : lbl = 0
    · have E := (if_pos el0).symm.trans E
      obtain ⟨z1, E⟩ := gd_some E
      obtain ⟨z2, E⟩ := gd_some E
      obtain ⟨z3, E⟩ := gd_some E
      by_cases c4 : (ea_i h (b0 + 13) (Int32.toNatClampNeg x1)) = ((ea_i h (b0 + 2) (Int32.toNatClampNeg ((ea_i h (b0 + 12) (Int32.toNatClampNeg x1)) / (7 : Int32)))) - (1 : Int32))
      · have E := (if_pos c4).symm.trans E
        exact ih 34 (1 : Int32) (x1 : Int32) ((ea_i h (b0 + 12) (Int32.toNatClampNeg x1)) : Int32) ((ea_i h (b0 + 13) (Int32.toNatClampNeg x1)) : Int32) 0 0 h _ _ E hs
      have E := (if_neg c4).symm.trans E
      exact ih 34 (0 : Int32) (x1 : Int32) ((ea_i h (b0 + 12) (Int32.toNatClampNeg x1)) : Int32) ((ea_i h (b0 + 13) (Int32.toNatClampNeg x1)) : Int32) 0 0 h _ _ E hs
    have E := (if_neg el0).symm.trans E
    by_cases el1 : lbl = 34
    · have E := (if_pos el1).symm.trans E
      obtain ⟨z5, E⟩ := gd_some E
      by_cases c6 : (ea_i h (b0 + 8) (Int32.toNatClampNeg (((8 : Int32) * x2) + x3))) = (0 : Int32)
      · have E := (if_pos c6).symm.trans E
        exact ih 54 0 (x1 : Int32) (x2 : Int32) (x3 : Int32) (sx0 : Int32) (0 : Int32) h _ _ E hs
      have E := (if_neg c6).symm.trans E
      cases E
      exact hs
    have E := (if_neg el1).symm.trans E
    by_cases el2 : lbl = 54
    · have E := (if_pos el2).symm.trans E
      by_cases c17 : (ea_i h (b0 + 0) 63) ≤ x5
      · have E := (if_pos c17).symm.trans E
        cases E
        exact hs
      have E := (if_neg c17).symm.trans E
      obtain ⟨z7, E⟩ := gd_some E
      by_cases c16 : (vX12_isAboard b0 (x5 : Int32) (x2 : Int32) h) = (0 : Int32)
      · have E := (if_pos c16).symm.trans E
        exact ih 54 0 (x1 : Int32) (x2 : Int32) (x3 : Int32) (x4 : Int32) ((x5 + (1 : Int32)) : Int32) h _ _ E hs
      have E := (if_neg c16).symm.trans E
      obtain ⟨z8, E⟩ := gd_some E
      by_cases c15 : (ea_i h (b0 + 61) (Int32.toNatClampNeg x5)) = (0 : Int32)
      · have E := (if_pos c15).symm.trans E
        exact ih 118 0 (x1 : Int32) (x2 : Int32) (x3 : Int32) (x4 : Int32) (x5 : Int32) h _ _ E hs
      have E := (if_neg c15).symm.trans E
      obtain ⟨z9, E⟩ := gd_some E
      by_cases c14 : x3 < (ea_i h (b0 + 57) (Int32.toNatClampNeg x5))
      · have E := (if_pos c14).symm.trans E
        exact ih 118 0 (x1 : Int32) (x2 : Int32) (x3 : Int32) (x4 : Int32) (x5 : Int32) h _ _ E hs
      have E := (if_neg c14).symm.trans E
      obtain ⟨z10, E⟩ := gd_some E
      obtain ⟨z11, E⟩ := gd_some E
      obtain ⟨z12, E⟩ := gd_some E
      exact ih 54 0 (x1 : Int32) (x2 : Int32) (x3 : Int32) (x4 : Int32) ((x5 + (1 : Int32)) : Int32) (wX12_putsDown b0 (x5 : Int32) ((ea_i h (b0 + 10) (Int32.toNatClampNeg x1)) : Int32) ((vX12_townOf b0 (x2 : Int32) (x3 : Int32) h) : Int32) h) _ _ E (shX12_putsDown hs)
    have E := (if_neg el2).symm.trans E
    by_cases el3 : lbl = 118
    · have E := (if_pos el3).symm.trans E
      by_cases c26 : x4 = (0 : Int32)
      · have E := (if_pos c26).symm.trans E
        exact ih 54 0 (x1 : Int32) (x2 : Int32) (x3 : Int32) (x4 : Int32) ((x5 + (1 : Int32)) : Int32) h _ _ E hs
      have E := (if_neg c26).symm.trans E
      obtain ⟨z18, E⟩ := gd_some E
      by_cases c25 : (ea_i h (b0 + 61) (Int32.toNatClampNeg x5)) = (0 : Int32)
      · have E := (if_pos c25).symm.trans E
        obtain ⟨z19, E⟩ := gd_some E
        obtain ⟨z20, E⟩ := gd_some E
        obtain ⟨z22, E⟩ := gd_some E
        obtain ⟨z23, E⟩ := gd_some E
        exact ih 154 0 (x1 : Int32) (x2 : Int32) (x3 : Int32) (x4 : Int32) (x5 : Int32) (ea_wi (ea_wi h (b0 + 58) (Int32.toNatClampNeg x5) ((ea_i h (b0 + 58) (Int32.toNatClampNeg x5)) + (1 : Int32))) (b0 + 60) (Int32.toNatClampNeg x2) ((ea_i (ea_wi h (b0 + 58) (Int32.toNatClampNeg x5) ((ea_i h (b0 + 58) (Int32.toNatClampNeg x5)) + (1 : Int32))) (b0 + 60) (Int32.toNatClampNeg x2)) + (1 : Int32))) _ _ E (ShM_wi (ShM_wi hs))
      have E := (if_neg c25).symm.trans E
      exact ih 154 0 (x1 : Int32) (x2 : Int32) (x3 : Int32) (x4 : Int32) (x5 : Int32) h _ _ E hs
    have E := (if_neg el3).symm.trans E
    by_cases el4 : lbl = 154
    · have E := (if_pos el4).symm.trans E
      obtain ⟨z27, E⟩ := gd_some E
      obtain ⟨z28, E⟩ := gd_some E
      obtain ⟨z29, E⟩ := gd_some E
      exact ih 54 0 (x1 : Int32) (x2 : Int32) (x3 : Int32) (x4 : Int32) ((x5 + (1 : Int32)) : Int32) (wX12_putsDown b0 (x5 : Int32) ((ea_i h (b0 + 10) (Int32.toNatClampNeg x1)) : Int32) ((vX12_townOf b0 (x2 : Int32) (x3 : Int32) h) : Int32) h) _ _ E (shX12_putsDown hs)
    have E := (if_neg el4).symm.trans E
    cases E
theorem shX12_coming {b0 : Nat} {x1 : Int32} {h : ea_H} (hs : ShM b0 h) : ShM b0 (wX12_coming b0 x1 h) := by
  unfold wX12_coming
  cases K : qX12_coming b0 x1 h with
  | none => exact hs
  | some x => obtain ⟨x, y⟩ := x; unfold qX12_coming at K; exact zX12_coming _ _ _ _ _ _ _ _ _ _ _ K hs
noncomputable def gX12_sorts (b0 : Nat) : Nat → Nat → Int32 → Int32 → Int32 → ea_H → Option (Unit × ea_H)
  | 0, _, _, _, _, _ => none
  | f + 1, lbl, x1, x2, x3, h =>
    if lbl = 0 then (gX12_sorts b0 f 2 (x1 : Int32) (x2 : Int32) (0 : Int32) h) else
    if lbl = 2 then (if (ea_i h (b0 + 0) 92) ≤ x3 then (some ((), h)) else (gd (vp_in x3 8) (if (ea_i h (b0 + 69) (Int32.toNatClampNeg x3)) = (0 : Int32) then (gX12_sorts b0 f 2 (x1 : Int32) (x2 : Int32) ((x3 + (1 : Int32)) : Int32) h) else (gd (vp_in x3 8) (if (((ea_i h (b0 + 67) (Int32.toNatClampNeg x3)) >>> (x2 &&& 31)) &&& (1 : Int32)) = (0 : Int32) then (gX12_sorts b0 f 2 (x1 : Int32) (x2 : Int32) ((x3 + (1 : Int32)) : Int32) h) else (gd (vp_in x3 8) (gd (vp_in x3 8) (gd (vp_in x1 120) (some ((), (ea_wi (ea_wi h (b0 + 69) (Int32.toNatClampNeg x3) ((ea_i h (b0 + 69) (Int32.toNatClampNeg x3)) - (1 : Int32))) (b0 + 61) (Int32.toNatClampNeg x1) 1))))))))))) else none
theorem tX12_sorts {d : Nat} {b0 : Nat} {h0 : ea_H} (hd : 1 ≤ d) : ∀ (f lbl : Nat) (x1 : Int32) (x2 : Int32) (x3 : Int32) (h : ea_H) (r : Unit) (h' : ea_H), gX12_sorts b0 f lbl x1 x2 x3 h = some (r, h') → ShM b0 h → (lbl = 0 → ea_W mX12_sorts d h0 none h' 0 [(0, vR (some (b0 + 0))), (1, vI x1), (2, vI x2)] [] h) ∧ (lbl = 2 → ea_W mX12_sorts d h0 none h' 2 [(0, vR (some (b0 + 0))), (1, vI x1), (2, vI x2), (3, vI x3)] [] h) := by
  intro f
  induction f with
  | zero => intro lbl x1 x2 x3 h r h' E; cases E
  | succ f ih =>
    intro lbl x1 x2 x3 h r h' E hs
    unfold gX12_sorts at E
    refine ⟨?_, ?_⟩
    · intro el
      subst el
      have E := (if_pos rfl).symm.trans E
      refine ea_iconst (pc := 0) dX12_sorts_0 (v := 0) rfl ?_
      refine ea_istore_n (pc := 1) (lv' := [(0, vR (some (b0 + 0))), (1, vI x1), (2, vI x2), (3, vI 0)]) dX12_sorts_1 rfl (Nat.le_of_ble_eq_true rfl) [1, 2, 3, 0] rfl ?_
      exact ((ih 2 (x1 : Int32) (x2 : Int32) (0 : Int32) h _ _ E hs).2 rfl)
    intro el
    subst el
    have E := (if_neg (by decide)).symm.trans E
    have E := (if_pos rfl).symm.trans E
    refine ea_iload_n (pc := 2) dX12_sorts_2 rfl 3 rfl ?_
    refine ea_aload_n (pc := 3) dX12_sorts_3 rfl 0 rfl ?_
    refine ea_getI (pc := 4) dX12_sorts_4 ec_12 (k := 92) (Nat.le_of_ble_eq_true rfl) rfl (Or.inl ew_1437) (hs.1 0 (by decide)).1 (hs.1 0 (by decide)).2.1 ?_
    refine ea_icmp_ge (pc := 7) (tgt := 59) dX12_sorts_7 rfl (fun c10 => ?_) (fun c10 => ?_)
    · have E := (if_pos c10).symm.trans E
      cases E
      exact ea_return (pc := 59) dX12_sorts_59 rfl
    · have E := (if_neg c10).symm.trans E
      refine ea_aload_n (pc := 10) dX12_sorts_10 rfl 0 rfl ?_
      refine ea_getR (pc := 11) dX12_sorts_11 ec_12 (k := 96) (Nat.le_of_ble_eq_true rfl) rfl (Or.inl ew_1441) (hs.1 0 (by decide)).1 (hs.1 0 (by decide)).2.1 (hs.2 0 96 rfl) ?_
      refine ea_iload_n (pc := 14) dX12_sorts_14 rfl 3 rfl ?_
      obtain ⟨z1, E⟩ := gd_some E
      refine ea_iald (pc := 15) dX12_sorts_15 (hs.1 69 (by decide)).1 (hs.1 69 (by decide)).2.1 (ea_vpl (hs.1 69 (by decide)).2.2 z1) ?_
      refine ea_if_eq (pc := 16) (tgt := 53) dX12_sorts_16 rfl (fun c9 => ?_) (fun c9 => ?_)
      · have E := (if_pos c9).symm.trans E
        refine ea_iinc (pc := 53) (v := 1) (lv' := [(0, vR (some (b0 + 0))), (1, vI x1), (2, vI x2), (3, vI (x3 + (1 : Int32)))]) dX12_sorts_53 3 rfl rfl (Nat.le_of_ble_eq_true rfl) [1, 2, 3, 0] rfl ?_
        refine ea_goto (pc := 56) (tgt := 2) dX12_sorts_56 rfl ?_
        exact ((ih 2 (x1 : Int32) (x2 : Int32) ((x3 + (1 : Int32)) : Int32) h _ _ E hs).2 rfl)
      · have E := (if_neg c9).symm.trans E
        refine ea_aload_n (pc := 19) dX12_sorts_19 rfl 0 rfl ?_
        refine ea_getR (pc := 20) dX12_sorts_20 ec_12 (k := 94) (Nat.le_of_ble_eq_true rfl) rfl (Or.inl ew_1439) (hs.1 0 (by decide)).1 (hs.1 0 (by decide)).2.1 (hs.2 0 94 rfl) ?_
        refine ea_iload_n (pc := 23) dX12_sorts_23 rfl 3 rfl ?_
        obtain ⟨z2, E⟩ := gd_some E
        refine ea_iald (pc := 24) dX12_sorts_24 (hs.1 67 (by decide)).1 (hs.1 67 (by decide)).2.1 (ea_vpl (hs.1 67 (by decide)).2.2 z2) ?_
        refine ea_iload_n (pc := 25) dX12_sorts_25 rfl 2 rfl ?_
        refine ea_ishr (pc := 26) dX12_sorts_26 ?_
        refine ea_iconst (pc := 27) dX12_sorts_27 (v := 1) rfl ?_
        refine ea_iand (pc := 28) dX12_sorts_28 ?_
        refine ea_if_ne (pc := 29) (tgt := 35) dX12_sorts_29 rfl (fun c8 => ?_) (fun c8 => ?_)
        · have E := (if_neg c8).symm.trans E
          refine ea_aload_n (pc := 35) dX12_sorts_35 rfl 0 rfl ?_
          refine ea_getR (pc := 36) dX12_sorts_36 ec_12 (k := 96) (Nat.le_of_ble_eq_true rfl) rfl (Or.inl ew_1441) (hs.1 0 (by decide)).1 (hs.1 0 (by decide)).2.1 (hs.2 0 96 rfl) ?_
          refine ea_iload_n (pc := 39) dX12_sorts_39 rfl 3 rfl ?_
          refine ea_dup2 (pc := 40) dX12_sorts_40 rfl rfl ?_
          obtain ⟨z3, E⟩ := gd_some E
          refine ea_iald (pc := 41) dX12_sorts_41 (hs.1 69 (by decide)).1 (hs.1 69 (by decide)).2.1 (ea_vpl (hs.1 69 (by decide)).2.2 z3) ?_
          refine ea_iconst (pc := 42) dX12_sorts_42 (v := 1) rfl ?_
          refine ea_isub (pc := 43) dX12_sorts_43 ?_
          obtain ⟨z4, E⟩ := gd_some E
          refine ea_iast (pc := 44) dX12_sorts_44 (hs.1 69 (by decide)).1 (hs.1 69 (by decide)).2.1 (ea_vpl (hs.1 69 (by decide)).2.2 z4) ?_
          have hs5 : ShM b0 (ea_wi h (b0 + 69) (Int32.toNatClampNeg x3) ((ea_i h (b0 + 69) (Int32.toNatClampNeg x3)) - (1 : Int32))) := ShM_wi hs
          refine ea_aload_n (pc := 45) dX12_sorts_45 rfl 0 rfl ?_
          refine ea_getR (pc := 46) dX12_sorts_46 ec_12 (k := 87) (Nat.le_of_ble_eq_true rfl) rfl (Or.inl ew_1432) (hs5.1 0 (by decide)).1 (hs5.1 0 (by decide)).2.1 (hs5.2 0 87 rfl) ?_
          refine ea_iload_n (pc := 49) dX12_sorts_49 rfl 1 rfl ?_
          refine ea_iconst (pc := 50) dX12_sorts_50 (v := 1) rfl ?_
          obtain ⟨z6, E⟩ := gd_some E
          refine ea_zast (pc := 51) dX12_sorts_51 (y := 1) (ea_bn (Or.inr rfl)) (hs5.1 61 (by decide)).1 (hs5.1 61 (by decide)).2.1 (ea_vpl (hs5.1 61 (by decide)).2.2 z6) ?_
          have hs7 : ShM b0 (ea_wi (ea_wi h (b0 + 69) (Int32.toNatClampNeg x3) ((ea_i h (b0 + 69) (Int32.toNatClampNeg x3)) - (1 : Int32))) (b0 + 61) (Int32.toNatClampNeg x1) 1) := ShM_wi hs5
          cases E
          exact ea_return (pc := 52) dX12_sorts_52 rfl
        · have E := (if_pos c8).symm.trans E
          refine ea_goto (pc := 32) (tgt := 53) dX12_sorts_32 rfl ?_
          refine ea_iinc (pc := 53) (v := 1) (lv' := [(0, vR (some (b0 + 0))), (1, vI x1), (2, vI x2), (3, vI (x3 + (1 : Int32)))]) dX12_sorts_53 3 rfl rfl (Nat.le_of_ble_eq_true rfl) [1, 2, 3, 0] rfl ?_
          refine ea_goto (pc := 56) (tgt := 2) dX12_sorts_56 rfl ?_
          exact ((ih 2 (x1 : Int32) (x2 : Int32) ((x3 + (1 : Int32)) : Int32) h _ _ E hs).2 rfl)
noncomputable def qX12_sorts (b0 : Nat) (x1 : Int32) (x2 : Int32) (h : ea_H) : Option (Unit × ea_H) := gX12_sorts b0 1000000000 0 x1 x2 0 h
def okX12_sorts (b0 : Nat) (x1 : Int32) (x2 : Int32) (h : ea_H) : Prop := ∃ x, qX12_sorts b0 x1 x2 h = some x
noncomputable def wX12_sorts (b0 : Nat) (x1 : Int32) (x2 : Int32) (h : ea_H) : ea_H := ((qX12_sorts b0 x1 x2 h).getD ((), h)).2
theorem sX12_sorts {d : Nat} {b0 : Nat} {x1 : Int32} {x2 : Int32} {h : ea_H} (hd : 1 ≤ d) (hs : ShM b0 h) (K : okX12_sorts b0 x1 x2 h) : ea_Met mX12_sorts d [vR (some (b0 + 0)), vI x1, vI x2] h none (wX12_sorts b0 x1 x2 h) := by
  obtain ⟨⟨x, y⟩, K⟩ := K
  unfold wX12_sorts
  rw [K]
  unfold qX12_sorts at K
  exact ea_enter rfl (Nat.le_of_ble_eq_true rfl) ((tX12_sorts hd 1000000000 0 x1 x2 0 h x y K hs).1 rfl)
theorem zX12_sorts {b0 : Nat} : ∀ (f lbl : Nat) (x1 : Int32) (x2 : Int32) (x3 : Int32) (h : ea_H) (r : Unit) (h' : ea_H), gX12_sorts b0 f lbl x1 x2 x3 h = some (r, h') → ShM b0 h → ShM b0 h' := by
  intro f
  induction f with
  | zero => intro lbl x1 x2 x3 h r h' E; cases E
  | succ f ih =>
    intro lbl x1 x2 x3 h r h' E hs
    unfold gX12_sorts at E
    by_cases el0 : lbl = 0
    · have E := (if_pos el0).symm.trans E
      exact ih 2 (x1 : Int32) (x2 : Int32) (0 : Int32) h _ _ E hs
    have E := (if_neg el0).symm.trans E
    by_cases el1 : lbl = 2
    · have E := (if_pos el1).symm.trans E
      by_cases c10 : (ea_i h (b0 + 0) 92) ≤ x3
      · have E := (if_pos c10).symm.trans E
        cases E
        exact hs
      have E := (if_neg c10).symm.trans E
      obtain ⟨z1, E⟩ := gd_some E
      by_cases c9 : (ea_i h (b0 + 69) (Int32.toNatClampNeg x3)) = (0 : Int32)
      · have E := (if_pos c9).symm.trans E
        exact ih 2 (x1 : Int32) (x2 : Int32) ((x3 + (1 : Int32)) : Int32) h _ _ E hs
      have E := (if_neg c9).symm.trans E
      obtain ⟨z2, E⟩ := gd_some E
      by_cases c8 : (((ea_i h (b0 + 67) (Int32.toNatClampNeg x3)) >>> (x2 &&& 31)) &&& (1 : Int32)) = (0 : Int32)
      · have E := (if_pos c8).symm.trans E
        exact ih 2 (x1 : Int32) (x2 : Int32) ((x3 + (1 : Int32)) : Int32) h _ _ E hs
      have E := (if_neg c8).symm.trans E
      obtain ⟨z3, E⟩ := gd_some E
      obtain ⟨z4, E⟩ := gd_some E
      obtain ⟨z6, E⟩ := gd_some E
      cases E
      exact (ShM_wi (ShM_wi hs))
    have E := (if_neg el1).symm.trans E
    cases E
theorem shX12_sorts {b0 : Nat} {x1 : Int32} {x2 : Int32} {h : ea_H} (hs : ShM b0 h) : ShM b0 (wX12_sorts b0 x1 x2 h) := by
  unfold wX12_sorts
  cases K : qX12_sorts b0 x1 x2 h with
  | none => exact hs
  | some x => obtain ⟨x, y⟩ := x; unfold qX12_sorts at K; exact zX12_sorts _ _ _ _ _ _ _ _ K hs
noncomputable def gX12_begins (b0 : Nat) : Nat → Nat → Int32 → Int32 → Int32 → Int32 → ea_H → Option (Unit × ea_H)
  | 0, _, _, _, _, _, _ => none
  | f + 1, lbl, sx0, sx1, x1, x2, h =>
    if lbl = 0 then (gX12_begins b0 f 2 0 0 (x1 : Int32) (0 : Int32) h) else
    if lbl = 2 then (if (ea_i h (b0 + 0) 63) ≤ x2 then (some ((), h)) else (gd (vp_in x2 120) (if (ea_i h (b0 + 55) (Int32.toNatClampNeg x2)) = (3 : Int32) then (gd (vp_in x2 120) (gd (vp_in x2 120) (gd (vp_in x2 120) (gd (vp_in x2 120) (if (ea_i (ea_wi h (b0 + 51) (Int32.toNatClampNeg x2) ((ea_i h (b0 + 51) (Int32.toNatClampNeg x2)) + (1 : Int32))) (b0 + 47) (Int32.toNatClampNeg x2)) = ((-1) : Int32) then (gX12_begins b0 f 64 (3 : Int32) ((ea_i (ea_wi h (b0 + 51) (Int32.toNatClampNeg x2) ((ea_i h (b0 + 51) (Int32.toNatClampNeg x2)) + (1 : Int32))) (b0 + 51) (Int32.toNatClampNeg x2)) : Int32) (x1 : Int32) (x2 : Int32) (ea_wi h (b0 + 51) (Int32.toNatClampNeg x2) ((ea_i h (b0 + 51) (Int32.toNatClampNeg x2)) + (1 : Int32)))) else (gd (vp_in x2 120) (gd (vp_in (ea_i (ea_wi h (b0 + 51) (Int32.toNatClampNeg x2) ((ea_i h (b0 + 51) (Int32.toNatClampNeg x2)) + (1 : Int32))) (b0 + 47) (Int32.toNatClampNeg x2)) 6) (gX12_begins b0 f 64 ((ea_i (ea_wi h (b0 + 51) (Int32.toNatClampNeg x2) ((ea_i h (b0 + 51) (Int32.toNatClampNeg x2)) + (1 : Int32))) (b0 + 28) (Int32.toNatClampNeg (ea_i (ea_wi h (b0 + 51) (Int32.toNatClampNeg x2) ((ea_i h (b0 + 51) (Int32.toNatClampNeg x2)) + (1 : Int32))) (b0 + 47) (Int32.toNatClampNeg x2)))) : Int32) ((ea_i (ea_wi h (b0 + 51) (Int32.toNatClampNeg x2) ((ea_i h (b0 + 51) (Int32.toNatClampNeg x2)) + (1 : Int32))) (b0 + 51) (Int32.toNatClampNeg x2)) : Int32) (x1 : Int32) (x2 : Int32) (ea_wi h (b0 + 51) (Int32.toNatClampNeg x2) ((ea_i h (b0 + 51) (Int32.toNatClampNeg x2)) + (1 : Int32))))))))))) else (gX12_begins b0 f 2 0 0 (x1 : Int32) ((x2 + (1 : Int32)) : Int32) h)))) else
    if lbl = 64 then (if sx1 < sx0 then (gX12_begins b0 f 2 0 0 (x1 : Int32) ((x2 + (1 : Int32)) : Int32) h) else (gd (vp_in x2 120) (gd ((okX12_turns b0 (x2 : Int32) (x1 : Int32) (6 : Int32) ((ea_i h (b0 + 56) (Int32.toNatClampNeg x2)) : Int32) h)) (gX12_begins b0 f 2 0 0 (x1 : Int32) ((x2 + (1 : Int32)) : Int32) (wX12_turns b0 (x2 : Int32) (x1 : Int32) (6 : Int32) ((ea_i h (b0 + 56) (Int32.toNatClampNeg x2)) : Int32) h))))) else none
theorem tX12_begins {d : Nat} {b0 : Nat} {h0 : ea_H} (hd : 2 ≤ d) : ∀ (f lbl : Nat) (sx0 : Int32) (sx1 : Int32) (x1 : Int32) (x2 : Int32) (h : ea_H) (r : Unit) (h' : ea_H), gX12_begins b0 f lbl sx0 sx1 x1 x2 h = some (r, h') → ShM b0 h → (lbl = 0 → ea_W mX12_begins d h0 none h' 0 [(0, vR (some (b0 + 0))), (1, vI x1)] [] h) ∧ (lbl = 2 → ea_W mX12_begins d h0 none h' 2 [(0, vR (some (b0 + 0))), (1, vI x1), (2, vI x2)] [] h) ∧ (lbl = 64 → ea_W mX12_begins d h0 none h' 64 [(0, vR (some (b0 + 0))), (1, vI x1), (2, vI x2)] [vI sx0, vI sx1] h) := by
  intro f
  induction f with
  | zero => intro lbl sx0 sx1 x1 x2 h r h' E; cases E
  | succ f ih =>
    intro lbl sx0 sx1 x1 x2 h r h' E hs
    unfold gX12_begins at E
    refine ⟨?_, ?_⟩
    · intro el
      subst el
      have E := (if_pos rfl).symm.trans E
      refine ea_iconst (pc := 0) dX12_begins_0 (v := 0) rfl ?_
      refine ea_istore_n (pc := 1) (lv' := [(0, vR (some (b0 + 0))), (1, vI x1), (2, vI 0)]) dX12_begins_1 rfl (Nat.le_of_ble_eq_true rfl) [1, 2, 0] rfl ?_
      exact ((ih 2 0 0 (x1 : Int32) (0 : Int32) h _ _ E hs).2.1 rfl)
    refine ⟨?_, ?_⟩
    · intro el
      subst el
      have E := (if_neg (by decide)).symm.trans E
      have E := (if_pos rfl).symm.trans E
      refine ea_iload_n (pc := 2) dX12_begins_2 rfl 2 rfl ?_
      refine ea_aload_n (pc := 3) dX12_begins_3 rfl 0 rfl ?_
      refine ea_getI (pc := 4) dX12_begins_4 ec_12 (k := 63) (Nat.le_of_ble_eq_true rfl) rfl (Or.inl ew_1408) (hs.1 0 (by decide)).1 (hs.1 0 (by decide)).2.1 ?_
      refine ea_icmp_ge (pc := 7) (tgt := 87) dX12_begins_7 rfl (fun c11 => ?_) (fun c11 => ?_)
      · have E := (if_pos c11).symm.trans E
        cases E
        exact ea_return (pc := 87) dX12_begins_87 rfl
      · have E := (if_neg c11).symm.trans E
        refine ea_aload_n (pc := 10) dX12_begins_10 rfl 0 rfl ?_
        refine ea_getR (pc := 11) dX12_begins_11 ec_12 (k := 81) (Nat.le_of_ble_eq_true rfl) rfl (Or.inl ew_1426) (hs.1 0 (by decide)).1 (hs.1 0 (by decide)).2.1 (hs.2 0 81 rfl) ?_
        refine ea_iload_n (pc := 14) dX12_begins_14 rfl 2 rfl ?_
        obtain ⟨z1, E⟩ := gd_some E
        refine ea_iald (pc := 15) dX12_begins_15 (hs.1 55 (by decide)).1 (hs.1 55 (by decide)).2.1 (ea_vpl (hs.1 55 (by decide)).2.2 z1) ?_
        refine ea_iconst (pc := 16) dX12_begins_16 (v := 3) rfl ?_
        refine ea_icmp_eq (pc := 17) (tgt := 23) dX12_begins_17 rfl (fun c10 => ?_) (fun c10 => ?_)
        · have E := (if_pos c10).symm.trans E
          refine ea_aload_n (pc := 23) dX12_begins_23 rfl 0 rfl ?_
          refine ea_getR (pc := 24) dX12_begins_24 ec_12 (k := 77) (Nat.le_of_ble_eq_true rfl) rfl (Or.inl ew_1422) (hs.1 0 (by decide)).1 (hs.1 0 (by decide)).2.1 (hs.2 0 77 rfl) ?_
          refine ea_iload_n (pc := 27) dX12_begins_27 rfl 2 rfl ?_
          refine ea_dup2 (pc := 28) dX12_begins_28 rfl rfl ?_
          obtain ⟨z2, E⟩ := gd_some E
          refine ea_iald (pc := 29) dX12_begins_29 (hs.1 51 (by decide)).1 (hs.1 51 (by decide)).2.1 (ea_vpl (hs.1 51 (by decide)).2.2 z2) ?_
          refine ea_iconst (pc := 30) dX12_begins_30 (v := 1) rfl ?_
          refine ea_iadd (pc := 31) dX12_begins_31 ?_
          obtain ⟨z3, E⟩ := gd_some E
          refine ea_iast (pc := 32) dX12_begins_32 (hs.1 51 (by decide)).1 (hs.1 51 (by decide)).2.1 (ea_vpl (hs.1 51 (by decide)).2.2 z3) ?_
          have hs4 : ShM b0 (ea_wi h (b0 + 51) (Int32.toNatClampNeg x2) ((ea_i h (b0 + 51) (Int32.toNatClampNeg x2)) + (1 : Int32))) := ShM_wi hs
          refine ea_aload_n (pc := 33) dX12_begins_33 rfl 0 rfl ?_
          refine ea_getR (pc := 34) dX12_begins_34 ec_12 (k := 77) (Nat.le_of_ble_eq_true rfl) rfl (Or.inl ew_1422) (hs4.1 0 (by decide)).1 (hs4.1 0 (by decide)).2.1 (hs4.2 0 77 rfl) ?_
          refine ea_iload_n (pc := 37) dX12_begins_37 rfl 2 rfl ?_
          obtain ⟨z5, E⟩ := gd_some E
          refine ea_iald (pc := 38) dX12_begins_38 (hs4.1 51 (by decide)).1 (hs4.1 51 (by decide)).2.1 (ea_vpl (hs4.1 51 (by decide)).2.2 z5) ?_
          refine ea_aload_n (pc := 39) dX12_begins_39 rfl 0 rfl ?_
          refine ea_getR (pc := 40) dX12_begins_40 ec_12 (k := 73) (Nat.le_of_ble_eq_true rfl) rfl (Or.inl ew_1418) (hs4.1 0 (by decide)).1 (hs4.1 0 (by decide)).2.1 (hs4.2 0 73 rfl) ?_
          refine ea_iload_n (pc := 43) dX12_begins_43 rfl 2 rfl ?_
          obtain ⟨z6, E⟩ := gd_some E
          refine ea_iald (pc := 44) dX12_begins_44 (hs4.1 47 (by decide)).1 (hs4.1 47 (by decide)).2.1 (ea_vpl (hs4.1 47 (by decide)).2.2 z6) ?_
          refine ea_iconst (pc := 45) dX12_begins_45 (v := (-1)) rfl ?_
          refine ea_icmp_ne (pc := 46) (tgt := 53) dX12_begins_46 rfl (fun c9 => ?_) (fun c9 => ?_)
          · have E := (if_neg c9).symm.trans E
            refine ea_aload_n (pc := 53) dX12_begins_53 rfl 0 rfl ?_
            refine ea_getR (pc := 54) dX12_begins_54 ec_12 (k := 33) (Nat.le_of_ble_eq_true rfl) rfl (Or.inl ew_1378) (hs4.1 0 (by decide)).1 (hs4.1 0 (by decide)).2.1 (hs4.2 0 33 rfl) ?_
            refine ea_aload_n (pc := 57) dX12_begins_57 rfl 0 rfl ?_
            refine ea_getR (pc := 58) dX12_begins_58 ec_12 (k := 73) (Nat.le_of_ble_eq_true rfl) rfl (Or.inl ew_1418) (hs4.1 0 (by decide)).1 (hs4.1 0 (by decide)).2.1 (hs4.2 0 73 rfl) ?_
            refine ea_iload_n (pc := 61) dX12_begins_61 rfl 2 rfl ?_
            obtain ⟨z7, E⟩ := gd_some E
            refine ea_iald (pc := 62) dX12_begins_62 (hs4.1 47 (by decide)).1 (hs4.1 47 (by decide)).2.1 (ea_vpl (hs4.1 47 (by decide)).2.2 z7) ?_
            obtain ⟨z8, E⟩ := gd_some E
            refine ea_iald (pc := 63) dX12_begins_63 (hs4.1 28 (by decide)).1 (hs4.1 28 (by decide)).2.1 (ea_vpl (hs4.1 28 (by decide)).2.2 z8) ?_
            exact ((ih 64 ((ea_i (ea_wi h (b0 + 51) (Int32.toNatClampNeg x2) ((ea_i h (b0 + 51) (Int32.toNatClampNeg x2)) + (1 : Int32))) (b0 + 28) (Int32.toNatClampNeg (ea_i (ea_wi h (b0 + 51) (Int32.toNatClampNeg x2) ((ea_i h (b0 + 51) (Int32.toNatClampNeg x2)) + (1 : Int32))) (b0 + 47) (Int32.toNatClampNeg x2)))) : Int32) ((ea_i (ea_wi h (b0 + 51) (Int32.toNatClampNeg x2) ((ea_i h (b0 + 51) (Int32.toNatClampNeg x2)) + (1 : Int32))) (b0 + 51) (Int32.toNatClampNeg x2)) : Int32) (x1 : Int32) (x2 : Int32) (ea_wi h (b0 + 51) (Int32.toNatClampNeg x2) ((ea_i h (b0 + 51) (Int32.toNatClampNeg x2)) + (1 : Int32))) _ _ E hs4).2.2 rfl)
          · have E := (if_pos c9).symm.trans E
            refine ea_iconst (pc := 49) dX12_begins_49 (v := 3) rfl ?_
            refine ea_goto (pc := 50) (tgt := 64) dX12_begins_50 rfl ?_
            exact ((ih 64 (3 : Int32) ((ea_i (ea_wi h (b0 + 51) (Int32.toNatClampNeg x2) ((ea_i h (b0 + 51) (Int32.toNatClampNeg x2)) + (1 : Int32))) (b0 + 51) (Int32.toNatClampNeg x2)) : Int32) (x1 : Int32) (x2 : Int32) (ea_wi h (b0 + 51) (Int32.toNatClampNeg x2) ((ea_i h (b0 + 51) (Int32.toNatClampNeg x2)) + (1 : Int32))) _ _ E hs4).2.2 rfl)
        · have E := (if_neg c10).symm.trans E
          refine ea_goto (pc := 20) (tgt := 81) dX12_begins_20 rfl ?_
          refine ea_iinc (pc := 81) (v := 1) (lv' := [(0, vR (some (b0 + 0))), (1, vI x1), (2, vI (x2 + (1 : Int32)))]) dX12_begins_81 2 rfl rfl (Nat.le_of_ble_eq_true rfl) [1, 2, 0] rfl ?_
          refine ea_goto (pc := 84) (tgt := 2) dX12_begins_84 rfl ?_
          exact ((ih 2 0 0 (x1 : Int32) ((x2 + (1 : Int32)) : Int32) h _ _ E hs).2.1 rfl)
    intro el
    subst el
    have E := (if_neg (by decide)).symm.trans E
    have E := (if_neg (by decide)).symm.trans E
    have E := (if_pos rfl).symm.trans E
    refine ea_icmp_lt (pc := 64) (tgt := 81) dX12_begins_64 rfl (fun c15 => ?_) (fun c15 => ?_)
    · have E := (if_pos c15).symm.trans E
      refine ea_iinc (pc := 81) (v := 1) (lv' := [(0, vR (some (b0 + 0))), (1, vI x1), (2, vI (x2 + (1 : Int32)))]) dX12_begins_81 2 rfl rfl (Nat.le_of_ble_eq_true rfl) [1, 2, 0] rfl ?_
      refine ea_goto (pc := 84) (tgt := 2) dX12_begins_84 rfl ?_
      exact ((ih 2 0 0 (x1 : Int32) ((x2 + (1 : Int32)) : Int32) h _ _ E hs).2.1 rfl)
    · have E := (if_neg c15).symm.trans E
      refine ea_aload_n (pc := 67) dX12_begins_67 rfl 0 rfl ?_
      refine ea_iload_n (pc := 68) dX12_begins_68 rfl 2 rfl ?_
      refine ea_iload_n (pc := 69) dX12_begins_69 rfl 1 rfl ?_
      refine ea_bipush (pc := 70) dX12_begins_70 (v := 6) rfl ?_
      refine ea_aload_n (pc := 72) dX12_begins_72 rfl 0 rfl ?_
      refine ea_getR (pc := 73) dX12_begins_73 ec_12 (k := 82) (Nat.le_of_ble_eq_true rfl) rfl (Or.inl ew_1427) (hs.1 0 (by decide)).1 (hs.1 0 (by decide)).2.1 (hs.2 0 82 rfl) ?_
      refine ea_iload_n (pc := 76) dX12_begins_76 rfl 2 rfl ?_
      obtain ⟨z12, E⟩ := gd_some E
      refine ea_iald (pc := 77) dX12_begins_77 (hs.1 56 (by decide)).1 (hs.1 56 (by decide)).2.1 (ea_vpl (hs.1 56 (by decide)).2.2 z12) ?_
      obtain ⟨z13, E⟩ := gd_some E
      refine ea_callV (pc := 78) (d' := d - 1) (As := [vI x2, vI x1, vI 6, vI (ea_i h (b0 + 56) (Int32.toNatClampNeg x2))]) (st := []) dX12_begins_78 kX12_turns (sX12_turns (d := d - 1) (by omega) hs z13) (by omega) rfl (Nat.le_of_ble_eq_true rfl) ew_2011 ew_2013 ew_88 (ci := 12) rfl (by decide) (hs.1 0 (by decide)).1 (hs.1 0 (by decide)).2.1 ?_
      have hs14 : ShM b0 (wX12_turns b0 (x2 : Int32) (x1 : Int32) (6 : Int32) ((ea_i h (b0 + 56) (Int32.toNatClampNeg x2)) : Int32) h) := shX12_turns hs
      refine ea_iinc (pc := 81) (v := 1) (lv' := [(0, vR (some (b0 + 0))), (1, vI x1), (2, vI (x2 + (1 : Int32)))]) dX12_begins_81 2 rfl rfl (Nat.le_of_ble_eq_true rfl) [1, 2, 0] rfl ?_
      refine ea_goto (pc := 84) (tgt := 2) dX12_begins_84 rfl ?_
      exact ((ih 2 0 0 (x1 : Int32) ((x2 + (1 : Int32)) : Int32) (wX12_turns b0 (x2 : Int32) (x1 : Int32) (6 : Int32) ((ea_i h (b0 + 56) (Int32.toNatClampNeg x2)) : Int32) h) _ _ E hs14).2.1 rfl)
noncomputable def qX12_begins (b0 : Nat) (x1 : Int32) (h : ea_H) : Option (Unit × ea_H) := gX12_begins b0 1000000000 0 0 0 x1 0 h
def okX12_begins (b0 : Nat) (x1 : Int32) (h : ea_H) : Prop := ∃ x, qX12_begins b0 x1 h = some x
noncomputable def wX12_begins (b0 : Nat) (x1 : Int32) (h : ea_H) : ea_H := ((qX12_begins b0 x1 h).getD ((), h)).2
theorem sX12_begins {d : Nat} {b0 : Nat} {x1 : Int32} {h : ea_H} (hd : 2 ≤ d) (hs : ShM b0 h) (K : okX12_begins b0 x1 h) : ea_Met mX12_begins d [vR (some (b0 + 0)), vI x1] h none (wX12_begins b0 x1 h) := by
  obtain ⟨⟨x, y⟩, K⟩ := K
  unfold wX12_begins
  rw [K]
  unfold qX12_begins at K
  exact ea_enter rfl (Nat.le_of_ble_eq_true rfl) ((tX12_begins hd 1000000000 0 0 0 x1 0 h x y K hs).1 rfl)
theorem zX12_begins {b0 : Nat} : ∀ (f lbl : Nat) (sx0 : Int32) (sx1 : Int32) (x1 : Int32) (x2 : Int32) (h : ea_H) (r : Unit) (h' : ea_H), gX12_begins b0 f lbl sx0 sx1 x1 x2 h = some (r, h') → ShM b0 h → ShM b0 h' := by
  intro f
  induction f with
  | zero => intro lbl sx0 sx1 x1 x2 h r h' E; cases E
  | succ f ih =>
    intro lbl sx0 sx1 x1 x2 h r h' E hs
    unfold gX12_begins at E
    by_cases el0 : lbl = 0
    · have E := (if_pos el0).symm.trans E
      exact ih 2 0 0 (x1 : Int32) (0 : Int32) h _ _ E hs
    have E := (if_neg el0).symm.trans E
    by_cases el1 : lbl = 2
    · have E := (if_pos el1).symm.trans E
      by_cases c11 : (ea_i h (b0 + 0) 63) ≤ x2
      · have E := (if_pos c11).symm.trans E
        cases E
        exact hs
      have E := (if_neg c11).symm.trans E
      obtain ⟨z1, E⟩ := gd_some E
      by_cases c10 : (ea_i h (b0 + 55) (Int32.toNatClampNeg x2)) = (3 : Int32)
      · have E := (if_pos c10).symm.trans E
        obtain ⟨z2, E⟩ := gd_some E
        obtain ⟨z3, E⟩ := gd_some E
        obtain ⟨z5, E⟩ := gd_some E
        obtain ⟨z6, E⟩ := gd_some E
        by_cases c9 : (ea_i (ea_wi h (b0 + 51) (Int32.toNatClampNeg x2) ((ea_i h (b0 + 51) (Int32.toNatClampNeg x2)) + (1 : Int32))) (b0 + 47) (Int32.toNatClampNeg x2)) = ((-1) : Int32)
        · have E := (if_pos c9).symm.trans E
          exact ih 64 (3 : Int32) ((ea_i (ea_wi h (b0 + 51) (Int32.toNatClampNeg x2) ((ea_i h (b0 + 51) (Int32.toNatClampNeg x2)) + (1 : Int32))) (b0 + 51) (Int32.toNatClampNeg x2)) : Int32) (x1 : Int32) (x2 : Int32) (ea_wi h (b0 + 51) (Int32.toNatClampNeg x2) ((ea_i h (b0 + 51) (Int32.toNatClampNeg x2)) + (1 : Int32))) _ _ E (ShM_wi hs)
        have E := (if_neg c9).symm.trans E
        obtain ⟨z7, E⟩ := gd_some E
        obtain ⟨z8, E⟩ := gd_some E
        exact ih 64 ((ea_i (ea_wi h (b0 + 51) (Int32.toNatClampNeg x2) ((ea_i h (b0 + 51) (Int32.toNatClampNeg x2)) + (1 : Int32))) (b0 + 28) (Int32.toNatClampNeg (ea_i (ea_wi h (b0 + 51) (Int32.toNatClampNeg x2) ((ea_i h (b0 + 51) (Int32.toNatClampNeg x2)) + (1 : Int32))) (b0 + 47) (Int32.toNatClampNeg x2)))) : Int32) ((ea_i (ea_wi h (b0 + 51) (Int32.toNatClampNeg x2) ((ea_i h (b0 + 51) (Int32.toNatClampNeg x2)) + (1 : Int32))) (b0 + 51) (Int32.toNatClampNeg x2)) : Int32) (x1 : Int32) (x2 : Int32) (ea_wi h (b0 + 51) (Int32.toNatClampNeg x2) ((ea_i h (b0 + 51) (Int32.toNatClampNeg x2)) + (1 : Int32))) _ _ E (ShM_wi hs)
      have E := (if_neg c10).symm.trans E
      exact ih 2 0 0 (x1 : Int32) ((x2 + (1 : Int32)) : Int32) h _ _ E hs
    have E := (if_neg el1).symm.trans E
    by_cases el2 : lbl = 64
    · have E := (if_pos el2).symm.trans E
      by_cases c15 : sx1 < sx0
      · have E := (if_pos c15).symm.trans E
        exact ih 2 0 0 (x1 : Int32) ((x2 + (1 : Int32)) : Int32) h _ _ E hs
      have E := (if_neg c15).symm.trans E
      obtain ⟨z12, E⟩ := gd_some E
      obtain ⟨z13, E⟩ := gd_some E
      exact ih 2 0 0 (x1 : Int32) ((x2 + (1 : Int32)) : Int32) (wX12_turns b0 (x2 : Int32) (x1 : Int32) (6 : Int32) ((ea_i h (b0 + 56) (Int32.toNatClampNeg x2)) : Int32) h) _ _ E (shX12_turns hs)
    have E := (if_neg el2).symm.trans E
    cases E
theorem shX12_begins {b0 : Nat} {x1 : Int32} {h : ea_H} (hs : ShM b0 h) : ShM b0 (wX12_begins b0 x1 h) := by
  unfold wX12_begins
  cases K : qX12_begins b0 x1 h with
  | none => exact hs
  | some x => obtain ⟨x, y⟩ := x; unfold qX12_begins at K; exact zX12_begins _ _ _ _ _ _ _ _ _ K hs
noncomputable def gX12_look (b0 : Nat) : Nat → Nat → Int32 → Int32 → Int32 → ea_H → Option (Int32 × ea_H)
  | 0, _, _, _, _, _ => none
  | f + 1, lbl, x1, x2, x3, h =>
    if lbl = 0 then (if Int32.toInt x1 = 0 then (some ((ea_i h (b0 + 0) 0), h)) else (if Int32.toInt x1 = 1 then (some ((ea_i h (b0 + 0) 1), h)) else (if Int32.toInt x1 = 2 then (some ((ea_i h (b0 + 0) 2), h)) else (if Int32.toInt x1 = 3 then (some ((ea_i h (b0 + 0) 63), h)) else (if Int32.toInt x1 = 4 then (some ((ea_i h (b0 + 0) 92), h)) else (if Int32.toInt x1 = 5 then (some ((ea_i h (b0 + 0) 25), h)) else (if (vX12_isIn (x1 : Int32) (10 : Int32) (16 : Int32) h) = (0 : Int32) then (some (((-1) : Int32), h)) else (gX12_look b0 f 85 (x1 : Int32) (0 : Int32) (0 : Int32) h)))))))) else
    if lbl = 85 then (if (ea_i h (b0 + 0) 63) ≤ x3 then (some (x2, h)) else (gd (vp_in x3 120) (if (ea_i h (b0 + 55) (Int32.toNatClampNeg x3)) = (x1 - (10 : Int32)) then (gX12_look b0 f 85 (x1 : Int32) ((x2 + (1 : Int32)) : Int32) ((x3 + (1 : Int32)) : Int32) h) else (gX12_look b0 f 85 (x1 : Int32) ((x2 + (0 : Int32)) : Int32) ((x3 + (1 : Int32)) : Int32) h)))) else none
theorem tX12_look {d : Nat} {b0 : Nat} {h0 : ea_H} (hd : 2 ≤ d) : ∀ (f lbl : Nat) (x1 : Int32) (x2 : Int32) (x3 : Int32) (h : ea_H) (r : Int32) (h' : ea_H), gX12_look b0 f lbl x1 x2 x3 h = some (r, h') → ShM b0 h → (lbl = 0 → ea_W mX12_look d h0 (some (vI r)) h' 0 [(0, vR (some (b0 + 0))), (1, vI x1)] [] h) ∧ (lbl = 85 → ea_W mX12_look d h0 (some (vI r)) h' 85 [(0, vR (some (b0 + 0))), (1, vI x1), (2, vI x2), (3, vI x3)] [] h) := by
  intro f
  induction f with
  | zero => intro lbl x1 x2 x3 h r h' E; cases E
  | succ f ih =>
    intro lbl x1 x2 x3 h r h' E hs
    unfold gX12_look at E
    refine ⟨?_, ?_⟩
    · intro el
      subst el
      have E := (if_pos rfl).symm.trans E
      refine ea_iconst (pc := 0) dX12_look_0 (v := 0) rfl ?_
      refine ea_istore_n (pc := 1) (lv' := [(0, vR (some (b0 + 0))), (1, vI x1), (2, vI 0)]) dX12_look_1 rfl (Nat.le_of_ble_eq_true rfl) [1, 2, 0] rfl ?_
      refine ea_iload_n (pc := 2) dX12_look_2 rfl 1 rfl ?_
      by_cases qc3_0 : Int32.toInt x1 = 0
      · have E := (if_pos qc3_0).symm.trans E
        refine ea_tswIn (pc := 3) (tgt := 40) dX12_look_3 (by rw [qc3_0]; decide) (by rw [qc3_0]; decide) (by rw [qc3_0]; rfl) rfl ?_
        refine ea_aload_n (pc := 40) dX12_look_40 rfl 0 rfl ?_
        refine ea_getI (pc := 41) dX12_look_41 ec_12 (k := 0) (Nat.le_of_ble_eq_true rfl) rfl (Or.inl ew_1345) (hs.1 0 (by decide)).1 (hs.1 0 (by decide)).2.1 ?_
        cases E
        exact ea_ireturn (pc := 44) dX12_look_44 rfl rfl
      have E := (if_neg qc3_0).symm.trans E
      by_cases qc3_1 : Int32.toInt x1 = 1
      · have E := (if_pos qc3_1).symm.trans E
        refine ea_tswIn (pc := 3) (tgt := 45) dX12_look_3 (by rw [qc3_1]; decide) (by rw [qc3_1]; decide) (by rw [qc3_1]; rfl) rfl ?_
        refine ea_aload_n (pc := 45) dX12_look_45 rfl 0 rfl ?_
        refine ea_getI (pc := 46) dX12_look_46 ec_12 (k := 1) (Nat.le_of_ble_eq_true rfl) rfl (Or.inl ew_1346) (hs.1 0 (by decide)).1 (hs.1 0 (by decide)).2.1 ?_
        cases E
        exact ea_ireturn (pc := 49) dX12_look_49 rfl rfl
      have E := (if_neg qc3_1).symm.trans E
      by_cases qc3_2 : Int32.toInt x1 = 2
      · have E := (if_pos qc3_2).symm.trans E
        refine ea_tswIn (pc := 3) (tgt := 50) dX12_look_3 (by rw [qc3_2]; decide) (by rw [qc3_2]; decide) (by rw [qc3_2]; rfl) rfl ?_
        refine ea_aload_n (pc := 50) dX12_look_50 rfl 0 rfl ?_
        refine ea_getI (pc := 51) dX12_look_51 ec_12 (k := 2) (Nat.le_of_ble_eq_true rfl) rfl (Or.inl ew_1347) (hs.1 0 (by decide)).1 (hs.1 0 (by decide)).2.1 ?_
        cases E
        exact ea_ireturn (pc := 54) dX12_look_54 rfl rfl
      have E := (if_neg qc3_2).symm.trans E
      by_cases qc3_3 : Int32.toInt x1 = 3
      · have E := (if_pos qc3_3).symm.trans E
        refine ea_tswIn (pc := 3) (tgt := 55) dX12_look_3 (by rw [qc3_3]; decide) (by rw [qc3_3]; decide) (by rw [qc3_3]; rfl) rfl ?_
        refine ea_aload_n (pc := 55) dX12_look_55 rfl 0 rfl ?_
        refine ea_getI (pc := 56) dX12_look_56 ec_12 (k := 63) (Nat.le_of_ble_eq_true rfl) rfl (Or.inl ew_1408) (hs.1 0 (by decide)).1 (hs.1 0 (by decide)).2.1 ?_
        cases E
        exact ea_ireturn (pc := 59) dX12_look_59 rfl rfl
      have E := (if_neg qc3_3).symm.trans E
      by_cases qc3_4 : Int32.toInt x1 = 4
      · have E := (if_pos qc3_4).symm.trans E
        refine ea_tswIn (pc := 3) (tgt := 60) dX12_look_3 (by rw [qc3_4]; decide) (by rw [qc3_4]; decide) (by rw [qc3_4]; rfl) rfl ?_
        refine ea_aload_n (pc := 60) dX12_look_60 rfl 0 rfl ?_
        refine ea_getI (pc := 61) dX12_look_61 ec_12 (k := 92) (Nat.le_of_ble_eq_true rfl) rfl (Or.inl ew_1437) (hs.1 0 (by decide)).1 (hs.1 0 (by decide)).2.1 ?_
        cases E
        exact ea_ireturn (pc := 64) dX12_look_64 rfl rfl
      have E := (if_neg qc3_4).symm.trans E
      by_cases qc3_5 : Int32.toInt x1 = 5
      · have E := (if_pos qc3_5).symm.trans E
        refine ea_tswIn (pc := 3) (tgt := 65) dX12_look_3 (by rw [qc3_5]; decide) (by rw [qc3_5]; decide) (by rw [qc3_5]; rfl) rfl ?_
        refine ea_aload_n (pc := 65) dX12_look_65 rfl 0 rfl ?_
        refine ea_getI (pc := 66) dX12_look_66 ec_12 (k := 25) (Nat.le_of_ble_eq_true rfl) rfl (Or.inl ew_1370) (hs.1 0 (by decide)).1 (hs.1 0 (by decide)).2.1 ?_
        cases E
        exact ea_ireturn (pc := 69) dX12_look_69 rfl rfl
      have E := (if_neg qc3_5).symm.trans E
      refine ea_tswOut (pc := 3) (tgt := 70) dX12_look_3 (ea_sw_0_5 qc3_0 qc3_1 qc3_2 qc3_3 qc3_4 qc3_5) rfl ?_
      refine ea_iload_n (pc := 70) dX12_look_70 rfl 1 rfl ?_
      refine ea_bipush (pc := 71) dX12_look_71 (v := 10) rfl ?_
      refine ea_bipush (pc := 73) dX12_look_73 (v := 16) rfl ?_
      refine ea_callS (pc := 75) (d' := d - 1) (As := [vI x1, vI 10, vI 16]) (st := []) dX12_look_75 kX12_isIn (sX12_isIn (d := d - 1) (by omega)) (by omega) rfl (Nat.le_of_ble_eq_true rfl) ew_1712 ew_1713 ?_
      refine ea_if_ne (pc := 78) (tgt := 83) dX12_look_78 rfl (fun c2 => ?_) (fun c2 => ?_)
      · have E := (if_neg c2).symm.trans E
        refine ea_iconst (pc := 83) dX12_look_83 (v := 0) rfl ?_
        refine ea_istore_n (pc := 84) (lv' := [(0, vR (some (b0 + 0))), (1, vI x1), (2, vI 0), (3, vI 0)]) dX12_look_84 rfl (Nat.le_of_ble_eq_true rfl) [1, 2, 3, 0] rfl ?_
        exact ((ih 85 (x1 : Int32) (0 : Int32) (0 : Int32) h _ _ E hs).2 rfl)
      · have E := (if_pos c2).symm.trans E
        refine ea_iconst (pc := 81) dX12_look_81 (v := (-1)) rfl ?_
        cases E
        exact ea_ireturn (pc := 82) dX12_look_82 rfl rfl
    intro el
    subst el
    have E := (if_neg (by decide)).symm.trans E
    have E := (if_pos rfl).symm.trans E
    refine ea_iload_n (pc := 85) dX12_look_85 rfl 3 rfl ?_
    refine ea_aload_n (pc := 86) dX12_look_86 rfl 0 rfl ?_
    refine ea_getI (pc := 87) dX12_look_87 ec_12 (k := 63) (Nat.le_of_ble_eq_true rfl) rfl (Or.inl ew_1408) (hs.1 0 (by decide)).1 (hs.1 0 (by decide)).2.1 ?_
    refine ea_icmp_ge (pc := 90) (tgt := 120) dX12_look_90 rfl (fun c5 => ?_) (fun c5 => ?_)
    · have E := (if_pos c5).symm.trans E
      refine ea_iload_n (pc := 120) dX12_look_120 rfl 2 rfl ?_
      cases E
      exact ea_ireturn (pc := 121) dX12_look_121 rfl rfl
    · have E := (if_neg c5).symm.trans E
      refine ea_iload_n (pc := 93) dX12_look_93 rfl 2 rfl ?_
      refine ea_aload_n (pc := 94) dX12_look_94 rfl 0 rfl ?_
      refine ea_getR (pc := 95) dX12_look_95 ec_12 (k := 81) (Nat.le_of_ble_eq_true rfl) rfl (Or.inl ew_1426) (hs.1 0 (by decide)).1 (hs.1 0 (by decide)).2.1 (hs.2 0 81 rfl) ?_
      refine ea_iload_n (pc := 98) dX12_look_98 rfl 3 rfl ?_
      obtain ⟨z3, E⟩ := gd_some E
      refine ea_iald (pc := 99) dX12_look_99 (hs.1 55 (by decide)).1 (hs.1 55 (by decide)).2.1 (ea_vpl (hs.1 55 (by decide)).2.2 z3) ?_
      refine ea_iload_n (pc := 100) dX12_look_100 rfl 1 rfl ?_
      refine ea_bipush (pc := 101) dX12_look_101 (v := 10) rfl ?_
      refine ea_isub (pc := 103) dX12_look_103 ?_
      refine ea_icmp_ne (pc := 104) (tgt := 111) dX12_look_104 rfl (fun c4 => ?_) (fun c4 => ?_)
      · have E := (if_neg c4).symm.trans E
        refine ea_iconst (pc := 111) dX12_look_111 (v := 0) rfl ?_
        refine ea_iadd (pc := 112) dX12_look_112 ?_
        refine ea_istore_n (pc := 113) (lv' := [(0, vR (some (b0 + 0))), (1, vI x1), (2, vI (x2 + (0 : Int32))), (3, vI x3)]) dX12_look_113 rfl (Nat.le_of_ble_eq_true rfl) [1, 2, 0, 3] rfl ?_
        refine ea_iinc (pc := 114) (v := 1) (lv' := [(0, vR (some (b0 + 0))), (1, vI x1), (2, vI (x2 + (0 : Int32))), (3, vI (x3 + (1 : Int32)))]) dX12_look_114 3 rfl rfl (Nat.le_of_ble_eq_true rfl) [1, 2, 3, 0] rfl ?_
        refine ea_goto (pc := 117) (tgt := 85) dX12_look_117 rfl ?_
        exact ((ih 85 (x1 : Int32) ((x2 + (0 : Int32)) : Int32) ((x3 + (1 : Int32)) : Int32) h _ _ E hs).2 rfl)
      · have E := (if_pos c4).symm.trans E
        refine ea_iconst (pc := 107) dX12_look_107 (v := 1) rfl ?_
        refine ea_goto (pc := 108) (tgt := 112) dX12_look_108 rfl ?_
        refine ea_iadd (pc := 112) dX12_look_112 ?_
        refine ea_istore_n (pc := 113) (lv' := [(0, vR (some (b0 + 0))), (1, vI x1), (2, vI (x2 + (1 : Int32))), (3, vI x3)]) dX12_look_113 rfl (Nat.le_of_ble_eq_true rfl) [1, 2, 0, 3] rfl ?_
        refine ea_iinc (pc := 114) (v := 1) (lv' := [(0, vR (some (b0 + 0))), (1, vI x1), (2, vI (x2 + (1 : Int32))), (3, vI (x3 + (1 : Int32)))]) dX12_look_114 3 rfl rfl (Nat.le_of_ble_eq_true rfl) [1, 2, 3, 0] rfl ?_
        refine ea_goto (pc := 117) (tgt := 85) dX12_look_117 rfl ?_
        exact ((ih 85 (x1 : Int32) ((x2 + (1 : Int32)) : Int32) ((x3 + (1 : Int32)) : Int32) h _ _ E hs).2 rfl)
noncomputable def qX12_look (b0 : Nat) (x1 : Int32) (h : ea_H) : Option (Int32 × ea_H) := gX12_look b0 1000000000 0 x1 0 0 h
def okX12_look (b0 : Nat) (x1 : Int32) (h : ea_H) : Prop := ∃ x, qX12_look b0 x1 h = some x
noncomputable def vX12_look (b0 : Nat) (x1 : Int32) (h : ea_H) : Int32 := ((qX12_look b0 x1 h).getD (0, h)).1
noncomputable def wX12_look (b0 : Nat) (x1 : Int32) (h : ea_H) : ea_H := ((qX12_look b0 x1 h).getD (0, h)).2
theorem sX12_look {d : Nat} {b0 : Nat} {x1 : Int32} {h : ea_H} (hd : 2 ≤ d) (hs : ShM b0 h) (K : okX12_look b0 x1 h) : ea_Met mX12_look d [vR (some (b0 + 0)), vI x1] h (some (vI (vX12_look b0 x1 h))) (wX12_look b0 x1 h) := by
  obtain ⟨⟨x, y⟩, K⟩ := K
  unfold wX12_look vX12_look
  rw [K]
  unfold qX12_look at K
  exact ea_enter rfl (Nat.le_of_ble_eq_true rfl) ((tX12_look hd 1000000000 0 x1 0 0 h x y K hs).1 rfl)
theorem zX12_look {b0 : Nat} : ∀ (f lbl : Nat) (x1 : Int32) (x2 : Int32) (x3 : Int32) (h : ea_H) (r : Int32) (h' : ea_H), gX12_look b0 f lbl x1 x2 x3 h = some (r, h') → ShM b0 h → ShM b0 h' := by
  intro f
  induction f with
  | zero => intro lbl x1 x2 x3 h r h' E; cases E
  | succ f ih =>
    intro lbl x1 x2 x3 h r h' E hs
    unfold gX12_look at E
    by_cases el0 : lbl = 0
    · have E := (if_pos el0).symm.trans E
      by_cases qc3_0 : Int32.toInt x1 = 0
      · have E := (if_pos qc3_0).symm.trans E
        cases E
        exact hs
      have E := (if_neg qc3_0).symm.trans E
      by_cases qc3_1 : Int32.toInt x1 = 1
      · have E := (if_pos qc3_1).symm.trans E
        cases E
        exact hs
      have E := (if_neg qc3_1).symm.trans E
      by_cases qc3_2 : Int32.toInt x1 = 2
      · have E := (if_pos qc3_2).symm.trans E
        cases E
        exact hs
      have E := (if_neg qc3_2).symm.trans E
      by_cases qc3_3 : Int32.toInt x1 = 3
      · have E := (if_pos qc3_3).symm.trans E
        cases E
        exact hs
      have E := (if_neg qc3_3).symm.trans E
      by_cases qc3_4 : Int32.toInt x1 = 4
      · have E := (if_pos qc3_4).symm.trans E
        cases E
        exact hs
      have E := (if_neg qc3_4).symm.trans E
      by_cases qc3_5 : Int32.toInt x1 = 5
      · have E := (if_pos qc3_5).symm.trans E
        cases E
        exact hs
      have E := (if_neg qc3_5).symm.trans E
      by_cases c2 : (vX12_isIn (x1 : Int32) (10 : Int32) (16 : Int32) h) = (0 : Int32)
      · have E := (if_pos c2).symm.trans E
        cases E
        exact hs
      have E := (if_neg c2).symm.trans E
      exact ih 85 (x1 : Int32) (0 : Int32) (0 : Int32) h _ _ E hs
    have E := (if_neg el0).symm.trans E
    by_cases el1 : lbl = 85
    · have E := (if_pos el1).symm.trans E
      by_cases c5 : (ea_i h (b0 + 0) 63) ≤ x3
      · have E := (if_pos c5).symm.trans E
        cases E
        exact hs
      have E := (if_neg c5).symm.trans E
      obtain ⟨z3, E⟩ := gd_some E
      by_cases c4 : (ea_i h (b0 + 55) (Int32.toNatClampNeg x3)) = (x1 - (10 : Int32))
      · have E := (if_pos c4).symm.trans E
        exact ih 85 (x1 : Int32) ((x2 + (1 : Int32)) : Int32) ((x3 + (1 : Int32)) : Int32) h _ _ E hs
      have E := (if_neg c4).symm.trans E
      exact ih 85 (x1 : Int32) ((x2 + (0 : Int32)) : Int32) ((x3 + (1 : Int32)) : Int32) h _ _ E hs
    have E := (if_neg el1).symm.trans E
    cases E
theorem shX12_look {b0 : Nat} {x1 : Int32} {h : ea_H} (hs : ShM b0 h) : ShM b0 (wX12_look b0 x1 h) := by
  unfold wX12_look
  cases K : qX12_look b0 x1 h with
  | none => exact hs
  | some x => obtain ⟨x, y⟩ := x; unfold qX12_look at K; exact zX12_look _ _ _ _ _ _ _ _ K hs
noncomputable def gX12_gone (b0 : Nat) : Nat → Nat → Int32 → Int32 → ea_H → Option (Int32 × ea_H)
  | 0, _, _, _, _ => none
  | f + 1, lbl, x1, x2, h =>
    if lbl = 0 then (gX12_gone b0 f 2 (x1 : Int32) ((-1) : Int32) h) else
    if lbl = 2 then (gd (vp_in (x1 / (7 : Int32)) 10) (if (ea_i h (b0 + 2) (Int32.toNatClampNeg (x1 / (7 : Int32)))) ≤ (x2 + (2 : Int32)) then (some (x2, h)) else (gd ((okX12_goesAt b0 (x1 : Int32) ((x2 + (1 : Int32)) : Int32) h)) (if (ea_i h (b0 + 0) 0) < (vX12_goesAt b0 (x1 : Int32) ((x2 + (1 : Int32)) : Int32) h) then (some (x2, h)) else (gX12_gone b0 f 2 (x1 : Int32) ((x2 + (1 : Int32)) : Int32) h))))) else none
theorem tX12_gone {d : Nat} {b0 : Nat} {h0 : ea_H} (hd : 2 ≤ d) : ∀ (f lbl : Nat) (x1 : Int32) (x2 : Int32) (h : ea_H) (r : Int32) (h' : ea_H), gX12_gone b0 f lbl x1 x2 h = some (r, h') → ShM b0 h → (lbl = 0 → ea_W mX12_gone d h0 (some (vI r)) h' 0 [(0, vR (some (b0 + 0))), (1, vI x1)] [] h) ∧ (lbl = 2 → ea_W mX12_gone d h0 (some (vI r)) h' 2 [(0, vR (some (b0 + 0))), (1, vI x1), (2, vI x2)] [] h) := by
  intro f
  induction f with
  | zero => intro lbl x1 x2 h r h' E; cases E
  | succ f ih =>
    intro lbl x1 x2 h r h' E hs
    unfold gX12_gone at E
    refine ⟨?_, ?_⟩
    · intro el
      subst el
      have E := (if_pos rfl).symm.trans E
      refine ea_iconst (pc := 0) dX12_gone_0 (v := (-1)) rfl ?_
      refine ea_istore_n (pc := 1) (lv' := [(0, vR (some (b0 + 0))), (1, vI x1), (2, vI (-1))]) dX12_gone_1 rfl (Nat.le_of_ble_eq_true rfl) [1, 2, 0] rfl ?_
      exact ((ih 2 (x1 : Int32) ((-1) : Int32) h _ _ E hs).2 rfl)
    intro el
    subst el
    have E := (if_neg (by decide)).symm.trans E
    have E := (if_pos rfl).symm.trans E
    refine ea_iload_n (pc := 2) dX12_gone_2 rfl 2 rfl ?_
    refine ea_iconst (pc := 3) dX12_gone_3 (v := 2) rfl ?_
    refine ea_iadd (pc := 4) dX12_gone_4 ?_
    refine ea_aload_n (pc := 5) dX12_gone_5 rfl 0 rfl ?_
    refine ea_getR (pc := 6) dX12_gone_6 ec_12 (k := 4) (Nat.le_of_ble_eq_true rfl) rfl (Or.inl ew_1349) (hs.1 0 (by decide)).1 (hs.1 0 (by decide)).2.1 (hs.2 0 4 rfl) ?_
    refine ea_iload_n (pc := 9) dX12_gone_9 rfl 1 rfl ?_
    refine ea_bipush (pc := 10) dX12_gone_10 (v := 7) rfl ?_
    refine ea_idiv (pc := 12) dX12_gone_12 (by decide) ?_
    obtain ⟨z1, E⟩ := gd_some E
    refine ea_iald (pc := 13) dX12_gone_13 (hs.1 2 (by decide)).1 (hs.1 2 (by decide)).2.1 (ea_vpl (hs.1 2 (by decide)).2.2 z1) ?_
    refine ea_icmp_ge (pc := 14) (tgt := 38) dX12_gone_14 rfl (fun c4 => ?_) (fun c4 => ?_)
    · have E := (if_pos c4).symm.trans E
      refine ea_iload_n (pc := 38) dX12_gone_38 rfl 2 rfl ?_
      cases E
      exact ea_ireturn (pc := 39) dX12_gone_39 rfl rfl
    · have E := (if_neg c4).symm.trans E
      refine ea_aload_n (pc := 17) dX12_gone_17 rfl 0 rfl ?_
      refine ea_iload_n (pc := 18) dX12_gone_18 rfl 1 rfl ?_
      refine ea_iload_n (pc := 19) dX12_gone_19 rfl 2 rfl ?_
      refine ea_iconst (pc := 20) dX12_gone_20 (v := 1) rfl ?_
      refine ea_iadd (pc := 21) dX12_gone_21 ?_
      obtain ⟨z2, E⟩ := gd_some E
      refine ea_callV (pc := 22) (d' := d - 1) (As := [vI x1, vI (x2 + (1 : Int32))]) (st := []) dX12_gone_22 kX12_goesAt (sX12_goesAt (d := d - 1) (by omega) hs z2) (by omega) rfl (Nat.le_of_ble_eq_true rfl) ew_1786 ew_1788 ew_57 (ci := 12) rfl (by decide) (hs.1 0 (by decide)).1 (hs.1 0 (by decide)).2.1 ?_
      refine ea_aload_n (pc := 25) dX12_gone_25 rfl 0 rfl ?_
      refine ea_getI (pc := 26) dX12_gone_26 ec_12 (k := 0) (Nat.le_of_ble_eq_true rfl) rfl (Or.inl ew_1345) (hs.1 0 (by decide)).1 (hs.1 0 (by decide)).2.1 ?_
      refine ea_icmp_gt (pc := 29) (tgt := 38) dX12_gone_29 rfl (fun c3 => ?_) (fun c3 => ?_)
      · have E := (if_pos c3).symm.trans E
        refine ea_iload_n (pc := 38) dX12_gone_38 rfl 2 rfl ?_
        cases E
        exact ea_ireturn (pc := 39) dX12_gone_39 rfl rfl
      · have E := (if_neg c3).symm.trans E
        refine ea_iinc (pc := 32) (v := 1) (lv' := [(0, vR (some (b0 + 0))), (1, vI x1), (2, vI (x2 + (1 : Int32)))]) dX12_gone_32 2 rfl rfl (Nat.le_of_ble_eq_true rfl) [1, 2, 0] rfl ?_
        refine ea_goto (pc := 35) (tgt := 2) dX12_gone_35 rfl ?_
        exact ((ih 2 (x1 : Int32) ((x2 + (1 : Int32)) : Int32) h _ _ E hs).2 rfl)
noncomputable def qX12_gone (b0 : Nat) (x1 : Int32) (h : ea_H) : Option (Int32 × ea_H) := gX12_gone b0 1000000000 0 x1 0 h
def okX12_gone (b0 : Nat) (x1 : Int32) (h : ea_H) : Prop := ∃ x, qX12_gone b0 x1 h = some x
noncomputable def vX12_gone (b0 : Nat) (x1 : Int32) (h : ea_H) : Int32 := ((qX12_gone b0 x1 h).getD (0, h)).1
noncomputable def wX12_gone (b0 : Nat) (x1 : Int32) (h : ea_H) : ea_H := ((qX12_gone b0 x1 h).getD (0, h)).2
theorem sX12_gone {d : Nat} {b0 : Nat} {x1 : Int32} {h : ea_H} (hd : 2 ≤ d) (hs : ShM b0 h) (K : okX12_gone b0 x1 h) : ea_Met mX12_gone d [vR (some (b0 + 0)), vI x1] h (some (vI (vX12_gone b0 x1 h))) (wX12_gone b0 x1 h) := by
  obtain ⟨⟨x, y⟩, K⟩ := K
  unfold wX12_gone vX12_gone
  rw [K]
  unfold qX12_gone at K
  exact ea_enter rfl (Nat.le_of_ble_eq_true rfl) ((tX12_gone hd 1000000000 0 x1 0 h x y K hs).1 rfl)
theorem zX12_gone {b0 : Nat} : ∀ (f lbl : Nat) (x1 : Int32) (x2 : Int32) (h : ea_H) (r : Int32) (h' : ea_H), gX12_gone b0 f lbl x1 x2 h = some (r, h') → ShM b0 h → ShM b0 h' := by
  intro f
  induction f with
  | zero => intro lbl x1 x2 h r h' E; cases E
  | succ f ih =>
    intro lbl x1 x2 h r h' E hs
    unfold gX12_gone at E
    by_cases el0 : lbl = 0
    · have E := (if_pos el0).symm.trans E
      exact ih 2 (x1 : Int32) ((-1) : Int32) h _ _ E hs
    have E := (if_neg el0).symm.trans E
    by_cases el1 : lbl = 2
    · have E := (if_pos el1).symm.trans E
      obtain ⟨z1, E⟩ := gd_some E
      by_cases c4 : (ea_i h (b0 + 2) (Int32.toNatClampNeg (x1 / (7 : Int32)))) ≤ (x2 + (2 : Int32))
      · have E := (if_pos c4).symm.trans E
        cases E
        exact hs
      have E := (if_neg c4).symm.trans E
      obtain ⟨z2, E⟩ := gd_some E
      by_cases c3 : (ea_i h (b0 + 0) 0) < (vX12_goesAt b0 (x1 : Int32) ((x2 + (1 : Int32)) : Int32) h)
      · have E := (if_pos c3).symm.trans E
        cases E
        exact hs
      have E := (if_neg c3).symm.trans E
      exact ih 2 (x1 : Int32) ((x2 + (1 : Int32)) : Int32) h _ _ E hs
    have E := (if_neg el1).symm.trans E
    cases E
theorem shX12_gone {b0 : Nat} {x1 : Int32} {h : ea_H} (hs : ShM b0 h) : ShM b0 (wX12_gone b0 x1 h) := by
  unfold wX12_gone
  cases K : qX12_gone b0 x1 h with
  | none => exact hs
  | some x => obtain ⟨x, y⟩ := x; unfold qX12_gone at K; exact zX12_gone _ _ _ _ _ _ _ K hs
noncomputable def vX12_isOf (b0 : Nat) (x1 : Int32) (x2 : Int32) (x3 : Int32) (h : ea_H) : Int32 := (if (ea_i h (b0 + 39) (Int32.toNatClampNeg x1)) = x2 then (if (ea_i h (b0 + 40) (Int32.toNatClampNeg x1)) = x3 then (1 : Int32) else (0 : Int32)) else (0 : Int32))
def okX12_isOf (b0 : Nat) (x1 : Int32) (x2 : Int32) (x3 : Int32) (h : ea_H) : Prop := vp_in x1 120 ∧ (((ea_i h (b0 + 39) (Int32.toNatClampNeg x1)) = x2 → vp_in x1 120) ∧ (¬ (ea_i h (b0 + 39) (Int32.toNatClampNeg x1)) = x2 → True))
theorem bo_vX12_isOf (b0 : Nat) (x1 : Int32) (x2 : Int32) (x3 : Int32) (h : ea_H) : vX12_isOf b0 x1 x2 x3 h = 0 ∨ vX12_isOf b0 x1 x2 x3 h = 1 := (ea_itB (ea_itB (Or.inr rfl) (Or.inl rfl)) (Or.inl rfl))
theorem sX12_isOf {d : Nat} {b0 : Nat} {x1 : Int32} {x2 : Int32} {x3 : Int32} {h : ea_H} (hd : 1 ≤ d) (hs : ShM b0 h) (K : okX12_isOf b0 x1 x2 x3 h) : ea_Met mX12_isOf d [vR (some (b0 + 0)), vI x1, vI x2, vI x3] h (some (vI (vX12_isOf b0 x1 x2 x3 h))) h := by
  obtain ⟨X, EX⟩ : ∃ z, z = vX12_isOf b0 x1 x2 x3 h := ⟨_, rfl⟩
  rw [← EX]
  unfold vX12_isOf at EX
  unfold okX12_isOf at K
  refine ea_enter rfl (Nat.le_of_ble_eq_true rfl) ?_
  refine ea_aload_n (pc := 0) dX12_isOf_0 rfl 0 rfl ?_
  refine ea_getR (pc := 1) dX12_isOf_1 ec_12 (k := 65) (Nat.le_of_ble_eq_true rfl) rfl (Or.inl ew_1410) (hs.1 0 (by decide)).1 (hs.1 0 (by decide)).2.1 (hs.2 0 65 rfl) ?_
  refine ea_iload_n (pc := 4) dX12_isOf_4 rfl 1 rfl ?_
  obtain ⟨z1, K⟩ := K
  refine ea_iald (pc := 5) dX12_isOf_5 (hs.1 39 (by decide)).1 (hs.1 39 (by decide)).2.1 (ea_vpl (hs.1 39 (by decide)).2.2 z1) ?_
  refine ea_iload_n (pc := 6) dX12_isOf_6 rfl 2 rfl ?_
  refine ea_icmp_ne (pc := 7) (tgt := 24) dX12_isOf_7 rfl (fun c4 => ?_) (fun c4 => ?_)
  · have EX := EX.trans (if_neg c4)
    refine ea_iconst (pc := 24) dX12_isOf_24 (v := 0) rfl ?_
    subst EX
    exact ea_ireturn (pc := 25) dX12_isOf_25 rfl (ea_bn (Or.inl rfl))
  · have EX := EX.trans (if_pos c4)
    have K := K.1 c4
    refine ea_aload_n (pc := 10) dX12_isOf_10 rfl 0 rfl ?_
    refine ea_getR (pc := 11) dX12_isOf_11 ec_12 (k := 66) (Nat.le_of_ble_eq_true rfl) rfl (Or.inl ew_1411) (hs.1 0 (by decide)).1 (hs.1 0 (by decide)).2.1 (hs.2 0 66 rfl) ?_
    refine ea_iload_n (pc := 14) dX12_isOf_14 rfl 1 rfl ?_
    have z2 := K
    refine ea_iald (pc := 15) dX12_isOf_15 (hs.1 40 (by decide)).1 (hs.1 40 (by decide)).2.1 (ea_vpl (hs.1 40 (by decide)).2.2 z2) ?_
    refine ea_iload_n (pc := 16) dX12_isOf_16 rfl 3 rfl ?_
    refine ea_icmp_ne (pc := 17) (tgt := 24) dX12_isOf_17 rfl (fun c3 => ?_) (fun c3 => ?_)
    · have EX := EX.trans (if_neg c3)
      refine ea_iconst (pc := 24) dX12_isOf_24 (v := 0) rfl ?_
      subst EX
      exact ea_ireturn (pc := 25) dX12_isOf_25 rfl (ea_bn (Or.inl rfl))
    · have EX := EX.trans (if_pos c3)
      refine ea_iconst (pc := 20) dX12_isOf_20 (v := 1) rfl ?_
      refine ea_goto (pc := 21) (tgt := 25) dX12_isOf_21 rfl ?_
      subst EX
      exact ea_ireturn (pc := 25) dX12_isOf_25 rfl (ea_bn (Or.inr rfl))
noncomputable def gX12_account (b0 : Nat) : Nat → Nat → Int32 → Int32 → Int32 → Int32 → Int32 → Int32 → Int32 → Int32 → ea_H → Option (Int32 × ea_H)
  | 0, _, _, _, _, _, _, _, _, _, _ => none
  | f + 1, lbl, x1, x2, x3, x4, x5, x6, x7, x8, h =>
    if lbl = 0 then (if (vX12_isTown b0 (x1 : Int32) h) = (0 : Int32) then (some (((-1) : Int32), h)) else (if (vX12_isTown b0 (x2 : Int32) h) = (0 : Int32) then (some (((-1) : Int32), h)) else (if x1 = x2 then (some (((-1) : Int32), h)) else (gX12_account b0 f 38 (x1 : Int32) (x2 : Int32) (x3 : Int32) (0 : Int32) (0 : Int32) (0 : Int32) ((-1) : Int32) (0 : Int32) h)))) else
    if lbl = 38 then (if (ea_i h (b0 + 0) 63) ≤ x8 then (if x3 = (0 : Int32) then (some (x4, h)) else (if x3 = (1 : Int32) then (some (x5, h)) else (if x3 = (2 : Int32) then (some (x6, h)) else (some (x7, h))))) else (gd ((okX12_isOf b0 (x8 : Int32) (x1 : Int32) (x2 : Int32) h)) (if (vX12_isOf b0 (x8 : Int32) (x1 : Int32) (x2 : Int32) h) = (0 : Int32) then (gX12_account b0 f 38 (x1 : Int32) (x2 : Int32) (x3 : Int32) (x4 : Int32) (x5 : Int32) (x6 : Int32) (x7 : Int32) ((x8 + (1 : Int32)) : Int32) h) else (gd ((okX12_owed b0 (x8 : Int32) h)) (gd (vp_in x8 120) (if (ea_i h (b0 + 55) (Int32.toNatClampNeg x8)) = (2 : Int32) then (gd ((okX12_owed b0 (x8 : Int32) h)) (gX12_account b0 f 38 (x1 : Int32) (x2 : Int32) (x3 : Int32) ((x4 + (vX12_owed b0 (x8 : Int32) h)) : Int32) ((x5 + (vX12_owed b0 (x8 : Int32) h)) : Int32) (x6 : Int32) (x7 : Int32) ((x8 + (1 : Int32)) : Int32) h)) else (gd ((okX12_owed b0 (x8 : Int32) h)) (if (vX12_owed b0 (x8 : Int32) h) ≤ (0 : Int32) then (gX12_account b0 f 38 (x1 : Int32) (x2 : Int32) (x3 : Int32) ((x4 + (vX12_owed b0 (x8 : Int32) h)) : Int32) (x5 : Int32) (x6 : Int32) (x7 : Int32) ((x8 + (1 : Int32)) : Int32) h) else (if x6 = (x3 - (10 : Int32)) then (gX12_account b0 f 38 (x1 : Int32) (x2 : Int32) (x3 : Int32) ((x4 + (vX12_owed b0 (x8 : Int32) h)) : Int32) (x5 : Int32) ((x6 + (1 : Int32)) : Int32) (x8 : Int32) ((x8 + (1 : Int32)) : Int32) h) else (gX12_account b0 f 38 (x1 : Int32) (x2 : Int32) (x3 : Int32) ((x4 + (vX12_owed b0 (x8 : Int32) h)) : Int32) (x5 : Int32) ((x6 + (1 : Int32)) : Int32) (x7 : Int32) ((x8 + (1 : Int32)) : Int32) h)))))))))) else none
theorem tX12_account {d : Nat} {b0 : Nat} {h0 : ea_H} (hd : 3 ≤ d) : ∀ (f lbl : Nat) (x1 : Int32) (x2 : Int32) (x3 : Int32) (x4 : Int32) (x5 : Int32) (x6 : Int32) (x7 : Int32) (x8 : Int32) (h : ea_H) (r : Int32) (h' : ea_H), gX12_account b0 f lbl x1 x2 x3 x4 x5 x6 x7 x8 h = some (r, h') → ShM b0 h → (lbl = 0 → ea_W mX12_account d h0 (some (vI r)) h' 0 [(0, vR (some (b0 + 0))), (1, vI x1), (2, vI x2), (3, vI x3)] [] h) ∧ (lbl = 38 → ea_W mX12_account d h0 (some (vI r)) h' 38 [(0, vR (some (b0 + 0))), (1, vI x1), (2, vI x2), (3, vI x3), (4, vI x4), (5, vI x5), (6, vI x6), (7, vI x7), (8, vI x8)] [] h) := by
  intro f
  induction f with
  | zero => intro lbl x1 x2 x3 x4 x5 x6 x7 x8 h r h' E; cases E
  | succ f ih =>
    intro lbl x1 x2 x3 x4 x5 x6 x7 x8 h r h' E hs
    unfold gX12_account at E
    refine ⟨?_, ?_⟩
    · intro el
      subst el
      have E := (if_pos rfl).symm.trans E
      refine ea_aload_n (pc := 0) dX12_account_0 rfl 0 rfl ?_
      refine ea_iload_n (pc := 1) dX12_account_1 rfl 1 rfl ?_
      refine ea_callV (pc := 2) (d' := d - 1) (As := [vI x1]) (st := []) dX12_account_2 kX12_isTown (sX12_isTown (d := d - 1) (by omega) hs) (by omega) rfl (Nat.le_of_ble_eq_true rfl) ew_1708 ew_1710 ew_47 (ci := 12) rfl (by decide) (hs.1 0 (by decide)).1 (hs.1 0 (by decide)).2.1 ?_
      refine ea_if_eq (pc := 5) (tgt := 21) dX12_account_5 rfl (fun c5 => ?_) (fun c5 => ?_)
      · have E := (if_pos c5).symm.trans E
        refine ea_iconst (pc := 21) dX12_account_21 (v := (-1)) rfl ?_
        cases E
        exact ea_ireturn (pc := 22) dX12_account_22 rfl rfl
      · have E := (if_neg c5).symm.trans E
        refine ea_aload_n (pc := 8) dX12_account_8 rfl 0 rfl ?_
        refine ea_iload_n (pc := 9) dX12_account_9 rfl 2 rfl ?_
        refine ea_callV (pc := 10) (d' := d - 1) (As := [vI x2]) (st := []) dX12_account_10 kX12_isTown (sX12_isTown (d := d - 1) (by omega) hs) (by omega) rfl (Nat.le_of_ble_eq_true rfl) ew_1708 ew_1710 ew_47 (ci := 12) rfl (by decide) (hs.1 0 (by decide)).1 (hs.1 0 (by decide)).2.1 ?_
        refine ea_if_eq (pc := 13) (tgt := 21) dX12_account_13 rfl (fun c4 => ?_) (fun c4 => ?_)
        · have E := (if_pos c4).symm.trans E
          refine ea_iconst (pc := 21) dX12_account_21 (v := (-1)) rfl ?_
          cases E
          exact ea_ireturn (pc := 22) dX12_account_22 rfl rfl
        · have E := (if_neg c4).symm.trans E
          refine ea_iload_n (pc := 16) dX12_account_16 rfl 1 rfl ?_
          refine ea_iload_n (pc := 17) dX12_account_17 rfl 2 rfl ?_
          refine ea_icmp_ne (pc := 18) (tgt := 23) dX12_account_18 rfl (fun c3 => ?_) (fun c3 => ?_)
          · have E := (if_neg c3).symm.trans E
            refine ea_iconst (pc := 23) dX12_account_23 (v := 0) rfl ?_
            refine ea_istore (pc := 24) (lv' := [(0, vR (some (b0 + 0))), (1, vI x1), (2, vI x2), (3, vI x3), (4, vI 0)]) dX12_account_24 (Nat.le_of_ble_eq_true rfl) [1, 2, 3, 4, 0] rfl ?_
            refine ea_iconst (pc := 26) dX12_account_26 (v := 0) rfl ?_
            refine ea_istore (pc := 27) (lv' := [(0, vR (some (b0 + 0))), (1, vI x1), (2, vI x2), (3, vI x3), (4, vI 0), (5, vI 0)]) dX12_account_27 (Nat.le_of_ble_eq_true rfl) [1, 2, 3, 4, 5, 0] rfl ?_
            refine ea_iconst (pc := 29) dX12_account_29 (v := 0) rfl ?_
            refine ea_istore (pc := 30) (lv' := [(0, vR (some (b0 + 0))), (1, vI x1), (2, vI x2), (3, vI x3), (4, vI 0), (5, vI 0), (6, vI 0)]) dX12_account_30 (Nat.le_of_ble_eq_true rfl) [1, 2, 3, 4, 5, 6, 0] rfl ?_
            refine ea_iconst (pc := 32) dX12_account_32 (v := (-1)) rfl ?_
            refine ea_istore (pc := 33) (lv' := [(0, vR (some (b0 + 0))), (1, vI x1), (2, vI x2), (3, vI x3), (4, vI 0), (5, vI 0), (6, vI 0), (7, vI (-1))]) dX12_account_33 (Nat.le_of_ble_eq_true rfl) [1, 2, 3, 4, 5, 6, 7, 0] rfl ?_
            refine ea_iconst (pc := 35) dX12_account_35 (v := 0) rfl ?_
            refine ea_istore (pc := 36) (lv' := [(0, vR (some (b0 + 0))), (1, vI x1), (2, vI x2), (3, vI x3), (4, vI 0), (5, vI 0), (6, vI 0), (7, vI (-1)), (8, vI 0)]) dX12_account_36 (Nat.le_of_ble_eq_true rfl) [1, 2, 3, 4, 5, 6, 7, 8, 0] rfl ?_
            exact ((ih 38 (x1 : Int32) (x2 : Int32) (x3 : Int32) (0 : Int32) (0 : Int32) (0 : Int32) ((-1) : Int32) (0 : Int32) h _ _ E hs).2 rfl)
          · have E := (if_pos c3).symm.trans E
            refine ea_iconst (pc := 21) dX12_account_21 (v := (-1)) rfl ?_
            cases E
            exact ea_ireturn (pc := 22) dX12_account_22 rfl rfl
    intro el
    subst el
    have E := (if_neg (by decide)).symm.trans E
    have E := (if_pos rfl).symm.trans E
    refine ea_iload (pc := 38) dX12_account_38 8 rfl ?_
    refine ea_aload_n (pc := 40) dX12_account_40 rfl 0 rfl ?_
    refine ea_getI (pc := 41) dX12_account_41 ec_12 (k := 63) (Nat.le_of_ble_eq_true rfl) rfl (Or.inl ew_1408) (hs.1 0 (by decide)).1 (hs.1 0 (by decide)).2.1 ?_
    refine ea_icmp_ge (pc := 44) (tgt := 128) dX12_account_44 rfl (fun c18 => ?_) (fun c18 => ?_)
    · have E := (if_pos c18).symm.trans E
      refine ea_iload_n (pc := 128) dX12_account_128 rfl 3 rfl ?_
      refine ea_if_ne (pc := 129) (tgt := 137) dX12_account_129 rfl (fun c8 => ?_) (fun c8 => ?_)
      · have E := (if_neg c8).symm.trans E
        refine ea_iload_n (pc := 137) dX12_account_137 rfl 3 rfl ?_
        refine ea_iconst (pc := 138) dX12_account_138 (v := 1) rfl ?_
        refine ea_icmp_ne (pc := 139) (tgt := 147) dX12_account_139 rfl (fun c7 => ?_) (fun c7 => ?_)
        · have E := (if_neg c7).symm.trans E
          refine ea_iload_n (pc := 147) dX12_account_147 rfl 3 rfl ?_
          refine ea_iconst (pc := 148) dX12_account_148 (v := 2) rfl ?_
          refine ea_icmp_ne (pc := 149) (tgt := 157) dX12_account_149 rfl (fun c6 => ?_) (fun c6 => ?_)
          · have E := (if_neg c6).symm.trans E
            refine ea_iload (pc := 157) dX12_account_157 7 rfl ?_
            cases E
            exact ea_ireturn (pc := 159) dX12_account_159 rfl rfl
          · have E := (if_pos c6).symm.trans E
            refine ea_iload (pc := 152) dX12_account_152 6 rfl ?_
            refine ea_goto (pc := 154) (tgt := 159) dX12_account_154 rfl ?_
            cases E
            exact ea_ireturn (pc := 159) dX12_account_159 rfl rfl
        · have E := (if_pos c7).symm.trans E
          refine ea_iload (pc := 142) dX12_account_142 5 rfl ?_
          refine ea_goto (pc := 144) (tgt := 159) dX12_account_144 rfl ?_
          cases E
          exact ea_ireturn (pc := 159) dX12_account_159 rfl rfl
      · have E := (if_pos c8).symm.trans E
        refine ea_iload (pc := 132) dX12_account_132 4 rfl ?_
        refine ea_goto (pc := 134) (tgt := 159) dX12_account_134 rfl ?_
        cases E
        exact ea_ireturn (pc := 159) dX12_account_159 rfl rfl
    · have E := (if_neg c18).symm.trans E
      refine ea_aload_n (pc := 47) dX12_account_47 rfl 0 rfl ?_
      refine ea_iload (pc := 48) dX12_account_48 8 rfl ?_
      refine ea_iload_n (pc := 50) dX12_account_50 rfl 1 rfl ?_
      refine ea_iload_n (pc := 51) dX12_account_51 rfl 2 rfl ?_
      obtain ⟨z9, E⟩ := gd_some E
      refine ea_callV (pc := 52) (d' := d - 1) (As := [vI x8, vI x1, vI x2]) (st := []) dX12_account_52 kX12_isOf (sX12_isOf (d := d - 1) (by omega) hs z9) (by omega) rfl (Nat.le_of_ble_eq_true rfl) ew_2102 ew_2104 ew_100 (ci := 12) rfl (by decide) (hs.1 0 (by decide)).1 (hs.1 0 (by decide)).2.1 ?_
      refine ea_if_ne (pc := 55) (tgt := 61) dX12_account_55 rfl (fun c17 => ?_) (fun c17 => ?_)
      · have E := (if_neg c17).symm.trans E
        refine ea_iload (pc := 61) dX12_account_61 4 rfl ?_
        refine ea_aload_n (pc := 63) dX12_account_63 rfl 0 rfl ?_
        refine ea_iload (pc := 64) dX12_account_64 8 rfl ?_
        obtain ⟨z10, E⟩ := gd_some E
        refine ea_callV (pc := 66) (d' := d - 1) (As := [vI x8]) (st := [vI x4]) dX12_account_66 kX12_owed (sX12_owed (d := d - 1) (by omega) hs z10) (by omega) rfl (Nat.le_of_ble_eq_true rfl) ew_2027 ew_2029 ew_90 (ci := 12) rfl (by decide) (hs.1 0 (by decide)).1 (hs.1 0 (by decide)).2.1 ?_
        refine ea_iadd (pc := 69) dX12_account_69 ?_
        refine ea_istore (pc := 70) (lv' := [(0, vR (some (b0 + 0))), (1, vI x1), (2, vI x2), (3, vI x3), (4, vI (x4 + (vX12_owed b0 (x8 : Int32) h))), (5, vI x5), (6, vI x6), (7, vI x7), (8, vI x8)]) dX12_account_70 (Nat.le_of_ble_eq_true rfl) [1, 2, 3, 4, 0, 5, 6, 7, 8] rfl ?_
        refine ea_aload_n (pc := 72) dX12_account_72 rfl 0 rfl ?_
        refine ea_getR (pc := 73) dX12_account_73 ec_12 (k := 81) (Nat.le_of_ble_eq_true rfl) rfl (Or.inl ew_1426) (hs.1 0 (by decide)).1 (hs.1 0 (by decide)).2.1 (hs.2 0 81 rfl) ?_
        refine ea_iload (pc := 76) dX12_account_76 8 rfl ?_
        obtain ⟨z11, E⟩ := gd_some E
        refine ea_iald (pc := 78) dX12_account_78 (hs.1 55 (by decide)).1 (hs.1 55 (by decide)).2.1 (ea_vpl (hs.1 55 (by decide)).2.2 z11) ?_
        refine ea_iconst (pc := 79) dX12_account_79 (v := 2) rfl ?_
        refine ea_icmp_ne (pc := 80) (tgt := 97) dX12_account_80 rfl (fun c16 => ?_) (fun c16 => ?_)
        · have E := (if_neg c16).symm.trans E
          refine ea_aload_n (pc := 97) dX12_account_97 rfl 0 rfl ?_
          refine ea_iload (pc := 98) dX12_account_98 8 rfl ?_
          obtain ⟨z12, E⟩ := gd_some E
          refine ea_callV (pc := 100) (d' := d - 1) (As := [vI x8]) (st := []) dX12_account_100 kX12_owed (sX12_owed (d := d - 1) (by omega) hs z12) (by omega) rfl (Nat.le_of_ble_eq_true rfl) ew_2027 ew_2029 ew_90 (ci := 12) rfl (by decide) (hs.1 0 (by decide)).1 (hs.1 0 (by decide)).2.1 ?_
          refine ea_if_le (pc := 103) (tgt := 122) dX12_account_103 rfl (fun c14 => ?_) (fun c14 => ?_)
          · have E := (if_pos c14).symm.trans E
            refine ea_iinc (pc := 122) (v := 1) (lv' := [(0, vR (some (b0 + 0))), (1, vI x1), (2, vI x2), (3, vI x3), (4, vI (x4 + (vX12_owed b0 (x8 : Int32) h))), (5, vI x5), (6, vI x6), (7, vI x7), (8, vI (x8 + (1 : Int32)))]) dX12_account_122 8 rfl rfl (Nat.le_of_ble_eq_true rfl) [1, 2, 3, 4, 5, 6, 7, 8, 0] rfl ?_
            refine ea_goto (pc := 125) (tgt := 38) dX12_account_125 rfl ?_
            exact ((ih 38 (x1 : Int32) (x2 : Int32) (x3 : Int32) ((x4 + (vX12_owed b0 (x8 : Int32) h)) : Int32) (x5 : Int32) (x6 : Int32) (x7 : Int32) ((x8 + (1 : Int32)) : Int32) h _ _ E hs).2 rfl)
          · have E := (if_neg c14).symm.trans E
            refine ea_iload (pc := 106) dX12_account_106 6 rfl ?_
            refine ea_iload_n (pc := 108) dX12_account_108 rfl 3 rfl ?_
            refine ea_bipush (pc := 109) dX12_account_109 (v := 10) rfl ?_
            refine ea_isub (pc := 111) dX12_account_111 ?_
            refine ea_icmp_ne (pc := 112) (tgt := 119) dX12_account_112 rfl (fun c13 => ?_) (fun c13 => ?_)
            · have E := (if_neg c13).symm.trans E
              refine ea_iinc (pc := 119) (v := 1) (lv' := [(0, vR (some (b0 + 0))), (1, vI x1), (2, vI x2), (3, vI x3), (4, vI (x4 + (vX12_owed b0 (x8 : Int32) h))), (5, vI x5), (6, vI (x6 + (1 : Int32))), (7, vI x7), (8, vI x8)]) dX12_account_119 6 rfl rfl (Nat.le_of_ble_eq_true rfl) [1, 2, 3, 4, 5, 6, 0, 7, 8] rfl ?_
              refine ea_iinc (pc := 122) (v := 1) (lv' := [(0, vR (some (b0 + 0))), (1, vI x1), (2, vI x2), (3, vI x3), (4, vI (x4 + (vX12_owed b0 (x8 : Int32) h))), (5, vI x5), (6, vI (x6 + (1 : Int32))), (7, vI x7), (8, vI (x8 + (1 : Int32)))]) dX12_account_122 8 rfl rfl (Nat.le_of_ble_eq_true rfl) [1, 2, 3, 4, 5, 6, 7, 8, 0] rfl ?_
              refine ea_goto (pc := 125) (tgt := 38) dX12_account_125 rfl ?_
              exact ((ih 38 (x1 : Int32) (x2 : Int32) (x3 : Int32) ((x4 + (vX12_owed b0 (x8 : Int32) h)) : Int32) (x5 : Int32) ((x6 + (1 : Int32)) : Int32) (x7 : Int32) ((x8 + (1 : Int32)) : Int32) h _ _ E hs).2 rfl)
            · have E := (if_pos c13).symm.trans E
              refine ea_iload (pc := 115) dX12_account_115 8 rfl ?_
              refine ea_istore (pc := 117) (lv' := [(0, vR (some (b0 + 0))), (1, vI x1), (2, vI x2), (3, vI x3), (4, vI (x4 + (vX12_owed b0 (x8 : Int32) h))), (5, vI x5), (6, vI x6), (7, vI x8), (8, vI x8)]) dX12_account_117 (Nat.le_of_ble_eq_true rfl) [1, 2, 3, 4, 5, 6, 7, 0, 8] rfl ?_
              refine ea_iinc (pc := 119) (v := 1) (lv' := [(0, vR (some (b0 + 0))), (1, vI x1), (2, vI x2), (3, vI x3), (4, vI (x4 + (vX12_owed b0 (x8 : Int32) h))), (5, vI x5), (6, vI (x6 + (1 : Int32))), (7, vI x8), (8, vI x8)]) dX12_account_119 6 rfl rfl (Nat.le_of_ble_eq_true rfl) [1, 2, 3, 4, 5, 6, 0, 7, 8] rfl ?_
              refine ea_iinc (pc := 122) (v := 1) (lv' := [(0, vR (some (b0 + 0))), (1, vI x1), (2, vI x2), (3, vI x3), (4, vI (x4 + (vX12_owed b0 (x8 : Int32) h))), (5, vI x5), (6, vI (x6 + (1 : Int32))), (7, vI x8), (8, vI (x8 + (1 : Int32)))]) dX12_account_122 8 rfl rfl (Nat.le_of_ble_eq_true rfl) [1, 2, 3, 4, 5, 6, 7, 8, 0] rfl ?_
              refine ea_goto (pc := 125) (tgt := 38) dX12_account_125 rfl ?_
              exact ((ih 38 (x1 : Int32) (x2 : Int32) (x3 : Int32) ((x4 + (vX12_owed b0 (x8 : Int32) h)) : Int32) (x5 : Int32) ((x6 + (1 : Int32)) : Int32) (x8 : Int32) ((x8 + (1 : Int32)) : Int32) h _ _ E hs).2 rfl)
        · have E := (if_pos c16).symm.trans E
          refine ea_iload (pc := 83) dX12_account_83 5 rfl ?_
          refine ea_aload_n (pc := 85) dX12_account_85 rfl 0 rfl ?_
          refine ea_iload (pc := 86) dX12_account_86 8 rfl ?_
          obtain ⟨z15, E⟩ := gd_some E
          refine ea_callV (pc := 88) (d' := d - 1) (As := [vI x8]) (st := [vI x5]) dX12_account_88 kX12_owed (sX12_owed (d := d - 1) (by omega) hs z15) (by omega) rfl (Nat.le_of_ble_eq_true rfl) ew_2027 ew_2029 ew_90 (ci := 12) rfl (by decide) (hs.1 0 (by decide)).1 (hs.1 0 (by decide)).2.1 ?_
          refine ea_iadd (pc := 91) dX12_account_91 ?_
          refine ea_istore (pc := 92) (lv' := [(0, vR (some (b0 + 0))), (1, vI x1), (2, vI x2), (3, vI x3), (4, vI (x4 + (vX12_owed b0 (x8 : Int32) h))), (5, vI (x5 + (vX12_owed b0 (x8 : Int32) h))), (6, vI x6), (7, vI x7), (8, vI x8)]) dX12_account_92 (Nat.le_of_ble_eq_true rfl) [1, 2, 3, 4, 5, 0, 6, 7, 8] rfl ?_
          refine ea_goto (pc := 94) (tgt := 122) dX12_account_94 rfl ?_
          refine ea_iinc (pc := 122) (v := 1) (lv' := [(0, vR (some (b0 + 0))), (1, vI x1), (2, vI x2), (3, vI x3), (4, vI (x4 + (vX12_owed b0 (x8 : Int32) h))), (5, vI (x5 + (vX12_owed b0 (x8 : Int32) h))), (6, vI x6), (7, vI x7), (8, vI (x8 + (1 : Int32)))]) dX12_account_122 8 rfl rfl (Nat.le_of_ble_eq_true rfl) [1, 2, 3, 4, 5, 6, 7, 8, 0] rfl ?_
          refine ea_goto (pc := 125) (tgt := 38) dX12_account_125 rfl ?_
          exact ((ih 38 (x1 : Int32) (x2 : Int32) (x3 : Int32) ((x4 + (vX12_owed b0 (x8 : Int32) h)) : Int32) ((x5 + (vX12_owed b0 (x8 : Int32) h)) : Int32) (x6 : Int32) (x7 : Int32) ((x8 + (1 : Int32)) : Int32) h _ _ E hs).2 rfl)
      · have E := (if_pos c17).symm.trans E
        refine ea_goto (pc := 58) (tgt := 122) dX12_account_58 rfl ?_
        refine ea_iinc (pc := 122) (v := 1) (lv' := [(0, vR (some (b0 + 0))), (1, vI x1), (2, vI x2), (3, vI x3), (4, vI x4), (5, vI x5), (6, vI x6), (7, vI x7), (8, vI (x8 + (1 : Int32)))]) dX12_account_122 8 rfl rfl (Nat.le_of_ble_eq_true rfl) [1, 2, 3, 4, 5, 6, 7, 8, 0] rfl ?_
        refine ea_goto (pc := 125) (tgt := 38) dX12_account_125 rfl ?_
        exact ((ih 38 (x1 : Int32) (x2 : Int32) (x3 : Int32) (x4 : Int32) (x5 : Int32) (x6 : Int32) (x7 : Int32) ((x8 + (1 : Int32)) : Int32) h _ _ E hs).2 rfl)
noncomputable def qX12_account (b0 : Nat) (x1 : Int32) (x2 : Int32) (x3 : Int32) (h : ea_H) : Option (Int32 × ea_H) := gX12_account b0 1000000000 0 x1 x2 x3 0 0 0 0 0 h
def okX12_account (b0 : Nat) (x1 : Int32) (x2 : Int32) (x3 : Int32) (h : ea_H) : Prop := ∃ x, qX12_account b0 x1 x2 x3 h = some x
noncomputable def vX12_account (b0 : Nat) (x1 : Int32) (x2 : Int32) (x3 : Int32) (h : ea_H) : Int32 := ((qX12_account b0 x1 x2 x3 h).getD (0, h)).1
noncomputable def wX12_account (b0 : Nat) (x1 : Int32) (x2 : Int32) (x3 : Int32) (h : ea_H) : ea_H := ((qX12_account b0 x1 x2 x3 h).getD (0, h)).2
theorem sX12_account {d : Nat} {b0 : Nat} {x1 : Int32} {x2 : Int32} {x3 : Int32} {h : ea_H} (hd : 3 ≤ d) (hs : ShM b0 h) (K : okX12_account b0 x1 x2 x3 h) : ea_Met mX12_account d [vR (some (b0 + 0)), vI x1, vI x2, vI x3] h (some (vI (vX12_account b0 x1 x2 x3 h))) (wX12_account b0 x1 x2 x3 h) := by
  obtain ⟨⟨x, y⟩, K⟩ := K
  unfold wX12_account vX12_account
  rw [K]
  unfold qX12_account at K
  exact ea_enter rfl (Nat.le_of_ble_eq_true rfl) ((tX12_account hd 1000000000 0 x1 x2 x3 0 0 0 0 0 h x y K hs).1 rfl)
theorem zX12_account {b0 : Nat} : ∀ (f lbl : Nat) (x1 : Int32) (x2 : Int32) (x3 : Int32) (x4 : Int32) (x5 : Int32) (x6 : Int32) (x7 : Int32) (x8 : Int32) (h : ea_H) (r : Int32) (h' : ea_H), gX12_account b0 f lbl x1 x2 x3 x4 x5 x6 x7 x8 h = some (r, h') → ShM b0 h → ShM b0 h' := by
  intro f
  induction f with
  | zero => intro lbl x1 x2 x3 x4 x5 x6 x7 x8 h r h' E; cases E
  | succ f ih =>
    intro lbl x1 x2 x3 x4 x5 x6 x7 x8 h r h' E hs
    unfold gX12_account at E
    by_cases el0 : lbl = 0
    · have E := (if_pos el0).symm.trans E
      by_cases c5 : (vX12_isTown b0 (x1 : Int32) h) = (0 : Int32)
      · have E := (if_pos c5).symm.trans E
        cases E
        exact hs
      have E := (if_neg c5).symm.trans E
      by_cases c4 : (vX12_isTown b0 (x2 : Int32) h) = (0 : Int32)
      · have E := (if_pos c4).symm.trans E
        cases E
        exact hs
      have E := (if_neg c4).symm.trans E
      by_cases c3 : x1 = x2
      · have E := (if_pos c3).symm.trans E
        cases E
        exact hs
      have E := (if_neg c3).symm.trans E
      exact ih 38 (x1 : Int32) (x2 : Int32) (x3 : Int32) (0 : Int32) (0 : Int32) (0 : Int32) ((-1) : Int32) (0 : Int32) h _ _ E hs
    have E := (if_neg el0).symm.trans E
    by_cases el1 : lbl = 38
    · have E := (if_pos el1).symm.trans E
      by_cases c18 : (ea_i h (b0 + 0) 63) ≤ x8
      · have E := (if_pos c18).symm.trans E
        by_cases c8 : x3 = (0 : Int32)
        · have E := (if_pos c8).symm.trans E
          cases E
          exact hs
        have E := (if_neg c8).symm.trans E
        by_cases c7 : x3 = (1 : Int32)
        · have E := (if_pos c7).symm.trans E
          cases E
          exact hs
        have E := (if_neg c7).symm.trans E
        by_cases c6 : x3 = (2 : Int32)
        · have E := (if_pos c6).symm.trans E
          cases E
          exact hs
        have E := (if_neg c6).symm.trans E
        cases E
        exact hs
      have E := (if_neg c18).symm.trans E
      obtain ⟨z9, E⟩ := gd_some E
      by_cases c17 : (vX12_isOf b0 (x8 : Int32) (x1 : Int32) (x2 : Int32) h) = (0 : Int32)
      · have E := (if_pos c17).symm.trans E
        exact ih 38 (x1 : Int32) (x2 : Int32) (x3 : Int32) (x4 : Int32) (x5 : Int32) (x6 : Int32) (x7 : Int32) ((x8 + (1 : Int32)) : Int32) h _ _ E hs
      have E := (if_neg c17).symm.trans E
      obtain ⟨z10, E⟩ := gd_some E
      obtain ⟨z11, E⟩ := gd_some E
      by_cases c16 : (ea_i h (b0 + 55) (Int32.toNatClampNeg x8)) = (2 : Int32)
      · have E := (if_pos c16).symm.trans E
        obtain ⟨z15, E⟩ := gd_some E
        exact ih 38 (x1 : Int32) (x2 : Int32) (x3 : Int32) ((x4 + (vX12_owed b0 (x8 : Int32) h)) : Int32) ((x5 + (vX12_owed b0 (x8 : Int32) h)) : Int32) (x6 : Int32) (x7 : Int32) ((x8 + (1 : Int32)) : Int32) h _ _ E hs
      have E := (if_neg c16).symm.trans E
      obtain ⟨z12, E⟩ := gd_some E
      by_cases c14 : (vX12_owed b0 (x8 : Int32) h) ≤ (0 : Int32)
      · have E := (if_pos c14).symm.trans E
        exact ih 38 (x1 : Int32) (x2 : Int32) (x3 : Int32) ((x4 + (vX12_owed b0 (x8 : Int32) h)) : Int32) (x5 : Int32) (x6 : Int32) (x7 : Int32) ((x8 + (1 : Int32)) : Int32) h _ _ E hs
      have E := (if_neg c14).symm.trans E
      by_cases c13 : x6 = (x3 - (10 : Int32))
      · have E := (if_pos c13).symm.trans E
        exact ih 38 (x1 : Int32) (x2 : Int32) (x3 : Int32) ((x4 + (vX12_owed b0 (x8 : Int32) h)) : Int32) (x5 : Int32) ((x6 + (1 : Int32)) : Int32) (x8 : Int32) ((x8 + (1 : Int32)) : Int32) h _ _ E hs
      have E := (if_neg c13).symm.trans E
      exact ih 38 (x1 : Int32) (x2 : Int32) (x3 : Int32) ((x4 + (vX12_owed b0 (x8 : Int32) h)) : Int32) (x5 : Int32) ((x6 + (1 : Int32)) : Int32) (x7 : Int32) ((x8 + (1 : Int32)) : Int32) h _ _ E hs
    have E := (if_neg el1).symm.trans E
    cases E
theorem shX12_account {b0 : Nat} {x1 : Int32} {x2 : Int32} {x3 : Int32} {h : ea_H} (hs : ShM b0 h) : ShM b0 (wX12_account b0 x1 x2 x3 h) := by
  unfold wX12_account
  cases K : qX12_account b0 x1 x2 x3 h with
  | none => exact hs
  | some x => obtain ⟨x, y⟩ := x; unfold qX12_account at K; exact zX12_account _ _ _ _ _ _ _ _ _ _ _ _ _ K hs
noncomputable def vX12_nobody (b0 : Nat) (x1 : Int32) (h : ea_H) : Int32 := (if (vX12_isLetterOf b0 (x1 : Int32) h) = (0 : Int32) then (0 : Int32) else (if (ea_i h (b0 + 54) (Int32.toNatClampNeg x1)) = (0 : Int32) then (if (ea_i h (b0 + 55) (Int32.toNatClampNeg x1)) ≤ (1 : Int32) then (1 : Int32) else (0 : Int32)) else (0 : Int32)))
noncomputable def wX12_nobody (b0 : Nat) (x1 : Int32) (h : ea_H) : ea_H := (if (vX12_isLetterOf b0 (x1 : Int32) h) = (0 : Int32) then h else (if (ea_i h (b0 + 54) (Int32.toNatClampNeg x1)) = (0 : Int32) then (if (ea_i h (b0 + 55) (Int32.toNatClampNeg x1)) ≤ (1 : Int32) then (ea_wi h (b0 + 54) (Int32.toNatClampNeg x1) 1) else h) else h))
def okX12_nobody (b0 : Nat) (x1 : Int32) (h : ea_H) : Prop := ((vX12_isLetterOf b0 (x1 : Int32) h) = (0 : Int32) → True) ∧ (¬ (vX12_isLetterOf b0 (x1 : Int32) h) = (0 : Int32) → vp_in x1 120 ∧ (((ea_i h (b0 + 54) (Int32.toNatClampNeg x1)) = (0 : Int32) → vp_in x1 120 ∧ (((ea_i h (b0 + 55) (Int32.toNatClampNeg x1)) ≤ (1 : Int32) → vp_in x1 120) ∧ (¬ (ea_i h (b0 + 55) (Int32.toNatClampNeg x1)) ≤ (1 : Int32) → True))) ∧ (¬ (ea_i h (b0 + 54) (Int32.toNatClampNeg x1)) = (0 : Int32) → True)))
theorem bo_vX12_nobody (b0 : Nat) (x1 : Int32) (h : ea_H) : vX12_nobody b0 x1 h = 0 ∨ vX12_nobody b0 x1 h = 1 := (ea_itB (Or.inl rfl) (ea_itB (ea_itB (Or.inr rfl) (Or.inl rfl)) (Or.inl rfl)))
theorem shX12_nobody {b0 : Nat} {x1 : Int32} {h : ea_H} (hs : ShM b0 h) : ShM b0 (wX12_nobody b0 x1 h) := (ShM_it hs (ShM_it (ShM_it (ShM_wi hs) hs) hs))
theorem sX12_nobody {d : Nat} {b0 : Nat} {x1 : Int32} {h : ea_H} (hd : 3 ≤ d) (hs : ShM b0 h) (K : okX12_nobody b0 x1 h) : ea_Met mX12_nobody d [vR (some (b0 + 0)), vI x1] h (some (vI (vX12_nobody b0 x1 h))) (wX12_nobody b0 x1 h) := by
  obtain ⟨X, EX⟩ : ∃ z, z = vX12_nobody b0 x1 h := ⟨_, rfl⟩
  rw [← EX]
  unfold vX12_nobody at EX
  obtain ⟨Y, EY⟩ : ∃ z, z = wX12_nobody b0 x1 h := ⟨_, rfl⟩
  rw [← EY]
  unfold wX12_nobody at EY
  unfold okX12_nobody at K
  refine ea_enter rfl (Nat.le_of_ble_eq_true rfl) ?_
  refine ea_aload_n (pc := 0) dX12_nobody_0 rfl 0 rfl ?_
  refine ea_iload_n (pc := 1) dX12_nobody_1 rfl 1 rfl ?_
  refine ea_callV (pc := 2) (d' := d - 1) (As := [vI x1]) (st := []) dX12_nobody_2 kX12_isLetterOf (sX12_isLetterOf (d := d - 1) (by omega) hs) (by omega) rfl (Nat.le_of_ble_eq_true rfl) ew_2019 ew_2021 ew_89 (ci := 12) rfl (by decide) (hs.1 0 (by decide)).1 (hs.1 0 (by decide)).2.1 ?_
  refine ea_if_eq (pc := 5) (tgt := 27) dX12_nobody_5 rfl (fun c8 => ?_) (fun c8 => ?_)
  · have EX := EX.trans (if_pos c8)
    have EY := EY.trans (if_pos c8)
    refine ea_iconst (pc := 27) dX12_nobody_27 (v := 0) rfl ?_
    subst EX
    subst EY
    exact ea_ireturn (pc := 28) dX12_nobody_28 rfl (ea_bn (Or.inl rfl))
  · have EX := EX.trans (if_neg c8)
    have EY := EY.trans (if_neg c8)
    have K := K.2 c8
    refine ea_aload_n (pc := 8) dX12_nobody_8 rfl 0 rfl ?_
    refine ea_getR (pc := 9) dX12_nobody_9 ec_12 (k := 80) (Nat.le_of_ble_eq_true rfl) rfl (Or.inl ew_1425) (hs.1 0 (by decide)).1 (hs.1 0 (by decide)).2.1 (hs.2 0 80 rfl) ?_
    refine ea_iload_n (pc := 12) dX12_nobody_12 rfl 1 rfl ?_
    obtain ⟨z2, K⟩ := K
    refine ea_zald (pc := 13) dX12_nobody_13 (hs.1 54 (by decide)).1 (hs.1 54 (by decide)).2.1 (ea_vpl (hs.1 54 (by decide)).2.2 z2) ?_
    refine ea_if_ne (pc := 14) (tgt := 27) dX12_nobody_14 rfl (fun c7 => ?_) (fun c7 => ?_)
    · have EX := EX.trans (if_neg c7)
      have EY := EY.trans (if_neg c7)
      refine ea_iconst (pc := 27) dX12_nobody_27 (v := 0) rfl ?_
      subst EX
      subst EY
      exact ea_ireturn (pc := 28) dX12_nobody_28 rfl (ea_bn (Or.inl rfl))
    · have EX := EX.trans (if_pos c7)
      have EY := EY.trans (if_pos c7)
      have K := K.1 c7
      refine ea_aload_n (pc := 17) dX12_nobody_17 rfl 0 rfl ?_
      refine ea_getR (pc := 18) dX12_nobody_18 ec_12 (k := 81) (Nat.le_of_ble_eq_true rfl) rfl (Or.inl ew_1426) (hs.1 0 (by decide)).1 (hs.1 0 (by decide)).2.1 (hs.2 0 81 rfl) ?_
      refine ea_iload_n (pc := 21) dX12_nobody_21 rfl 1 rfl ?_
      obtain ⟨z3, K⟩ := K
      refine ea_iald (pc := 22) dX12_nobody_22 (hs.1 55 (by decide)).1 (hs.1 55 (by decide)).2.1 (ea_vpl (hs.1 55 (by decide)).2.2 z3) ?_
      refine ea_iconst (pc := 23) dX12_nobody_23 (v := 1) rfl ?_
      refine ea_icmp_le (pc := 24) (tgt := 29) dX12_nobody_24 rfl (fun c6 => ?_) (fun c6 => ?_)
      · have EX := EX.trans (if_pos c6)
        have EY := EY.trans (if_pos c6)
        have K := K.1 c6
        refine ea_aload_n (pc := 29) dX12_nobody_29 rfl 0 rfl ?_
        refine ea_getR (pc := 30) dX12_nobody_30 ec_12 (k := 80) (Nat.le_of_ble_eq_true rfl) rfl (Or.inl ew_1425) (hs.1 0 (by decide)).1 (hs.1 0 (by decide)).2.1 (hs.2 0 80 rfl) ?_
        refine ea_iload_n (pc := 33) dX12_nobody_33 rfl 1 rfl ?_
        refine ea_iconst (pc := 34) dX12_nobody_34 (v := 1) rfl ?_
        have z4 := K
        refine ea_zast (pc := 35) dX12_nobody_35 (y := 1) (ea_bn (Or.inr rfl)) (hs.1 54 (by decide)).1 (hs.1 54 (by decide)).2.1 (ea_vpl (hs.1 54 (by decide)).2.2 z4) ?_
        have hs5 : ShM b0 (ea_wi h (b0 + 54) (Int32.toNatClampNeg x1) 1) := ShM_wi hs
        refine ea_iconst (pc := 36) dX12_nobody_36 (v := 1) rfl ?_
        subst EX
        subst EY
        exact ea_ireturn (pc := 37) dX12_nobody_37 rfl (ea_bn (Or.inr rfl))
      · have EX := EX.trans (if_neg c6)
        have EY := EY.trans (if_neg c6)
        refine ea_iconst (pc := 27) dX12_nobody_27 (v := 0) rfl ?_
        subst EX
        subst EY
        exact ea_ireturn (pc := 28) dX12_nobody_28 rfl (ea_bn (Or.inl rfl))
noncomputable def gX12_place (b0 : Nat) : Nat → Nat → Int32 → Int32 → Int32 → Int32 → ea_H → Option (Int32 × ea_H)
  | 0, _, _, _, _, _, _ => none
  | f + 1, lbl, x1, x2, x3, x4, h =>
    if lbl = 0 then (if (vX12_isLetterOf b0 (x1 : Int32) h) = (0 : Int32) then (some ((0 : Int32), h)) else (gd (vp_in x1 120) (if (ea_i h (b0 + 55) (Int32.toNatClampNeg x1)) = (3 : Int32) then (if (vX12_isTown b0 (x2 : Int32) h) = (0 : Int32) then (some ((0 : Int32), h)) else (gd (vp_in x1 120) (if x2 = (ea_i h (b0 + 40) (Int32.toNatClampNeg x1)) then (some ((0 : Int32), h)) else (if (vX12_isIn (x3 : Int32) (1 : Int32) (99 : Int32) h) = (0 : Int32) then (some ((0 : Int32), h)) else (gX12_place b0 f 51 (x1 : Int32) (x2 : Int32) (x3 : Int32) (0 : Int32) h))))) else (some ((0 : Int32), h))))) else
    if lbl = 51 then (gd (vp_in x1 120) (if (ea_i h (b0 + 70) (Int32.toNatClampNeg x1)) ≤ x4 then (gX12_place b0 f 83 (x1 : Int32) (x2 : Int32) (x3 : Int32) (x4 : Int32) h) else (gd (vp_in (((4 : Int32) * x1) + x4) 480) (if (ea_i h (b0 + 71) (Int32.toNatClampNeg (((4 : Int32) * x1) + x4))) = x2 then (gX12_place b0 f 83 (x1 : Int32) (x2 : Int32) (x3 : Int32) (x4 : Int32) h) else (gX12_place b0 f 51 (x1 : Int32) (x2 : Int32) (x3 : Int32) ((x4 + (1 : Int32)) : Int32) h))))) else
    if lbl = 83 then (if x4 = (4 : Int32) then (some ((0 : Int32), h)) else (gd (vp_in (((4 : Int32) * x1) + x4) 480) (gd (vp_in (((4 : Int32) * x1) + x4) 480) (gd (vp_in x1 120) (if x4 = (ea_i (ea_wi (ea_wi h (b0 + 71) (Int32.toNatClampNeg (((4 : Int32) * x1) + x4)) x2) (b0 + 72) (Int32.toNatClampNeg (((4 : Int32) * x1) + x4)) x3) (b0 + 70) (Int32.toNatClampNeg x1)) then (gd (vp_in x1 120) (gd (vp_in x1 120) (some ((1 : Int32), (ea_wi (ea_wi (ea_wi h (b0 + 71) (Int32.toNatClampNeg (((4 : Int32) * x1) + x4)) x2) (b0 + 72) (Int32.toNatClampNeg (((4 : Int32) * x1) + x4)) x3) (b0 + 70) (Int32.toNatClampNeg x1) ((ea_i (ea_wi (ea_wi h (b0 + 71) (Int32.toNatClampNeg (((4 : Int32) * x1) + x4)) x2) (b0 + 72) (Int32.toNatClampNeg (((4 : Int32) * x1) + x4)) x3) (b0 + 70) (Int32.toNatClampNeg x1)) + (1 : Int32))))))) else (some ((1 : Int32), (ea_wi (ea_wi h (b0 + 71) (Int32.toNatClampNeg (((4 : Int32) * x1) + x4)) x2) (b0 + 72) (Int32.toNatClampNeg (((4 : Int32) * x1) + x4)) x3)))))))) else none
theorem tX12_place {d : Nat} {b0 : Nat} {h0 : ea_H} (hd : 3 ≤ d) : ∀ (f lbl : Nat) (x1 : Int32) (x2 : Int32) (x3 : Int32) (x4 : Int32) (h : ea_H) (r : Int32) (h' : ea_H), gX12_place b0 f lbl x1 x2 x3 x4 h = some (r, h') → ShM b0 h → (lbl = 0 → ea_W mX12_place d h0 (some (vI r)) h' 0 [(0, vR (some (b0 + 0))), (1, vI x1), (2, vI x2), (3, vI x3)] [] h) ∧ (lbl = 51 → ea_W mX12_place d h0 (some (vI r)) h' 51 [(0, vR (some (b0 + 0))), (1, vI x1), (2, vI x2), (3, vI x3), (4, vI x4)] [] h) ∧ (lbl = 83 → ea_W mX12_place d h0 (some (vI r)) h' 83 [(0, vR (some (b0 + 0))), (1, vI x1), (2, vI x2), (3, vI x3), (4, vI x4)] [] h) := by
  intro f
  induction f with
  | zero => intro lbl x1 x2 x3 x4 h r h' E; cases E
  | succ f ih =>
    intro lbl x1 x2 x3 x4 h r h' E hs
    unfold gX12_place at E
    refine ⟨?_, ?_⟩
    · intro el
      subst el
      have E := (if_pos rfl).symm.trans E
      refine ea_aload_n (pc := 0) dX12_place_0 rfl 0 rfl ?_
      refine ea_iload_n (pc := 1) dX12_place_1 rfl 1 rfl ?_
      refine ea_callV (pc := 2) (d' := d - 1) (As := [vI x1]) (st := []) dX12_place_2 kX12_isLetterOf (sX12_isLetterOf (d := d - 1) (by omega) hs) (by omega) rfl (Nat.le_of_ble_eq_true rfl) ew_2019 ew_2021 ew_89 (ci := 12) rfl (by decide) (hs.1 0 (by decide)).1 (hs.1 0 (by decide)).2.1 ?_
      refine ea_if_eq (pc := 5) (tgt := 46) dX12_place_5 rfl (fun c10 => ?_) (fun c10 => ?_)
      · have E := (if_pos c10).symm.trans E
        refine ea_iconst (pc := 46) dX12_place_46 (v := 0) rfl ?_
        cases E
        exact ea_ireturn (pc := 47) dX12_place_47 rfl (ea_bn (Or.inl rfl))
      · have E := (if_neg c10).symm.trans E
        refine ea_aload_n (pc := 8) dX12_place_8 rfl 0 rfl ?_
        refine ea_getR (pc := 9) dX12_place_9 ec_12 (k := 81) (Nat.le_of_ble_eq_true rfl) rfl (Or.inl ew_1426) (hs.1 0 (by decide)).1 (hs.1 0 (by decide)).2.1 (hs.2 0 81 rfl) ?_
        refine ea_iload_n (pc := 12) dX12_place_12 rfl 1 rfl ?_
        obtain ⟨z2, E⟩ := gd_some E
        refine ea_iald (pc := 13) dX12_place_13 (hs.1 55 (by decide)).1 (hs.1 55 (by decide)).2.1 (ea_vpl (hs.1 55 (by decide)).2.2 z2) ?_
        refine ea_iconst (pc := 14) dX12_place_14 (v := 3) rfl ?_
        refine ea_icmp_ne (pc := 15) (tgt := 46) dX12_place_15 rfl (fun c9 => ?_) (fun c9 => ?_)
        · have E := (if_neg c9).symm.trans E
          refine ea_iconst (pc := 46) dX12_place_46 (v := 0) rfl ?_
          cases E
          exact ea_ireturn (pc := 47) dX12_place_47 rfl (ea_bn (Or.inl rfl))
        · have E := (if_pos c9).symm.trans E
          refine ea_aload_n (pc := 18) dX12_place_18 rfl 0 rfl ?_
          refine ea_iload_n (pc := 19) dX12_place_19 rfl 2 rfl ?_
          refine ea_callV (pc := 20) (d' := d - 1) (As := [vI x2]) (st := []) dX12_place_20 kX12_isTown (sX12_isTown (d := d - 1) (by omega) hs) (by omega) rfl (Nat.le_of_ble_eq_true rfl) ew_1708 ew_1710 ew_47 (ci := 12) rfl (by decide) (hs.1 0 (by decide)).1 (hs.1 0 (by decide)).2.1 ?_
          refine ea_if_eq (pc := 23) (tgt := 46) dX12_place_23 rfl (fun c8 => ?_) (fun c8 => ?_)
          · have E := (if_pos c8).symm.trans E
            refine ea_iconst (pc := 46) dX12_place_46 (v := 0) rfl ?_
            cases E
            exact ea_ireturn (pc := 47) dX12_place_47 rfl (ea_bn (Or.inl rfl))
          · have E := (if_neg c8).symm.trans E
            refine ea_iload_n (pc := 26) dX12_place_26 rfl 2 rfl ?_
            refine ea_aload_n (pc := 27) dX12_place_27 rfl 0 rfl ?_
            refine ea_getR (pc := 28) dX12_place_28 ec_12 (k := 66) (Nat.le_of_ble_eq_true rfl) rfl (Or.inl ew_1411) (hs.1 0 (by decide)).1 (hs.1 0 (by decide)).2.1 (hs.2 0 66 rfl) ?_
            refine ea_iload_n (pc := 31) dX12_place_31 rfl 1 rfl ?_
            obtain ⟨z4, E⟩ := gd_some E
            refine ea_iald (pc := 32) dX12_place_32 (hs.1 40 (by decide)).1 (hs.1 40 (by decide)).2.1 (ea_vpl (hs.1 40 (by decide)).2.2 z4) ?_
            refine ea_icmp_eq (pc := 33) (tgt := 46) dX12_place_33 rfl (fun c7 => ?_) (fun c7 => ?_)
            · have E := (if_pos c7).symm.trans E
              refine ea_iconst (pc := 46) dX12_place_46 (v := 0) rfl ?_
              cases E
              exact ea_ireturn (pc := 47) dX12_place_47 rfl (ea_bn (Or.inl rfl))
            · have E := (if_neg c7).symm.trans E
              refine ea_iload_n (pc := 36) dX12_place_36 rfl 3 rfl ?_
              refine ea_iconst (pc := 37) dX12_place_37 (v := 1) rfl ?_
              refine ea_bipush (pc := 38) dX12_place_38 (v := 99) rfl ?_
              refine ea_callS (pc := 40) (d' := d - 1) (As := [vI x3, vI 1, vI 99]) (st := []) dX12_place_40 kX12_isIn (sX12_isIn (d := d - 1) (by omega)) (by omega) rfl (Nat.le_of_ble_eq_true rfl) ew_1712 ew_1713 ?_
              refine ea_if_ne (pc := 43) (tgt := 48) dX12_place_43 rfl (fun c6 => ?_) (fun c6 => ?_)
              · have E := (if_neg c6).symm.trans E
                refine ea_iconst (pc := 48) dX12_place_48 (v := 0) rfl ?_
                refine ea_istore (pc := 49) (lv' := [(0, vR (some (b0 + 0))), (1, vI x1), (2, vI x2), (3, vI x3), (4, vI 0)]) dX12_place_49 (Nat.le_of_ble_eq_true rfl) [1, 2, 3, 4, 0] rfl ?_
                exact ((ih 51 (x1 : Int32) (x2 : Int32) (x3 : Int32) (0 : Int32) h _ _ E hs).2.1 rfl)
              · have E := (if_pos c6).symm.trans E
                refine ea_iconst (pc := 46) dX12_place_46 (v := 0) rfl ?_
                cases E
                exact ea_ireturn (pc := 47) dX12_place_47 rfl (ea_bn (Or.inl rfl))
    refine ⟨?_, ?_⟩
    · intro el
      subst el
      have E := (if_neg (by decide)).symm.trans E
      have E := (if_pos rfl).symm.trans E
      refine ea_iload (pc := 51) dX12_place_51 4 rfl ?_
      refine ea_aload_n (pc := 53) dX12_place_53 rfl 0 rfl ?_
      refine ea_getR (pc := 54) dX12_place_54 ec_12 (k := 97) (Nat.le_of_ble_eq_true rfl) rfl (Or.inl ew_1442) (hs.1 0 (by decide)).1 (hs.1 0 (by decide)).2.1 (hs.2 0 97 rfl) ?_
      refine ea_iload_n (pc := 57) dX12_place_57 rfl 1 rfl ?_
      obtain ⟨z11, E⟩ := gd_some E
      refine ea_iald (pc := 58) dX12_place_58 (hs.1 70 (by decide)).1 (hs.1 70 (by decide)).2.1 (ea_vpl (hs.1 70 (by decide)).2.2 z11) ?_
      refine ea_icmp_ge (pc := 59) (tgt := 83) dX12_place_59 rfl (fun c14 => ?_) (fun c14 => ?_)
      · have E := (if_pos c14).symm.trans E
        exact ((ih 83 (x1 : Int32) (x2 : Int32) (x3 : Int32) (x4 : Int32) h _ _ E hs).2.2 rfl)
      · have E := (if_neg c14).symm.trans E
        refine ea_aload_n (pc := 62) dX12_place_62 rfl 0 rfl ?_
        refine ea_getR (pc := 63) dX12_place_63 ec_12 (k := 98) (Nat.le_of_ble_eq_true rfl) rfl (Or.inl ew_1443) (hs.1 0 (by decide)).1 (hs.1 0 (by decide)).2.1 (hs.2 0 98 rfl) ?_
        refine ea_iconst (pc := 66) dX12_place_66 (v := 4) rfl ?_
        refine ea_iload_n (pc := 67) dX12_place_67 rfl 1 rfl ?_
        refine ea_imul (pc := 68) dX12_place_68 ?_
        refine ea_iload (pc := 69) dX12_place_69 4 rfl ?_
        refine ea_iadd (pc := 71) dX12_place_71 ?_
        obtain ⟨z12, E⟩ := gd_some E
        refine ea_iald (pc := 72) dX12_place_72 (hs.1 71 (by decide)).1 (hs.1 71 (by decide)).2.1 (ea_vpl (hs.1 71 (by decide)).2.2 z12) ?_
        refine ea_iload_n (pc := 73) dX12_place_73 rfl 2 rfl ?_
        refine ea_icmp_eq (pc := 74) (tgt := 83) dX12_place_74 rfl (fun c13 => ?_) (fun c13 => ?_)
        · have E := (if_pos c13).symm.trans E
          exact ((ih 83 (x1 : Int32) (x2 : Int32) (x3 : Int32) (x4 : Int32) h _ _ E hs).2.2 rfl)
        · have E := (if_neg c13).symm.trans E
          refine ea_iinc (pc := 77) (v := 1) (lv' := [(0, vR (some (b0 + 0))), (1, vI x1), (2, vI x2), (3, vI x3), (4, vI (x4 + (1 : Int32)))]) dX12_place_77 4 rfl rfl (Nat.le_of_ble_eq_true rfl) [1, 2, 3, 4, 0] rfl ?_
          refine ea_goto (pc := 80) (tgt := 51) dX12_place_80 rfl ?_
          exact ((ih 51 (x1 : Int32) (x2 : Int32) (x3 : Int32) ((x4 + (1 : Int32)) : Int32) h _ _ E hs).2.1 rfl)
    intro el
    subst el
    have E := (if_neg (by decide)).symm.trans E
    have E := (if_neg (by decide)).symm.trans E
    have E := (if_pos rfl).symm.trans E
    refine ea_iload (pc := 83) dX12_place_83 4 rfl ?_
    refine ea_iconst (pc := 85) dX12_place_85 (v := 4) rfl ?_
    refine ea_icmp_ne (pc := 86) (tgt := 91) dX12_place_86 rfl (fun c24 => ?_) (fun c24 => ?_)
    · have E := (if_neg c24).symm.trans E
      refine ea_aload_n (pc := 91) dX12_place_91 rfl 0 rfl ?_
      refine ea_getR (pc := 92) dX12_place_92 ec_12 (k := 98) (Nat.le_of_ble_eq_true rfl) rfl (Or.inl ew_1443) (hs.1 0 (by decide)).1 (hs.1 0 (by decide)).2.1 (hs.2 0 98 rfl) ?_
      refine ea_iconst (pc := 95) dX12_place_95 (v := 4) rfl ?_
      refine ea_iload_n (pc := 96) dX12_place_96 rfl 1 rfl ?_
      refine ea_imul (pc := 97) dX12_place_97 ?_
      refine ea_iload (pc := 98) dX12_place_98 4 rfl ?_
      refine ea_iadd (pc := 100) dX12_place_100 ?_
      refine ea_iload_n (pc := 101) dX12_place_101 rfl 2 rfl ?_
      obtain ⟨z15, E⟩ := gd_some E
      refine ea_iast (pc := 102) dX12_place_102 (hs.1 71 (by decide)).1 (hs.1 71 (by decide)).2.1 (ea_vpl (hs.1 71 (by decide)).2.2 z15) ?_
      have hs16 : ShM b0 (ea_wi h (b0 + 71) (Int32.toNatClampNeg (((4 : Int32) * x1) + x4)) x2) := ShM_wi hs
      refine ea_aload_n (pc := 103) dX12_place_103 rfl 0 rfl ?_
      refine ea_getR (pc := 104) dX12_place_104 ec_12 (k := 99) (Nat.le_of_ble_eq_true rfl) rfl (Or.inl ew_1444) (hs16.1 0 (by decide)).1 (hs16.1 0 (by decide)).2.1 (hs16.2 0 99 rfl) ?_
      refine ea_iconst (pc := 107) dX12_place_107 (v := 4) rfl ?_
      refine ea_iload_n (pc := 108) dX12_place_108 rfl 1 rfl ?_
      refine ea_imul (pc := 109) dX12_place_109 ?_
      refine ea_iload (pc := 110) dX12_place_110 4 rfl ?_
      refine ea_iadd (pc := 112) dX12_place_112 ?_
      refine ea_iload_n (pc := 113) dX12_place_113 rfl 3 rfl ?_
      obtain ⟨z17, E⟩ := gd_some E
      refine ea_iast (pc := 114) dX12_place_114 (hs16.1 72 (by decide)).1 (hs16.1 72 (by decide)).2.1 (ea_vpl (hs16.1 72 (by decide)).2.2 z17) ?_
      have hs18 : ShM b0 (ea_wi (ea_wi h (b0 + 71) (Int32.toNatClampNeg (((4 : Int32) * x1) + x4)) x2) (b0 + 72) (Int32.toNatClampNeg (((4 : Int32) * x1) + x4)) x3) := ShM_wi hs16
      refine ea_iload (pc := 115) dX12_place_115 4 rfl ?_
      refine ea_aload_n (pc := 117) dX12_place_117 rfl 0 rfl ?_
      refine ea_getR (pc := 118) dX12_place_118 ec_12 (k := 97) (Nat.le_of_ble_eq_true rfl) rfl (Or.inl ew_1442) (hs18.1 0 (by decide)).1 (hs18.1 0 (by decide)).2.1 (hs18.2 0 97 rfl) ?_
      refine ea_iload_n (pc := 121) dX12_place_121 rfl 1 rfl ?_
      obtain ⟨z19, E⟩ := gd_some E
      refine ea_iald (pc := 122) dX12_place_122 (hs18.1 70 (by decide)).1 (hs18.1 70 (by decide)).2.1 (ea_vpl (hs18.1 70 (by decide)).2.2 z19) ?_
      refine ea_icmp_ne (pc := 123) (tgt := 136) dX12_place_123 rfl (fun c23 => ?_) (fun c23 => ?_)
      · have E := (if_neg c23).symm.trans E
        refine ea_iconst (pc := 136) dX12_place_136 (v := 1) rfl ?_
        cases E
        exact ea_ireturn (pc := 137) dX12_place_137 rfl (ea_bn (Or.inr rfl))
      · have E := (if_pos c23).symm.trans E
        refine ea_aload_n (pc := 126) dX12_place_126 rfl 0 rfl ?_
        refine ea_getR (pc := 127) dX12_place_127 ec_12 (k := 97) (Nat.le_of_ble_eq_true rfl) rfl (Or.inl ew_1442) (hs18.1 0 (by decide)).1 (hs18.1 0 (by decide)).2.1 (hs18.2 0 97 rfl) ?_
        refine ea_iload_n (pc := 130) dX12_place_130 rfl 1 rfl ?_
        refine ea_dup2 (pc := 131) dX12_place_131 rfl rfl ?_
        obtain ⟨z20, E⟩ := gd_some E
        refine ea_iald (pc := 132) dX12_place_132 (hs18.1 70 (by decide)).1 (hs18.1 70 (by decide)).2.1 (ea_vpl (hs18.1 70 (by decide)).2.2 z20) ?_
        refine ea_iconst (pc := 133) dX12_place_133 (v := 1) rfl ?_
        refine ea_iadd (pc := 134) dX12_place_134 ?_
        obtain ⟨z21, E⟩ := gd_some E
        refine ea_iast (pc := 135) dX12_place_135 (hs18.1 70 (by decide)).1 (hs18.1 70 (by decide)).2.1 (ea_vpl (hs18.1 70 (by decide)).2.2 z21) ?_
        have hs22 : ShM b0 (ea_wi (ea_wi (ea_wi h (b0 + 71) (Int32.toNatClampNeg (((4 : Int32) * x1) + x4)) x2) (b0 + 72) (Int32.toNatClampNeg (((4 : Int32) * x1) + x4)) x3) (b0 + 70) (Int32.toNatClampNeg x1) ((ea_i (ea_wi (ea_wi h (b0 + 71) (Int32.toNatClampNeg (((4 : Int32) * x1) + x4)) x2) (b0 + 72) (Int32.toNatClampNeg (((4 : Int32) * x1) + x4)) x3) (b0 + 70) (Int32.toNatClampNeg x1)) + (1 : Int32))) := ShM_wi hs18
        refine ea_iconst (pc := 136) dX12_place_136 (v := 1) rfl ?_
        cases E
        exact ea_ireturn (pc := 137) dX12_place_137 rfl (ea_bn (Or.inr rfl))
    · have E := (if_pos c24).symm.trans E
      refine ea_iconst (pc := 89) dX12_place_89 (v := 0) rfl ?_
      cases E
      exact ea_ireturn (pc := 90) dX12_place_90 rfl (ea_bn (Or.inl rfl))
noncomputable def qX12_place (b0 : Nat) (x1 : Int32) (x2 : Int32) (x3 : Int32) (h : ea_H) : Option (Int32 × ea_H) := gX12_place b0 1000000000 0 x1 x2 x3 0 h
def okX12_place (b0 : Nat) (x1 : Int32) (x2 : Int32) (x3 : Int32) (h : ea_H) : Prop := ∃ x, qX12_place b0 x1 x2 x3 h = some x
noncomputable def vX12_place (b0 : Nat) (x1 : Int32) (x2 : Int32) (x3 : Int32) (h : ea_H) : Int32 := ((qX12_place b0 x1 x2 x3 h).getD (0, h)).1
noncomputable def wX12_place (b0 : Nat) (x1 : Int32) (x2 : Int32) (x3 : Int32) (h : ea_H) : ea_H := ((qX12_place b0 x1 x2 x3 h).getD (0, h)).2
theorem sX12_place {d : Nat} {b0 : Nat} {x1 : Int32} {x2 : Int32} {x3 : Int32} {h : ea_H} (hd : 3 ≤ d) (hs : ShM b0 h) (K : okX12_place b0 x1 x2 x3 h) : ea_Met mX12_place d [vR (some (b0 + 0)), vI x1, vI x2, vI x3] h (some (vI (vX12_place b0 x1 x2 x3 h))) (wX12_place b0 x1 x2 x3 h) := by
  obtain ⟨⟨x, y⟩, K⟩ := K
  unfold wX12_place vX12_place
  rw [K]
  unfold qX12_place at K
  exact ea_enter rfl (Nat.le_of_ble_eq_true rfl) ((tX12_place hd 1000000000 0 x1 x2 x3 0 h x y K hs).1 rfl)
theorem zX12_place {b0 : Nat} : ∀ (f lbl : Nat) (x1 : Int32) (x2 : Int32) (x3 : Int32) (x4 : Int32) (h : ea_H) (r : Int32) (h' : ea_H), gX12_place b0 f lbl x1 x2 x3 x4 h = some (r, h') → ShM b0 h → ShM b0 h' := by
  intro f
  induction f with
  | zero => intro lbl x1 x2 x3 x4 h r h' E; cases E
  | succ f ih =>
    intro lbl x1 x2 x3 x4 h r h' E hs
    unfold gX12_place at E
    by_cases el0 : lbl = 0
    · have E := (if_pos el0).symm.trans E
      by_cases c10 : (vX12_isLetterOf b0 (x1 : Int32) h) = (0 : Int32)
      · have E := (if_pos c10).symm.trans E
        cases E
        exact hs
      have E := (if_neg c10).symm.trans E
      obtain ⟨z2, E⟩ := gd_some E
      by_cases c9 : (ea_i h (b0 + 55) (Int32.toNatClampNeg x1)) = (3 : Int32)
      · have E := (if_pos c9).symm.trans E
        by_cases c8 : (vX12_isTown b0 (x2 : Int32) h) = (0 : Int32)
        · have E := (if_pos c8).symm.trans E
          cases E
          exact hs
        have E := (if_neg c8).symm.trans E
        obtain ⟨z4, E⟩ := gd_some E
        by_cases c7 : x2 = (ea_i h (b0 + 40) (Int32.toNatClampNeg x1))
        · have E := (if_pos c7).symm.trans E
          cases E
          exact hs
        have E := (if_neg c7).symm.trans E
        by_cases c6 : (vX12_isIn (x3 : Int32) (1 : Int32) (99 : Int32) h) = (0 : Int32)
        · have E := (if_pos c6).symm.trans E
          cases E
          exact hs
        have E := (if_neg c6).symm.trans E
        exact ih 51 (x1 : Int32) (x2 : Int32) (x3 : Int32) (0 : Int32) h _ _ E hs
      have E := (if_neg c9).symm.trans E
      cases E
      exact hs
    have E := (if_neg el0).symm.trans E
    by_cases el1 : lbl = 51
    · have E := (if_pos el1).symm.trans E
      obtain ⟨z11, E⟩ := gd_some E
      by_cases c14 : (ea_i h (b0 + 70) (Int32.toNatClampNeg x1)) ≤ x4
      · have E := (if_pos c14).symm.trans E
        exact ih 83 (x1 : Int32) (x2 : Int32) (x3 : Int32) (x4 : Int32) h _ _ E hs
      have E := (if_neg c14).symm.trans E
      obtain ⟨z12, E⟩ := gd_some E
      by_cases c13 : (ea_i h (b0 + 71) (Int32.toNatClampNeg (((4 : Int32) * x1) + x4))) = x2
      · have E := (if_pos c13).symm.trans E
        exact ih 83 (x1 : Int32) (x2 : Int32) (x3 : Int32) (x4 : Int32) h _ _ E hs
      have E := (if_neg c13).symm.trans E
      exact ih 51 (x1 : Int32) (x2 : Int32) (x3 : Int32) ((x4 + (1 : Int32)) : Int32) h _ _ E hs
    have E := (if_neg el1).symm.trans E
    by_cases el2 : lbl = 83
    · have E := (if_pos el2).symm.trans E
      by_cases c24 : x4 = (4 : Int32)
      · have E := (if_pos c24).symm.trans E
        cases E
        exact hs
      have E := (if_neg c24).symm.trans E
      obtain ⟨z15, E⟩ := gd_some E
      obtain ⟨z17, E⟩ := gd_some E
      obtain ⟨z19, E⟩ := gd_some E
      by_cases c23 : x4 = (ea_i (ea_wi (ea_wi h (b0 + 71) (Int32.toNatClampNeg (((4 : Int32) * x1) + x4)) x2) (b0 + 72) (Int32.toNatClampNeg (((4 : Int32) * x1) + x4)) x3) (b0 + 70) (Int32.toNatClampNeg x1))
      · have E := (if_pos c23).symm.trans E
        obtain ⟨z20, E⟩ := gd_some E
        obtain ⟨z21, E⟩ := gd_some E
        cases E
        exact (ShM_wi (ShM_wi (ShM_wi hs)))
      have E := (if_neg c23).symm.trans E
      cases E
      exact (ShM_wi (ShM_wi hs))
    have E := (if_neg el2).symm.trans E
    cases E
theorem shX12_place {b0 : Nat} {x1 : Int32} {x2 : Int32} {x3 : Int32} {h : ea_H} (hs : ShM b0 h) : ShM b0 (wX12_place b0 x1 x2 x3 h) := by
  unfold wX12_place
  cases K : qX12_place b0 x1 x2 x3 h with
  | none => exact hs
  | some x => obtain ⟨x, y⟩ := x; unfold qX12_place at K; exact zX12_place _ _ _ _ _ _ _ _ _ K hs
noncomputable def gX12_ordered (b0 : Nat) : Nat → Nat → Int32 → Int32 → Int32 → Int32 → Int32 → ea_H → Option (Int32 × ea_H)
  | 0, _, _, _, _, _, _, _ => none
  | f + 1, lbl, x1, x2, x3, x4, x5, h =>
    if lbl = 0 then (gX12_ordered b0 f 2 (x1 : Int32) (x2 : Int32) (0 : Int32) 0 0 h) else
    if lbl = 2 then (gd (vp_in x1 120) (if (ea_i h (b0 + 70) (Int32.toNatClampNeg x1)) ≤ x3 then (some (((-1) : Int32), h)) else (gX12_ordered b0 f 18 (x1 : Int32) (x2 : Int32) (x3 : Int32) (0 : Int32) (0 : Int32) h))) else
    if lbl = 18 then (gd (vp_in x1 120) (if (ea_i h (b0 + 70) (Int32.toNatClampNeg x1)) ≤ x5 then (if x4 = x2 then (some ((((4 : Int32) * x1) + x3), h)) else (gX12_ordered b0 f 2 (x1 : Int32) (x2 : Int32) ((x3 + (1 : Int32)) : Int32) 0 0 h)) else (gd (vp_in (((4 : Int32) * x1) + x5) 480) (gd (vp_in (((4 : Int32) * x1) + x3) 480) (if (ea_i h (b0 + 72) (Int32.toNatClampNeg (((4 : Int32) * x1) + x3))) < (ea_i h (b0 + 72) (Int32.toNatClampNeg (((4 : Int32) * x1) + x5))) then (gX12_ordered b0 f 18 (x1 : Int32) (x2 : Int32) (x3 : Int32) ((x4 + (1 : Int32)) : Int32) ((x5 + (1 : Int32)) : Int32) h) else (if (ea_i h (b0 + 72) (Int32.toNatClampNeg (((4 : Int32) * x1) + x5))) = (ea_i h (b0 + 72) (Int32.toNatClampNeg (((4 : Int32) * x1) + x3))) then (gd (vp_in (((4 : Int32) * x1) + x5) 480) (gd (vp_in (((4 : Int32) * x1) + x3) 480) (if (ea_i h (b0 + 71) (Int32.toNatClampNeg (((4 : Int32) * x1) + x3))) ≤ (ea_i h (b0 + 71) (Int32.toNatClampNeg (((4 : Int32) * x1) + x5))) then (gX12_ordered b0 f 18 (x1 : Int32) (x2 : Int32) (x3 : Int32) ((x4 + (0 : Int32)) : Int32) ((x5 + (1 : Int32)) : Int32) h) else (gX12_ordered b0 f 18 (x1 : Int32) (x2 : Int32) (x3 : Int32) ((x4 + (1 : Int32)) : Int32) ((x5 + (1 : Int32)) : Int32) h)))) else (gX12_ordered b0 f 18 (x1 : Int32) (x2 : Int32) (x3 : Int32) ((x4 + (0 : Int32)) : Int32) ((x5 + (1 : Int32)) : Int32) h))))))) else none
theorem tX12_ordered {d : Nat} {b0 : Nat} {h0 : ea_H} (hd : 1 ≤ d) : ∀ (f lbl : Nat) (x1 : Int32) (x2 : Int32) (x3 : Int32) (x4 : Int32) (x5 : Int32) (h : ea_H) (r : Int32) (h' : ea_H), gX12_ordered b0 f lbl x1 x2 x3 x4 x5 h = some (r, h') → ShM b0 h → (lbl = 0 → ea_W mX12_ordered d h0 (some (vI r)) h' 0 [(0, vR (some (b0 + 0))), (1, vI x1), (2, vI x2)] [] h) ∧ (lbl = 2 → ea_W mX12_ordered d h0 (some (vI r)) h' 2 [(0, vR (some (b0 + 0))), (1, vI x1), (2, vI x2), (3, vI x3)] [] h) ∧ (lbl = 18 → ea_W mX12_ordered d h0 (some (vI r)) h' 18 [(0, vR (some (b0 + 0))), (1, vI x1), (2, vI x2), (3, vI x3), (4, vI x4), (5, vI x5)] [] h) := by
  intro f
  induction f with
  | zero => intro lbl x1 x2 x3 x4 x5 h r h' E; cases E
  | succ f ih =>
    intro lbl x1 x2 x3 x4 x5 h r h' E hs
    unfold gX12_ordered at E
    refine ⟨?_, ?_⟩
    · intro el
      subst el
      have E := (if_pos rfl).symm.trans E
      refine ea_iconst (pc := 0) dX12_ordered_0 (v := 0) rfl ?_
      refine ea_istore_n (pc := 1) (lv' := [(0, vR (some (b0 + 0))), (1, vI x1), (2, vI x2), (3, vI 0)]) dX12_ordered_1 rfl (Nat.le_of_ble_eq_true rfl) [1, 2, 3, 0] rfl ?_
      exact ((ih 2 (x1 : Int32) (x2 : Int32) (0 : Int32) 0 0 h _ _ E hs).2.1 rfl)
    refine ⟨?_, ?_⟩
    · intro el
      subst el
      have E := (if_neg (by decide)).symm.trans E
      have E := (if_pos rfl).symm.trans E
      refine ea_iload_n (pc := 2) dX12_ordered_2 rfl 3 rfl ?_
      refine ea_aload_n (pc := 3) dX12_ordered_3 rfl 0 rfl ?_
      refine ea_getR (pc := 4) dX12_ordered_4 ec_12 (k := 97) (Nat.le_of_ble_eq_true rfl) rfl (Or.inl ew_1442) (hs.1 0 (by decide)).1 (hs.1 0 (by decide)).2.1 (hs.2 0 97 rfl) ?_
      refine ea_iload_n (pc := 7) dX12_ordered_7 rfl 1 rfl ?_
      obtain ⟨z1, E⟩ := gd_some E
      refine ea_iald (pc := 8) dX12_ordered_8 (hs.1 70 (by decide)).1 (hs.1 70 (by decide)).2.1 (ea_vpl (hs.1 70 (by decide)).2.2 z1) ?_
      refine ea_icmp_ge (pc := 9) (tgt := 126) dX12_ordered_9 rfl (fun c2 => ?_) (fun c2 => ?_)
      · have E := (if_pos c2).symm.trans E
        refine ea_iconst (pc := 126) dX12_ordered_126 (v := (-1)) rfl ?_
        cases E
        exact ea_ireturn (pc := 127) dX12_ordered_127 rfl rfl
      · have E := (if_neg c2).symm.trans E
        refine ea_iconst (pc := 12) dX12_ordered_12 (v := 0) rfl ?_
        refine ea_istore (pc := 13) (lv' := [(0, vR (some (b0 + 0))), (1, vI x1), (2, vI x2), (3, vI x3), (4, vI 0)]) dX12_ordered_13 (Nat.le_of_ble_eq_true rfl) [1, 2, 3, 4, 0] rfl ?_
        refine ea_iconst (pc := 15) dX12_ordered_15 (v := 0) rfl ?_
        refine ea_istore (pc := 16) (lv' := [(0, vR (some (b0 + 0))), (1, vI x1), (2, vI x2), (3, vI x3), (4, vI 0), (5, vI 0)]) dX12_ordered_16 (Nat.le_of_ble_eq_true rfl) [1, 2, 3, 4, 5, 0] rfl ?_
        exact ((ih 18 (x1 : Int32) (x2 : Int32) (x3 : Int32) (0 : Int32) (0 : Int32) h _ _ E hs).2.2 rfl)
    intro el
    subst el
    have E := (if_neg (by decide)).symm.trans E
    have E := (if_neg (by decide)).symm.trans E
    have E := (if_pos rfl).symm.trans E
    refine ea_iload (pc := 18) dX12_ordered_18 5 rfl ?_
    refine ea_aload_n (pc := 20) dX12_ordered_20 rfl 0 rfl ?_
    refine ea_getR (pc := 21) dX12_ordered_21 ec_12 (k := 97) (Nat.le_of_ble_eq_true rfl) rfl (Or.inl ew_1442) (hs.1 0 (by decide)).1 (hs.1 0 (by decide)).2.1 (hs.2 0 97 rfl) ?_
    refine ea_iload_n (pc := 24) dX12_ordered_24 rfl 1 rfl ?_
    obtain ⟨z3, E⟩ := gd_some E
    refine ea_iald (pc := 25) dX12_ordered_25 (hs.1 70 (by decide)).1 (hs.1 70 (by decide)).2.1 (ea_vpl (hs.1 70 (by decide)).2.2 z3) ?_
    refine ea_icmp_ge (pc := 26) (tgt := 108) dX12_ordered_26 rfl (fun c12 => ?_) (fun c12 => ?_)
    · have E := (if_pos c12).symm.trans E
      refine ea_iload (pc := 108) dX12_ordered_108 4 rfl ?_
      refine ea_iload_n (pc := 110) dX12_ordered_110 rfl 2 rfl ?_
      refine ea_icmp_ne (pc := 111) (tgt := 120) dX12_ordered_111 rfl (fun c4 => ?_) (fun c4 => ?_)
      · have E := (if_neg c4).symm.trans E
        refine ea_iinc (pc := 120) (v := 1) (lv' := [(0, vR (some (b0 + 0))), (1, vI x1), (2, vI x2), (3, vI (x3 + (1 : Int32)))]) dX12_ordered_120 3 rfl rfl (Nat.le_of_ble_eq_true rfl) [1, 2, 3, 0] rfl ?_
        refine ea_goto (pc := 123) (tgt := 2) dX12_ordered_123 rfl ?_
        exact ((ih 2 (x1 : Int32) (x2 : Int32) ((x3 + (1 : Int32)) : Int32) 0 0 h _ _ E hs).2.1 rfl)
      · have E := (if_pos c4).symm.trans E
        refine ea_iconst (pc := 114) dX12_ordered_114 (v := 4) rfl ?_
        refine ea_iload_n (pc := 115) dX12_ordered_115 rfl 1 rfl ?_
        refine ea_imul (pc := 116) dX12_ordered_116 ?_
        refine ea_iload_n (pc := 117) dX12_ordered_117 rfl 3 rfl ?_
        refine ea_iadd (pc := 118) dX12_ordered_118 ?_
        cases E
        exact ea_ireturn (pc := 119) dX12_ordered_119 rfl rfl
    · have E := (if_neg c12).symm.trans E
      refine ea_aload_n (pc := 29) dX12_ordered_29 rfl 0 rfl ?_
      refine ea_getR (pc := 30) dX12_ordered_30 ec_12 (k := 99) (Nat.le_of_ble_eq_true rfl) rfl (Or.inl ew_1444) (hs.1 0 (by decide)).1 (hs.1 0 (by decide)).2.1 (hs.2 0 99 rfl) ?_
      refine ea_iconst (pc := 33) dX12_ordered_33 (v := 4) rfl ?_
      refine ea_iload_n (pc := 34) dX12_ordered_34 rfl 1 rfl ?_
      refine ea_imul (pc := 35) dX12_ordered_35 ?_
      refine ea_iload (pc := 36) dX12_ordered_36 5 rfl ?_
      refine ea_iadd (pc := 38) dX12_ordered_38 ?_
      obtain ⟨z5, E⟩ := gd_some E
      refine ea_iald (pc := 39) dX12_ordered_39 (hs.1 72 (by decide)).1 (hs.1 72 (by decide)).2.1 (ea_vpl (hs.1 72 (by decide)).2.2 z5) ?_
      refine ea_istore (pc := 40) (lv' := [(0, vR (some (b0 + 0))), (1, vI x1), (2, vI x2), (3, vI x3), (4, vI x4), (5, vI x5), (6, vI (ea_i h (b0 + 72) (Int32.toNatClampNeg (((4 : Int32) * x1) + x5))))]) dX12_ordered_40 (Nat.le_of_ble_eq_true rfl) [1, 2, 3, 4, 5, 6, 0] rfl ?_
      refine ea_aload_n (pc := 42) dX12_ordered_42 rfl 0 rfl ?_
      refine ea_getR (pc := 43) dX12_ordered_43 ec_12 (k := 99) (Nat.le_of_ble_eq_true rfl) rfl (Or.inl ew_1444) (hs.1 0 (by decide)).1 (hs.1 0 (by decide)).2.1 (hs.2 0 99 rfl) ?_
      refine ea_iconst (pc := 46) dX12_ordered_46 (v := 4) rfl ?_
      refine ea_iload_n (pc := 47) dX12_ordered_47 rfl 1 rfl ?_
      refine ea_imul (pc := 48) dX12_ordered_48 ?_
      refine ea_iload_n (pc := 49) dX12_ordered_49 rfl 3 rfl ?_
      refine ea_iadd (pc := 50) dX12_ordered_50 ?_
      obtain ⟨z6, E⟩ := gd_some E
      refine ea_iald (pc := 51) dX12_ordered_51 (hs.1 72 (by decide)).1 (hs.1 72 (by decide)).2.1 (ea_vpl (hs.1 72 (by decide)).2.2 z6) ?_
      refine ea_istore (pc := 52) (lv' := [(0, vR (some (b0 + 0))), (1, vI x1), (2, vI x2), (3, vI x3), (4, vI x4), (5, vI x5), (6, vI (ea_i h (b0 + 72) (Int32.toNatClampNeg (((4 : Int32) * x1) + x5)))), (7, vI (ea_i h (b0 + 72) (Int32.toNatClampNeg (((4 : Int32) * x1) + x3))))]) dX12_ordered_52 (Nat.le_of_ble_eq_true rfl) [1, 2, 3, 4, 5, 6, 7, 0] rfl ?_
      refine ea_iload (pc := 54) dX12_ordered_54 4 rfl ?_
      refine ea_iload (pc := 56) dX12_ordered_56 6 rfl ?_
      refine ea_iload (pc := 58) dX12_ordered_58 7 rfl ?_
      refine ea_icmp_gt (pc := 60) (tgt := 94) dX12_ordered_60 rfl (fun c11 => ?_) (fun c11 => ?_)
      · have E := (if_pos c11).symm.trans E
        refine ea_iconst (pc := 94) dX12_ordered_94 (v := 1) rfl ?_
        refine ea_goto (pc := 95) (tgt := 99) dX12_ordered_95 rfl ?_
        refine ea_iadd (pc := 99) dX12_ordered_99 ?_
        refine ea_istore (pc := 100) (lv' := [(0, vR (some (b0 + 0))), (1, vI x1), (2, vI x2), (3, vI x3), (4, vI (x4 + (1 : Int32))), (5, vI x5)]) dX12_ordered_100 (Nat.le_of_ble_eq_true rfl) [1, 2, 3, 4, 0, 5] rfl ?_
        refine ea_iinc (pc := 102) (v := 1) (lv' := [(0, vR (some (b0 + 0))), (1, vI x1), (2, vI x2), (3, vI x3), (4, vI (x4 + (1 : Int32))), (5, vI (x5 + (1 : Int32)))]) dX12_ordered_102 5 rfl rfl (Nat.le_of_ble_eq_true rfl) [1, 2, 3, 4, 5, 0] rfl ?_
        refine ea_goto (pc := 105) (tgt := 18) dX12_ordered_105 rfl ?_
        exact ((ih 18 (x1 : Int32) (x2 : Int32) (x3 : Int32) ((x4 + (1 : Int32)) : Int32) ((x5 + (1 : Int32)) : Int32) h _ _ E hs).2.2 rfl)
      · have E := (if_neg c11).symm.trans E
        refine ea_iload (pc := 63) dX12_ordered_63 6 rfl ?_
        refine ea_iload (pc := 65) dX12_ordered_65 7 rfl ?_
        refine ea_icmp_ne (pc := 67) (tgt := 98) dX12_ordered_67 rfl (fun c10 => ?_) (fun c10 => ?_)
        · have E := (if_neg c10).symm.trans E
          refine ea_iconst (pc := 98) dX12_ordered_98 (v := 0) rfl ?_
          refine ea_iadd (pc := 99) dX12_ordered_99 ?_
          refine ea_istore (pc := 100) (lv' := [(0, vR (some (b0 + 0))), (1, vI x1), (2, vI x2), (3, vI x3), (4, vI (x4 + (0 : Int32))), (5, vI x5)]) dX12_ordered_100 (Nat.le_of_ble_eq_true rfl) [1, 2, 3, 4, 0, 5] rfl ?_
          refine ea_iinc (pc := 102) (v := 1) (lv' := [(0, vR (some (b0 + 0))), (1, vI x1), (2, vI x2), (3, vI x3), (4, vI (x4 + (0 : Int32))), (5, vI (x5 + (1 : Int32)))]) dX12_ordered_102 5 rfl rfl (Nat.le_of_ble_eq_true rfl) [1, 2, 3, 4, 5, 0] rfl ?_
          refine ea_goto (pc := 105) (tgt := 18) dX12_ordered_105 rfl ?_
          exact ((ih 18 (x1 : Int32) (x2 : Int32) (x3 : Int32) ((x4 + (0 : Int32)) : Int32) ((x5 + (1 : Int32)) : Int32) h _ _ E hs).2.2 rfl)
        · have E := (if_pos c10).symm.trans E
          refine ea_aload_n (pc := 70) dX12_ordered_70 rfl 0 rfl ?_
          refine ea_getR (pc := 71) dX12_ordered_71 ec_12 (k := 98) (Nat.le_of_ble_eq_true rfl) rfl (Or.inl ew_1443) (hs.1 0 (by decide)).1 (hs.1 0 (by decide)).2.1 (hs.2 0 98 rfl) ?_
          refine ea_iconst (pc := 74) dX12_ordered_74 (v := 4) rfl ?_
          refine ea_iload_n (pc := 75) dX12_ordered_75 rfl 1 rfl ?_
          refine ea_imul (pc := 76) dX12_ordered_76 ?_
          refine ea_iload (pc := 77) dX12_ordered_77 5 rfl ?_
          refine ea_iadd (pc := 79) dX12_ordered_79 ?_
          obtain ⟨z7, E⟩ := gd_some E
          refine ea_iald (pc := 80) dX12_ordered_80 (hs.1 71 (by decide)).1 (hs.1 71 (by decide)).2.1 (ea_vpl (hs.1 71 (by decide)).2.2 z7) ?_
          refine ea_aload_n (pc := 81) dX12_ordered_81 rfl 0 rfl ?_
          refine ea_getR (pc := 82) dX12_ordered_82 ec_12 (k := 98) (Nat.le_of_ble_eq_true rfl) rfl (Or.inl ew_1443) (hs.1 0 (by decide)).1 (hs.1 0 (by decide)).2.1 (hs.2 0 98 rfl) ?_
          refine ea_iconst (pc := 85) dX12_ordered_85 (v := 4) rfl ?_
          refine ea_iload_n (pc := 86) dX12_ordered_86 rfl 1 rfl ?_
          refine ea_imul (pc := 87) dX12_ordered_87 ?_
          refine ea_iload_n (pc := 88) dX12_ordered_88 rfl 3 rfl ?_
          refine ea_iadd (pc := 89) dX12_ordered_89 ?_
          obtain ⟨z8, E⟩ := gd_some E
          refine ea_iald (pc := 90) dX12_ordered_90 (hs.1 71 (by decide)).1 (hs.1 71 (by decide)).2.1 (ea_vpl (hs.1 71 (by decide)).2.2 z8) ?_
          refine ea_icmp_ge (pc := 91) (tgt := 98) dX12_ordered_91 rfl (fun c9 => ?_) (fun c9 => ?_)
          · have E := (if_pos c9).symm.trans E
            refine ea_iconst (pc := 98) dX12_ordered_98 (v := 0) rfl ?_
            refine ea_iadd (pc := 99) dX12_ordered_99 ?_
            refine ea_istore (pc := 100) (lv' := [(0, vR (some (b0 + 0))), (1, vI x1), (2, vI x2), (3, vI x3), (4, vI (x4 + (0 : Int32))), (5, vI x5)]) dX12_ordered_100 (Nat.le_of_ble_eq_true rfl) [1, 2, 3, 4, 0, 5] rfl ?_
            refine ea_iinc (pc := 102) (v := 1) (lv' := [(0, vR (some (b0 + 0))), (1, vI x1), (2, vI x2), (3, vI x3), (4, vI (x4 + (0 : Int32))), (5, vI (x5 + (1 : Int32)))]) dX12_ordered_102 5 rfl rfl (Nat.le_of_ble_eq_true rfl) [1, 2, 3, 4, 5, 0] rfl ?_
            refine ea_goto (pc := 105) (tgt := 18) dX12_ordered_105 rfl ?_
            exact ((ih 18 (x1 : Int32) (x2 : Int32) (x3 : Int32) ((x4 + (0 : Int32)) : Int32) ((x5 + (1 : Int32)) : Int32) h _ _ E hs).2.2 rfl)
          · have E := (if_neg c9).symm.trans E
            refine ea_iconst (pc := 94) dX12_ordered_94 (v := 1) rfl ?_
            refine ea_goto (pc := 95) (tgt := 99) dX12_ordered_95 rfl ?_
            refine ea_iadd (pc := 99) dX12_ordered_99 ?_
            refine ea_istore (pc := 100) (lv' := [(0, vR (some (b0 + 0))), (1, vI x1), (2, vI x2), (3, vI x3), (4, vI (x4 + (1 : Int32))), (5, vI x5)]) dX12_ordered_100 (Nat.le_of_ble_eq_true rfl) [1, 2, 3, 4, 0, 5] rfl ?_
            refine ea_iinc (pc := 102) (v := 1) (lv' := [(0, vR (some (b0 + 0))), (1, vI x1), (2, vI x2), (3, vI x3), (4, vI (x4 + (1 : Int32))), (5, vI (x5 + (1 : Int32)))]) dX12_ordered_102 5 rfl rfl (Nat.le_of_ble_eq_true rfl) [1, 2, 3, 4, 5, 0] rfl ?_
            refine ea_goto (pc := 105) (tgt := 18) dX12_ordered_105 rfl ?_
            exact ((ih 18 (x1 : Int32) (x2 : Int32) (x3 : Int32) ((x4 + (1 : Int32)) : Int32) ((x5 + (1 : Int32)) : Int32) h _ _ E hs).2.2 rfl)
noncomputable def qX12_ordered (b0 : Nat) (x1 : Int32) (x2 : Int32) (h : ea_H) : Option (Int32 × ea_H) := gX12_ordered b0 1000000000 0 x1 x2 0 0 0 h
def okX12_ordered (b0 : Nat) (x1 : Int32) (x2 : Int32) (h : ea_H) : Prop := ∃ x, qX12_ordered b0 x1 x2 h = some x
noncomputable def vX12_ordered (b0 : Nat) (x1 : Int32) (x2 : Int32) (h : ea_H) : Int32 := ((qX12_ordered b0 x1 x2 h).getD (0, h)).1
noncomputable def wX12_ordered (b0 : Nat) (x1 : Int32) (x2 : Int32) (h : ea_H) : ea_H := ((qX12_ordered b0 x1 x2 h).getD (0, h)).2
theorem sX12_ordered {d : Nat} {b0 : Nat} {x1 : Int32} {x2 : Int32} {h : ea_H} (hd : 1 ≤ d) (hs : ShM b0 h) (K : okX12_ordered b0 x1 x2 h) : ea_Met mX12_ordered d [vR (some (b0 + 0)), vI x1, vI x2] h (some (vI (vX12_ordered b0 x1 x2 h))) (wX12_ordered b0 x1 x2 h) := by
  obtain ⟨⟨x, y⟩, K⟩ := K
  unfold wX12_ordered vX12_ordered
  rw [K]
  unfold qX12_ordered at K
  exact ea_enter rfl (Nat.le_of_ble_eq_true rfl) ((tX12_ordered hd 1000000000 0 x1 x2 0 0 0 h x y K hs).1 rfl)
theorem zX12_ordered {b0 : Nat} : ∀ (f lbl : Nat) (x1 : Int32) (x2 : Int32) (x3 : Int32) (x4 : Int32) (x5 : Int32) (h : ea_H) (r : Int32) (h' : ea_H), gX12_ordered b0 f lbl x1 x2 x3 x4 x5 h = some (r, h') → ShM b0 h → ShM b0 h' := by
  intro f
  induction f with
  | zero => intro lbl x1 x2 x3 x4 x5 h r h' E; cases E
  | succ f ih =>
    intro lbl x1 x2 x3 x4 x5 h r h' E hs
    unfold gX12_ordered at E
    by_cases el0 : lbl = 0
    · have E := (if_pos el0).symm.trans E
      exact ih 2 (x1 : Int32) (x2 : Int32) (0 : Int32) 0 0 h _ _ E hs
    have E := (if_neg el0).symm.trans E
    by_cases el1 : lbl = 2
    · have E := (if_pos el1).symm.trans E
      obtain ⟨z1, E⟩ := gd_some E
      by_cases c2 : (ea_i h (b0 + 70) (Int32.toNatClampNeg x1)) ≤ x3
      · have E := (if_pos c2).symm.trans E
        cases E
        exact hs
      have E := (if_neg c2).symm.trans E
      exact ih 18 (x1 : Int32) (x2 : Int32) (x3 : Int32) (0 : Int32) (0 : Int32) h _ _ E hs
    have E := (if_neg el1).symm.trans E
    by_cases el2 : lbl = 18
    · have E := (if_pos el2).symm.trans E
      obtain ⟨z3, E⟩ := gd_some E
      by_cases c12 : (ea_i h (b0 + 70) (Int32.toNatClampNeg x1)) ≤ x5
      · have E := (if_pos c12).symm.trans E
        by_cases c4 : x4 = x2
        · have E := (if_pos c4).symm.trans E
          cases E
          exact hs
        have E := (if_neg c4).symm.trans E
        exact ih 2 (x1 : Int32) (x2 : Int32) ((x3 + (1 : Int32)) : Int32) 0 0 h _ _ E hs
      have E := (if_neg c12).symm.trans E
      obtain ⟨z5, E⟩ := gd_some E
      obtain ⟨z6, E⟩ := gd_some E
      by_cases c11 : (ea_i h (b0 + 72) (Int32.toNatClampNeg (((4 : Int32) * x1) + x3))) < (ea_i h (b0 + 72) (Int32.toNatClampNeg (((4 : Int32) * x1) + x5)))
      · have E := (if_pos c11).symm.trans E
        exact ih 18 (x1 : Int32) (x2 : Int32) (x3 : Int32) ((x4 + (1 : Int32)) : Int32) ((x5 + (1 : Int32)) : Int32) h _ _ E hs
      have E := (if_neg c11).symm.trans E
      by_cases c10 : (ea_i h (b0 + 72) (Int32.toNatClampNeg (((4 : Int32) * x1) + x5))) = (ea_i h (b0 + 72) (Int32.toNatClampNeg (((4 : Int32) * x1) + x3)))
      · have E := (if_pos c10).symm.trans E
        obtain ⟨z7, E⟩ := gd_some E
        obtain ⟨z8, E⟩ := gd_some E
        by_cases c9 : (ea_i h (b0 + 71) (Int32.toNatClampNeg (((4 : Int32) * x1) + x3))) ≤ (ea_i h (b0 + 71) (Int32.toNatClampNeg (((4 : Int32) * x1) + x5)))
        · have E := (if_pos c9).symm.trans E
          exact ih 18 (x1 : Int32) (x2 : Int32) (x3 : Int32) ((x4 + (0 : Int32)) : Int32) ((x5 + (1 : Int32)) : Int32) h _ _ E hs
        have E := (if_neg c9).symm.trans E
        exact ih 18 (x1 : Int32) (x2 : Int32) (x3 : Int32) ((x4 + (1 : Int32)) : Int32) ((x5 + (1 : Int32)) : Int32) h _ _ E hs
      have E := (if_neg c10).symm.trans E
      exact ih 18 (x1 : Int32) (x2 : Int32) (x3 : Int32) ((x4 + (0 : Int32)) : Int32) ((x5 + (1 : Int32)) : Int32) h _ _ E hs
    have E := (if_neg el2).symm.trans E
    cases E
theorem shX12_ordered {b0 : Nat} {x1 : Int32} {x2 : Int32} {h : ea_H} (hs : ShM b0 h) : ShM b0 (wX12_ordered b0 x1 x2 h) := by
  unfold wX12_ordered
  cases K : qX12_ordered b0 x1 x2 h with
  | none => exact hs
  | some x => obtain ⟨x, y⟩ := x; unfold qX12_ordered at K; exact zX12_ordered _ _ _ _ _ _ _ _ _ _ K hs
noncomputable def gX12_common (b0 : Nat) : Nat → Nat → Int64 → Int64 → Int64 → Int64 → ea_H → Option (Int64 × ea_H)
  | 0, _, _, _, _, _, _ => none
  | f + 1, lbl, y0, y2, y4, y6, h =>
    if lbl = 0 then (gX12_common b0 f 6 0 0 (y0 : Int64) (y2 : Int64) h) else
    if lbl = 6 then (if (lg_cmp y6 (0 : Int64)) = (0 : Int32) then (some (y4, h)) else (gd ((¬ y6 = 0)) (gX12_common b0 f 6 0 0 (y6 : Int64) ((y4 - y4 / y6 * y6) : Int64) h))) else none
theorem tX12_common {d : Nat} {b0 : Nat} {h0 : ea_H} (hd : 1 ≤ d) : ∀ (f lbl : Nat) (y0 : Int64) (y2 : Int64) (y4 : Int64) (y6 : Int64) (h : ea_H) (r : Int64) (h' : ea_H), gX12_common b0 f lbl y0 y2 y4 y6 h = some (r, h') → ShM b0 h → (lbl = 0 → ea_W mX12_common d h0 (some (vJ r)) h' 0 [(0, vJ y0), (2, vJ y2)] [] h) ∧ (lbl = 6 → ea_W mX12_common d h0 (some (vJ r)) h' 6 [(4, vJ y4), (6, vJ y6)] [] h) := by
  intro f
  induction f with
  | zero => intro lbl y0 y2 y4 y6 h r h' E; cases E
  | succ f ih =>
    intro lbl y0 y2 y4 y6 h r h' E hs
    unfold gX12_common at E
    refine ⟨?_, ?_⟩
    · intro el
      subst el
      have E := (if_pos rfl).symm.trans E
      refine ea_lload_n (pc := 0) dX12_common_0 rfl 0 rfl ?_
      refine ea_lstore (pc := 1) (lv' := [(2, vJ y2), (4, vJ y0)]) dX12_common_1 (Nat.le_of_ble_eq_true rfl) [2, 0] rfl ?_
      refine ea_lload_n (pc := 3) dX12_common_3 rfl 0 rfl ?_
      refine ea_lstore (pc := 4) (lv' := [(4, vJ y0), (6, vJ y2)]) dX12_common_4 (Nat.le_of_ble_eq_true rfl) [2, 0] rfl ?_
      exact ((ih 6 0 0 (y0 : Int64) (y2 : Int64) h _ _ E hs).2 rfl)
    intro el
    subst el
    have E := (if_neg (by decide)).symm.trans E
    have E := (if_pos rfl).symm.trans E
    refine ea_lload (pc := 6) dX12_common_6 1 rfl ?_
    refine ea_lconst (pc := 8) dX12_common_8 (v := 0) rfl ?_
    refine ea_lcmp (pc := 9) dX12_common_9 ?_
    refine ea_if_eq (pc := 10) (tgt := 31) dX12_common_10 rfl (fun c2 => ?_) (fun c2 => ?_)
    · have E := (if_pos c2).symm.trans E
      refine ea_lload (pc := 31) dX12_common_31 0 rfl ?_
      cases E
      exact ea_lreturn (pc := 33) dX12_common_33 rfl
    · have E := (if_neg c2).symm.trans E
      refine ea_lload (pc := 13) dX12_common_13 0 rfl ?_
      refine ea_lload (pc := 15) dX12_common_15 1 rfl ?_
      obtain ⟨z1, E⟩ := gd_some E
      refine ea_lrem (pc := 17) dX12_common_17 z1 ?_
      refine ea_lstore (pc := 18) (lv' := [(6, vJ y6), (8, vJ (y4 - y4 / y6 * y6))]) dX12_common_18 (Nat.le_of_ble_eq_true rfl) [2, 0] rfl ?_
      refine ea_lload (pc := 20) dX12_common_20 0 rfl ?_
      refine ea_lstore (pc := 22) (lv' := [(4, vJ y6), (8, vJ (y4 - y4 / y6 * y6))]) dX12_common_22 (Nat.le_of_ble_eq_true rfl) [0, 2] rfl ?_
      refine ea_lload (pc := 24) dX12_common_24 1 rfl ?_
      refine ea_lstore (pc := 26) (lv' := [(4, vJ y6), (6, vJ (y4 - y4 / y6 * y6))]) dX12_common_26 (Nat.le_of_ble_eq_true rfl) [1, 0] rfl ?_
      refine ea_goto (pc := 28) (tgt := 6) dX12_common_28 rfl ?_
      exact ((ih 6 0 0 (y6 : Int64) ((y4 - y4 / y6 * y6) : Int64) h _ _ E hs).2 rfl)
noncomputable def qX12_common (b0 : Nat) (y0 : Int64) (y2 : Int64) (h : ea_H) : Option (Int64 × ea_H) := gX12_common b0 1000000000 0 y0 y2 0 0 h
def okX12_common (b0 : Nat) (y0 : Int64) (y2 : Int64) (h : ea_H) : Prop := ∃ x, qX12_common b0 y0 y2 h = some x
noncomputable def vX12_common (b0 : Nat) (y0 : Int64) (y2 : Int64) (h : ea_H) : Int64 := ((qX12_common b0 y0 y2 h).getD (0, h)).1
noncomputable def wX12_common (b0 : Nat) (y0 : Int64) (y2 : Int64) (h : ea_H) : ea_H := ((qX12_common b0 y0 y2 h).getD (0, h)).2
theorem sX12_common {d : Nat} {b0 : Nat} {y0 : Int64} {y2 : Int64} {h : ea_H} (hd : 1 ≤ d) (hs : ShM b0 h) (K : okX12_common b0 y0 y2 h) : ea_Met mX12_common d [vJ y0, vJ y2] h (some (vJ (vX12_common b0 y0 y2 h))) (wX12_common b0 y0 y2 h) := by
  obtain ⟨⟨x, y⟩, K⟩ := K
  unfold wX12_common vX12_common
  rw [K]
  unfold qX12_common at K
  exact ea_enter rfl (Nat.le_of_ble_eq_true rfl) ((tX12_common hd 1000000000 0 y0 y2 0 0 h x y K hs).1 rfl)
theorem zX12_common {b0 : Nat} : ∀ (f lbl : Nat) (y0 : Int64) (y2 : Int64) (y4 : Int64) (y6 : Int64) (h : ea_H) (r : Int64) (h' : ea_H), gX12_common b0 f lbl y0 y2 y4 y6 h = some (r, h') → ShM b0 h → ShM b0 h' := by
  intro f
  induction f with
  | zero => intro lbl y0 y2 y4 y6 h r h' E; cases E
  | succ f ih =>
    intro lbl y0 y2 y4 y6 h r h' E hs
    unfold gX12_common at E
    by_cases el0 : lbl = 0
    · have E := (if_pos el0).symm.trans E
      exact ih 6 0 0 (y0 : Int64) (y2 : Int64) h _ _ E hs
    have E := (if_neg el0).symm.trans E
    by_cases el1 : lbl = 6
    · have E := (if_pos el1).symm.trans E
      by_cases c2 : (lg_cmp y6 (0 : Int64)) = (0 : Int32)
      · have E := (if_pos c2).symm.trans E
        cases E
        exact hs
      have E := (if_neg c2).symm.trans E
      obtain ⟨z1, E⟩ := gd_some E
      exact ih 6 0 0 (y6 : Int64) ((y4 - y4 / y6 * y6) : Int64) h _ _ E hs
    have E := (if_neg el1).symm.trans E
    cases E
theorem shX12_common {b0 : Nat} {y0 : Int64} {y2 : Int64} {h : ea_H} (hs : ShM b0 h) : ShM b0 (wX12_common b0 y0 y2 h) := by
  unfold wX12_common
  cases K : qX12_common b0 y0 y2 h with
  | none => exact hs
  | some x => obtain ⟨x, y⟩ := x; unfold qX12_common at K; exact zX12_common _ _ _ _ _ _ _ _ _ K hs
noncomputable def gX12_order (b0 : Nat) : Nat → Nat → Int32 → Int32 → Int32 → Int64 → Int64 → ea_H → Option (Int64 × ea_H)
  | 0, _, _, _, _, _, _, _ => none
  | f + 1, lbl, x1, x2, x7, y3, y5, h =>
    if lbl = 0 then (if (vX12_isLetterOf b0 (x1 : Int32) h) = (0 : Int32) then (some (((-1) : Int64), h)) else (if x2 = (0 : Int32) then (gd (vp_in x1 120) (some ((Int32.toInt64 (ea_i h (b0 + 70) (Int32.toNatClampNeg x1))), h))) else (if x2 = (1 : Int32) then (gX12_order b0 f 34 (x1 : Int32) (x2 : Int32) 0 0 0 h) else (if x2 = (2 : Int32) then (gX12_order b0 f 34 (x1 : Int32) (x2 : Int32) 0 0 0 h) else (gd (vp_in x1 120) (if (vX12_isIn (x2 : Int32) (10 : Int32) (((9 : Int32) + (ea_i h (b0 + 70) (Int32.toNatClampNeg x1))) : Int32) h) = (0 : Int32) then (gd (vp_in x1 120) (if (vX12_isIn (x2 : Int32) (20 : Int32) (((19 : Int32) + (ea_i h (b0 + 70) (Int32.toNatClampNeg x1))) : Int32) h) = (0 : Int32) then (some (((-1) : Int64), h)) else (gd ((okX12_ordered b0 (x1 : Int32) ((x2 - (20 : Int32)) : Int32) h)) (gd (vp_in (vX12_ordered b0 (x1 : Int32) ((x2 - (20 : Int32)) : Int32) h) 480) (some ((Int32.toInt64 (ea_i (wX12_ordered b0 (x1 : Int32) ((x2 - (20 : Int32)) : Int32) h) (b0 + 72) (Int32.toNatClampNeg (vX12_ordered b0 (x1 : Int32) ((x2 - (20 : Int32)) : Int32) h)))), (wX12_ordered b0 (x1 : Int32) ((x2 - (20 : Int32)) : Int32) h))))))) else (gd ((okX12_ordered b0 (x1 : Int32) ((x2 - (10 : Int32)) : Int32) h)) (gd (vp_in (vX12_ordered b0 (x1 : Int32) ((x2 - (10 : Int32)) : Int32) h) 480) (some ((Int32.toInt64 (ea_i (wX12_ordered b0 (x1 : Int32) ((x2 - (10 : Int32)) : Int32) h) (b0 + 71) (Int32.toNatClampNeg (vX12_ordered b0 (x1 : Int32) ((x2 - (10 : Int32)) : Int32) h)))), (wX12_ordered b0 (x1 : Int32) ((x2 - (10 : Int32)) : Int32) h))))))))))) else
    if lbl = 34 then (gd (vp_in x1 120) (if (ea_i h (b0 + 70) (Int32.toNatClampNeg x1)) = (0 : Int32) then (some (((-1) : Int64), h)) else (gX12_order b0 f 55 (x1 : Int32) (x2 : Int32) (0 : Int32) (1 : Int64) (1 : Int64) h))) else
    if lbl = 55 then (gd (vp_in x1 120) (if (ea_i h (b0 + 70) (Int32.toNatClampNeg x1)) ≤ x7 then (gd ((okX12_common b0 ((y3 - y5) : Int64) (y3 : Int64) h)) (if x2 = (1 : Int32) then (gd ((¬ (vX12_common b0 ((y3 - y5) : Int64) (y3 : Int64) h) = 0)) (some (((y3 - y5) / (vX12_common b0 ((y3 - y5) : Int64) (y3 : Int64) h)), (wX12_common b0 ((y3 - y5) : Int64) (y3 : Int64) h)))) else (gd ((¬ (vX12_common b0 ((y3 - y5) : Int64) (y3 : Int64) h) = 0)) (some ((y3 / (vX12_common b0 ((y3 - y5) : Int64) (y3 : Int64) h)), (wX12_common b0 ((y3 - y5) : Int64) (y3 : Int64) h)))))) else (gd (vp_in (((4 : Int32) * x1) + x7) 480) (gX12_order b0 f 55 (x1 : Int32) (x2 : Int32) ((x7 + (1 : Int32)) : Int32) ((y3 * (100 : Int64)) : Int64) ((y5 * (Int32.toInt64 ((100 : Int32) - (ea_i h (b0 + 72) (Int32.toNatClampNeg (((4 : Int32) * x1) + x7)))))) : Int64) h)))) else none
theorem tX12_order {d : Nat} {b0 : Nat} {h0 : ea_H} (hd : 3 ≤ d) : ∀ (f lbl : Nat) (x1 : Int32) (x2 : Int32) (x7 : Int32) (y3 : Int64) (y5 : Int64) (h : ea_H) (r : Int64) (h' : ea_H), gX12_order b0 f lbl x1 x2 x7 y3 y5 h = some (r, h') → ShM b0 h → (lbl = 0 → ea_W mX12_order d h0 (some (vJ r)) h' 0 [(0, vR (some (b0 + 0))), (1, vI x1), (2, vI x2)] [] h) ∧ (lbl = 34 → ea_W mX12_order d h0 (some (vJ r)) h' 34 [(0, vR (some (b0 + 0))), (1, vI x1), (2, vI x2)] [] h) ∧ (lbl = 55 → ea_W mX12_order d h0 (some (vJ r)) h' 55 [(0, vR (some (b0 + 0))), (1, vI x1), (2, vI x2), (3, vJ y3), (5, vJ y5), (7, vI x7)] [] h) := by
  intro f
  induction f with
  | zero => intro lbl x1 x2 x7 y3 y5 h r h' E; cases E
  | succ f ih =>
    intro lbl x1 x2 x7 y3 y5 h r h' E hs
    unfold gX12_order at E
    refine ⟨?_, ?_⟩
    · intro el
      subst el
      have E := (if_pos rfl).symm.trans E
      refine ea_aload_n (pc := 0) dX12_order_0 rfl 0 rfl ?_
      refine ea_iload_n (pc := 1) dX12_order_1 rfl 1 rfl ?_
      refine ea_callV (pc := 2) (d' := d - 1) (As := [vI x1]) (st := []) dX12_order_2 kX12_isLetterOf (sX12_isLetterOf (d := d - 1) (by omega) hs) (by omega) rfl (Nat.le_of_ble_eq_true rfl) ew_2019 ew_2021 ew_89 (ci := 12) rfl (by decide) (hs.1 0 (by decide)).1 (hs.1 0 (by decide)).2.1 ?_
      refine ea_if_ne (pc := 5) (tgt := 12) dX12_order_5 rfl (fun c18 => ?_) (fun c18 => ?_)
      · have E := (if_neg c18).symm.trans E
        refine ea_iload_n (pc := 12) dX12_order_12 rfl 2 rfl ?_
        refine ea_if_ne (pc := 13) (tgt := 24) dX12_order_13 rfl (fun c17 => ?_) (fun c17 => ?_)
        · have E := (if_neg c17).symm.trans E
          refine ea_iload_n (pc := 24) dX12_order_24 rfl 2 rfl ?_
          refine ea_iconst (pc := 25) dX12_order_25 (v := 1) rfl ?_
          refine ea_icmp_eq (pc := 26) (tgt := 34) dX12_order_26 rfl (fun c15 => ?_) (fun c15 => ?_)
          · have E := (if_pos c15).symm.trans E
            exact ((ih 34 (x1 : Int32) (x2 : Int32) 0 0 0 h _ _ E hs).2.1 rfl)
          · have E := (if_neg c15).symm.trans E
            refine ea_iload_n (pc := 29) dX12_order_29 rfl 2 rfl ?_
            refine ea_iconst (pc := 30) dX12_order_30 (v := 2) rfl ?_
            refine ea_icmp_ne (pc := 31) (tgt := 128) dX12_order_31 rfl (fun c14 => ?_) (fun c14 => ?_)
            · have E := (if_neg c14).symm.trans E
              refine ea_iload_n (pc := 128) dX12_order_128 rfl 2 rfl ?_
              refine ea_bipush (pc := 129) dX12_order_129 (v := 10) rfl ?_
              refine ea_bipush (pc := 131) dX12_order_131 (v := 9) rfl ?_
              refine ea_aload_n (pc := 133) dX12_order_133 rfl 0 rfl ?_
              refine ea_getR (pc := 134) dX12_order_134 ec_12 (k := 97) (Nat.le_of_ble_eq_true rfl) rfl (Or.inl ew_1442) (hs.1 0 (by decide)).1 (hs.1 0 (by decide)).2.1 (hs.2 0 97 rfl) ?_
              refine ea_iload_n (pc := 137) dX12_order_137 rfl 1 rfl ?_
              obtain ⟨z2, E⟩ := gd_some E
              refine ea_iald (pc := 138) dX12_order_138 (hs.1 70 (by decide)).1 (hs.1 70 (by decide)).2.1 (ea_vpl (hs.1 70 (by decide)).2.2 z2) ?_
              refine ea_iadd (pc := 139) dX12_order_139 ?_
              refine ea_callS (pc := 140) (d' := d - 1) (As := [vI x2, vI 10, vI ((9 : Int32) + (ea_i h (b0 + 70) (Int32.toNatClampNeg x1)))]) (st := []) dX12_order_140 kX12_isIn (sX12_isIn (d := d - 1) (by omega)) (by omega) rfl (Nat.le_of_ble_eq_true rfl) ew_1712 ew_1713 ?_
              refine ea_if_eq (pc := 143) (tgt := 162) dX12_order_143 rfl (fun c13 => ?_) (fun c13 => ?_)
              · have E := (if_pos c13).symm.trans E
                refine ea_iload_n (pc := 162) dX12_order_162 rfl 2 rfl ?_
                refine ea_bipush (pc := 163) dX12_order_163 (v := 20) rfl ?_
                refine ea_bipush (pc := 165) dX12_order_165 (v := 19) rfl ?_
                refine ea_aload_n (pc := 167) dX12_order_167 rfl 0 rfl ?_
                refine ea_getR (pc := 168) dX12_order_168 ec_12 (k := 97) (Nat.le_of_ble_eq_true rfl) rfl (Or.inl ew_1442) (hs.1 0 (by decide)).1 (hs.1 0 (by decide)).2.1 (hs.2 0 97 rfl) ?_
                refine ea_iload_n (pc := 171) dX12_order_171 rfl 1 rfl ?_
                obtain ⟨z4, E⟩ := gd_some E
                refine ea_iald (pc := 172) dX12_order_172 (hs.1 70 (by decide)).1 (hs.1 70 (by decide)).2.1 (ea_vpl (hs.1 70 (by decide)).2.2 z4) ?_
                refine ea_iadd (pc := 173) dX12_order_173 ?_
                refine ea_callS (pc := 174) (d' := d - 1) (As := [vI x2, vI 20, vI ((19 : Int32) + (ea_i h (b0 + 70) (Int32.toNatClampNeg x1)))]) (st := []) dX12_order_174 kX12_isIn (sX12_isIn (d := d - 1) (by omega)) (by omega) rfl (Nat.le_of_ble_eq_true rfl) ew_1712 ew_1713 ?_
                refine ea_if_eq (pc := 177) (tgt := 198) dX12_order_177 rfl (fun c9 => ?_) (fun c9 => ?_)
                · have E := (if_pos c9).symm.trans E
                  refine ea_ldc2 (pc := 198) dX12_order_198 ew_2118 ?_
                  cases E
                  exact ea_lreturn (pc := 201) dX12_order_201 rfl
                · have E := (if_neg c9).symm.trans E
                  refine ea_aload_n (pc := 180) dX12_order_180 rfl 0 rfl ?_
                  refine ea_getR (pc := 181) dX12_order_181 ec_12 (k := 99) (Nat.le_of_ble_eq_true rfl) rfl (Or.inl ew_1444) (hs.1 0 (by decide)).1 (hs.1 0 (by decide)).2.1 (hs.2 0 99 rfl) ?_
                  refine ea_aload_n (pc := 184) dX12_order_184 rfl 0 rfl ?_
                  refine ea_iload_n (pc := 185) dX12_order_185 rfl 1 rfl ?_
                  refine ea_iload_n (pc := 186) dX12_order_186 rfl 2 rfl ?_
                  refine ea_bipush (pc := 187) dX12_order_187 (v := 20) rfl ?_
                  refine ea_isub (pc := 189) dX12_order_189 ?_
                  obtain ⟨z6, E⟩ := gd_some E
                  refine ea_callV (pc := 190) (d' := d - 1) (As := [vI x1, vI (x2 - (20 : Int32))]) (st := [vR (some (b0 + 72))]) dX12_order_190 kX12_ordered (sX12_ordered (d := d - 1) (by omega) hs z6) (by omega) rfl (Nat.le_of_ble_eq_true rfl) ew_2123 ew_2125 ew_101 (ci := 12) rfl (by decide) (hs.1 0 (by decide)).1 (hs.1 0 (by decide)).2.1 ?_
                  have hs7 : ShM b0 (wX12_ordered b0 (x1 : Int32) ((x2 - (20 : Int32)) : Int32) h) := shX12_ordered hs
                  obtain ⟨z8, E⟩ := gd_some E
                  refine ea_iald (pc := 193) dX12_order_193 (hs7.1 72 (by decide)).1 (hs7.1 72 (by decide)).2.1 (ea_vpl (hs7.1 72 (by decide)).2.2 z8) ?_
                  refine ea_i2l (pc := 194) dX12_order_194 ?_
                  refine ea_goto (pc := 195) (tgt := 201) dX12_order_195 rfl ?_
                  cases E
                  exact ea_lreturn (pc := 201) dX12_order_201 rfl
              · have E := (if_neg c13).symm.trans E
                refine ea_aload_n (pc := 146) dX12_order_146 rfl 0 rfl ?_
                refine ea_getR (pc := 147) dX12_order_147 ec_12 (k := 98) (Nat.le_of_ble_eq_true rfl) rfl (Or.inl ew_1443) (hs.1 0 (by decide)).1 (hs.1 0 (by decide)).2.1 (hs.2 0 98 rfl) ?_
                refine ea_aload_n (pc := 150) dX12_order_150 rfl 0 rfl ?_
                refine ea_iload_n (pc := 151) dX12_order_151 rfl 1 rfl ?_
                refine ea_iload_n (pc := 152) dX12_order_152 rfl 2 rfl ?_
                refine ea_bipush (pc := 153) dX12_order_153 (v := 10) rfl ?_
                refine ea_isub (pc := 155) dX12_order_155 ?_
                obtain ⟨z10, E⟩ := gd_some E
                refine ea_callV (pc := 156) (d' := d - 1) (As := [vI x1, vI (x2 - (10 : Int32))]) (st := [vR (some (b0 + 71))]) dX12_order_156 kX12_ordered (sX12_ordered (d := d - 1) (by omega) hs z10) (by omega) rfl (Nat.le_of_ble_eq_true rfl) ew_2123 ew_2125 ew_101 (ci := 12) rfl (by decide) (hs.1 0 (by decide)).1 (hs.1 0 (by decide)).2.1 ?_
                have hs11 : ShM b0 (wX12_ordered b0 (x1 : Int32) ((x2 - (10 : Int32)) : Int32) h) := shX12_ordered hs
                obtain ⟨z12, E⟩ := gd_some E
                refine ea_iald (pc := 159) dX12_order_159 (hs11.1 71 (by decide)).1 (hs11.1 71 (by decide)).2.1 (ea_vpl (hs11.1 71 (by decide)).2.2 z12) ?_
                refine ea_i2l (pc := 160) dX12_order_160 ?_
                cases E
                exact ea_lreturn (pc := 161) dX12_order_161 rfl
            · have E := (if_pos c14).symm.trans E
              exact ((ih 34 (x1 : Int32) (x2 : Int32) 0 0 0 h _ _ E hs).2.1 rfl)
        · have E := (if_pos c17).symm.trans E
          refine ea_aload_n (pc := 16) dX12_order_16 rfl 0 rfl ?_
          refine ea_getR (pc := 17) dX12_order_17 ec_12 (k := 97) (Nat.le_of_ble_eq_true rfl) rfl (Or.inl ew_1442) (hs.1 0 (by decide)).1 (hs.1 0 (by decide)).2.1 (hs.2 0 97 rfl) ?_
          refine ea_iload_n (pc := 20) dX12_order_20 rfl 1 rfl ?_
          obtain ⟨z16, E⟩ := gd_some E
          refine ea_iald (pc := 21) dX12_order_21 (hs.1 70 (by decide)).1 (hs.1 70 (by decide)).2.1 (ea_vpl (hs.1 70 (by decide)).2.2 z16) ?_
          refine ea_i2l (pc := 22) dX12_order_22 ?_
          cases E
          exact ea_lreturn (pc := 23) dX12_order_23 rfl
      · have E := (if_pos c18).symm.trans E
        refine ea_ldc2 (pc := 8) dX12_order_8 ew_2118 ?_
        cases E
        exact ea_lreturn (pc := 11) dX12_order_11 rfl
    refine ⟨?_, ?_⟩
    · intro el
      subst el
      have E := (if_neg (by decide)).symm.trans E
      have E := (if_pos rfl).symm.trans E
      refine ea_aload_n (pc := 34) dX12_order_34 rfl 0 rfl ?_
      refine ea_getR (pc := 35) dX12_order_35 ec_12 (k := 97) (Nat.le_of_ble_eq_true rfl) rfl (Or.inl ew_1442) (hs.1 0 (by decide)).1 (hs.1 0 (by decide)).2.1 (hs.2 0 97 rfl) ?_
      refine ea_iload_n (pc := 38) dX12_order_38 rfl 1 rfl ?_
      obtain ⟨z19, E⟩ := gd_some E
      refine ea_iald (pc := 39) dX12_order_39 (hs.1 70 (by decide)).1 (hs.1 70 (by decide)).2.1 (ea_vpl (hs.1 70 (by decide)).2.2 z19) ?_
      refine ea_if_ne (pc := 40) (tgt := 47) dX12_order_40 rfl (fun c20 => ?_) (fun c20 => ?_)
      · have E := (if_neg c20).symm.trans E
        refine ea_lconst (pc := 47) dX12_order_47 (v := 1) rfl ?_
        refine ea_lstore_n (pc := 48) (lv' := [(0, vR (some (b0 + 0))), (1, vI x1), (2, vI x2), (3, vJ 1)]) dX12_order_48 rfl (Nat.le_of_ble_eq_true rfl) [1, 2, 3, 0] rfl ?_
        refine ea_lconst (pc := 49) dX12_order_49 (v := 1) rfl ?_
        refine ea_lstore (pc := 50) (lv' := [(0, vR (some (b0 + 0))), (1, vI x1), (2, vI x2), (3, vJ 1), (5, vJ 1)]) dX12_order_50 (Nat.le_of_ble_eq_true rfl) [1, 2, 3, 4, 0] rfl ?_
        refine ea_iconst (pc := 52) dX12_order_52 (v := 0) rfl ?_
        refine ea_istore (pc := 53) (lv' := [(0, vR (some (b0 + 0))), (1, vI x1), (2, vI x2), (3, vJ 1), (5, vJ 1), (7, vI 0)]) dX12_order_53 (Nat.le_of_ble_eq_true rfl) [1, 2, 3, 4, 5, 0] rfl ?_
        exact ((ih 55 (x1 : Int32) (x2 : Int32) (0 : Int32) (1 : Int64) (1 : Int64) h _ _ E hs).2.2 rfl)
      · have E := (if_pos c20).symm.trans E
        refine ea_ldc2 (pc := 43) dX12_order_43 ew_2118 ?_
        cases E
        exact ea_lreturn (pc := 46) dX12_order_46 rfl
    intro el
    subst el
    have E := (if_neg (by decide)).symm.trans E
    have E := (if_neg (by decide)).symm.trans E
    have E := (if_pos rfl).symm.trans E
    refine ea_iload (pc := 55) dX12_order_55 5 rfl ?_
    refine ea_aload_n (pc := 57) dX12_order_57 rfl 0 rfl ?_
    refine ea_getR (pc := 58) dX12_order_58 ec_12 (k := 97) (Nat.le_of_ble_eq_true rfl) rfl (Or.inl ew_1442) (hs.1 0 (by decide)).1 (hs.1 0 (by decide)).2.1 (hs.2 0 97 rfl) ?_
    refine ea_iload_n (pc := 61) dX12_order_61 rfl 1 rfl ?_
    obtain ⟨z21, E⟩ := gd_some E
    refine ea_iald (pc := 62) dX12_order_62 (hs.1 70 (by decide)).1 (hs.1 70 (by decide)).2.1 (ea_vpl (hs.1 70 (by decide)).2.2 z21) ?_
    refine ea_icmp_ge (pc := 63) (tgt := 98) dX12_order_63 rfl (fun c28 => ?_) (fun c28 => ?_)
    · have E := (if_pos c28).symm.trans E
      refine ea_lload_n (pc := 98) dX12_order_98 rfl 3 rfl ?_
      refine ea_lload (pc := 99) dX12_order_99 4 rfl ?_
      refine ea_lsub (pc := 101) dX12_order_101 ?_
      refine ea_lload_n (pc := 102) dX12_order_102 rfl 3 rfl ?_
      obtain ⟨z22, E⟩ := gd_some E
      refine ea_callS (pc := 103) (d' := d - 1) (As := [vJ (y3 - y5), vJ y3]) (st := []) dX12_order_103 kX12_common (sX12_common (d := d - 1) (by omega) hs z22) (by omega) rfl (Nat.le_of_ble_eq_true rfl) ew_2120 ew_2121 ?_
      have hs23 : ShM b0 (wX12_common b0 ((y3 - y5) : Int64) (y3 : Int64) h) := shX12_common hs
      refine ea_lstore (pc := 106) (lv' := [(2, vI x2), (3, vJ y3), (5, vJ y5), (7, vJ (vX12_common b0 ((y3 - y5) : Int64) (y3 : Int64) h))]) dX12_order_106 (Nat.le_of_ble_eq_true rfl) [3, 4, 5, 0] rfl ?_
      refine ea_iload_n (pc := 108) dX12_order_108 rfl 0 rfl ?_
      refine ea_iconst (pc := 109) dX12_order_109 (v := 1) rfl ?_
      refine ea_icmp_ne (pc := 110) (tgt := 123) dX12_order_110 rfl (fun c26 => ?_) (fun c26 => ?_)
      · have E := (if_neg c26).symm.trans E
        refine ea_lload_n (pc := 123) dX12_order_123 rfl 1 rfl ?_
        refine ea_lload (pc := 124) dX12_order_124 3 rfl ?_
        obtain ⟨z24, E⟩ := gd_some E
        refine ea_ldiv (pc := 126) dX12_order_126 z24 ?_
        cases E
        exact ea_lreturn (pc := 127) dX12_order_127 rfl
      · have E := (if_pos c26).symm.trans E
        refine ea_lload_n (pc := 113) dX12_order_113 rfl 1 rfl ?_
        refine ea_lload (pc := 114) dX12_order_114 2 rfl ?_
        refine ea_lsub (pc := 116) dX12_order_116 ?_
        refine ea_lload (pc := 117) dX12_order_117 3 rfl ?_
        obtain ⟨z25, E⟩ := gd_some E
        refine ea_ldiv (pc := 119) dX12_order_119 z25 ?_
        refine ea_goto (pc := 120) (tgt := 127) dX12_order_120 rfl ?_
        cases E
        exact ea_lreturn (pc := 127) dX12_order_127 rfl
    · have E := (if_neg c28).symm.trans E
      refine ea_lload_n (pc := 66) dX12_order_66 rfl 3 rfl ?_
      refine ea_ldc2 (pc := 67) dX12_order_67 ew_2119 ?_
      refine ea_lmul (pc := 70) dX12_order_70 ?_
      refine ea_lstore_n (pc := 71) (lv' := [(0, vR (some (b0 + 0))), (1, vI x1), (2, vI x2), (3, vJ (y3 * (100 : Int64))), (5, vJ y5), (7, vI x7)]) dX12_order_71 rfl (Nat.le_of_ble_eq_true rfl) [1, 2, 3, 0, 4, 5] rfl ?_
      refine ea_lload (pc := 72) dX12_order_72 4 rfl ?_
      refine ea_bipush (pc := 74) dX12_order_74 (v := 100) rfl ?_
      refine ea_aload_n (pc := 76) dX12_order_76 rfl 0 rfl ?_
      refine ea_getR (pc := 77) dX12_order_77 ec_12 (k := 99) (Nat.le_of_ble_eq_true rfl) rfl (Or.inl ew_1444) (hs.1 0 (by decide)).1 (hs.1 0 (by decide)).2.1 (hs.2 0 99 rfl) ?_
      refine ea_iconst (pc := 80) dX12_order_80 (v := 4) rfl ?_
      refine ea_iload_n (pc := 81) dX12_order_81 rfl 1 rfl ?_
      refine ea_imul (pc := 82) dX12_order_82 ?_
      refine ea_iload (pc := 83) dX12_order_83 5 rfl ?_
      refine ea_iadd (pc := 85) dX12_order_85 ?_
      obtain ⟨z27, E⟩ := gd_some E
      refine ea_iald (pc := 86) dX12_order_86 (hs.1 72 (by decide)).1 (hs.1 72 (by decide)).2.1 (ea_vpl (hs.1 72 (by decide)).2.2 z27) ?_
      refine ea_isub (pc := 87) dX12_order_87 ?_
      refine ea_i2l (pc := 88) dX12_order_88 ?_
      refine ea_lmul (pc := 89) dX12_order_89 ?_
      refine ea_lstore (pc := 90) (lv' := [(0, vR (some (b0 + 0))), (1, vI x1), (2, vI x2), (3, vJ (y3 * (100 : Int64))), (5, vJ (y5 * (Int32.toInt64 ((100 : Int32) - (ea_i h (b0 + 72) (Int32.toNatClampNeg (((4 : Int32) * x1) + x7))))))), (7, vI x7)]) dX12_order_90 (Nat.le_of_ble_eq_true rfl) [1, 2, 3, 4, 0, 5] rfl ?_
      refine ea_iinc (pc := 92) (v := 1) (lv' := [(0, vR (some (b0 + 0))), (1, vI x1), (2, vI x2), (3, vJ (y3 * (100 : Int64))), (5, vJ (y5 * (Int32.toInt64 ((100 : Int32) - (ea_i h (b0 + 72) (Int32.toNatClampNeg (((4 : Int32) * x1) + x7))))))), (7, vI (x7 + (1 : Int32)))]) dX12_order_92 5 rfl rfl (Nat.le_of_ble_eq_true rfl) [1, 2, 3, 4, 5, 0] rfl ?_
      refine ea_goto (pc := 95) (tgt := 55) dX12_order_95 rfl ?_
      exact ((ih 55 (x1 : Int32) (x2 : Int32) ((x7 + (1 : Int32)) : Int32) ((y3 * (100 : Int64)) : Int64) ((y5 * (Int32.toInt64 ((100 : Int32) - (ea_i h (b0 + 72) (Int32.toNatClampNeg (((4 : Int32) * x1) + x7)))))) : Int64) h _ _ E hs).2.2 rfl)
noncomputable def qX12_order (b0 : Nat) (x1 : Int32) (x2 : Int32) (h : ea_H) : Option (Int64 × ea_H) := gX12_order b0 1000000000 0 x1 x2 0 0 0 h
def okX12_order (b0 : Nat) (x1 : Int32) (x2 : Int32) (h : ea_H) : Prop := ∃ x, qX12_order b0 x1 x2 h = some x
noncomputable def vX12_order (b0 : Nat) (x1 : Int32) (x2 : Int32) (h : ea_H) : Int64 := ((qX12_order b0 x1 x2 h).getD (0, h)).1
noncomputable def wX12_order (b0 : Nat) (x1 : Int32) (x2 : Int32) (h : ea_H) : ea_H := ((qX12_order b0 x1 x2 h).getD (0, h)).2
theorem sX12_order {d : Nat} {b0 : Nat} {x1 : Int32} {x2 : Int32} {h : ea_H} (hd : 3 ≤ d) (hs : ShM b0 h) (K : okX12_order b0 x1 x2 h) : ea_Met mX12_order d [vR (some (b0 + 0)), vI x1, vI x2] h (some (vJ (vX12_order b0 x1 x2 h))) (wX12_order b0 x1 x2 h) := by
  obtain ⟨⟨x, y⟩, K⟩ := K
  unfold wX12_order vX12_order
  rw [K]
  unfold qX12_order at K
  exact ea_enter rfl (Nat.le_of_ble_eq_true rfl) ((tX12_order hd 1000000000 0 x1 x2 0 0 0 h x y K hs).1 rfl)
theorem zX12_order {b0 : Nat} : ∀ (f lbl : Nat) (x1 : Int32) (x2 : Int32) (x7 : Int32) (y3 : Int64) (y5 : Int64) (h : ea_H) (r : Int64) (h' : ea_H), gX12_order b0 f lbl x1 x2 x7 y3 y5 h = some (r, h') → ShM b0 h → ShM b0 h' := by
  intro f
  induction f with
  | zero => intro lbl x1 x2 x7 y3 y5 h r h' E; cases E
  | succ f ih =>
    intro lbl x1 x2 x7 y3 y5 h r h' E hs
    unfold gX12_order at E
    by_cases el0 : lbl = 0
    · have E := (if_pos el0).symm.trans E
      by_cases c18 : (vX12_isLetterOf b0 (x1 : Int32) h) = (0 : Int32)
      · have E := (if_pos c18).symm.trans E
        cases E
        exact hs
      have E := (if_neg c18).symm.trans E
      by_cases c17 : x2 = (0 : Int32)
      · have E := (if_pos c17).symm.trans E
        obtain ⟨z16, E⟩ := gd_some E
        cases E
        exact hs
      have E := (if_neg c17).symm.trans E
      by_cases c15 : x2 = (1 : Int32)
      · have E := (if_pos c15).symm.trans E
        exact ih 34 (x1 : Int32) (x2 : Int32) 0 0 0 h _ _ E hs
      have E := (if_neg c15).symm.trans E
      by_cases c14 : x2 = (2 : Int32)
      · have E := (if_pos c14).symm.trans E
        exact ih 34 (x1 : Int32) (x2 : Int32) 0 0 0 h _ _ E hs
      have E := (if_neg c14).symm.trans E
      obtain ⟨z2, E⟩ := gd_some E
      by_cases c13 : (vX12_isIn (x2 : Int32) (10 : Int32) (((9 : Int32) + (ea_i h (b0 + 70) (Int32.toNatClampNeg x1))) : Int32) h) = (0 : Int32)
      · have E := (if_pos c13).symm.trans E
        obtain ⟨z4, E⟩ := gd_some E
        by_cases c9 : (vX12_isIn (x2 : Int32) (20 : Int32) (((19 : Int32) + (ea_i h (b0 + 70) (Int32.toNatClampNeg x1))) : Int32) h) = (0 : Int32)
        · have E := (if_pos c9).symm.trans E
          cases E
          exact hs
        have E := (if_neg c9).symm.trans E
        obtain ⟨z6, E⟩ := gd_some E
        obtain ⟨z8, E⟩ := gd_some E
        cases E
        exact (shX12_ordered hs)
      have E := (if_neg c13).symm.trans E
      obtain ⟨z10, E⟩ := gd_some E
      obtain ⟨z12, E⟩ := gd_some E
      cases E
      exact (shX12_ordered hs)
    have E := (if_neg el0).symm.trans E
    by_cases el1 : lbl = 34
    · have E := (if_pos el1).symm.trans E
      obtain ⟨z19, E⟩ := gd_some E
      by_cases c20 : (ea_i h (b0 + 70) (Int32.toNatClampNeg x1)) = (0 : Int32)
      · have E := (if_pos c20).symm.trans E
        cases E
        exact hs
      have E := (if_neg c20).symm.trans E
      exact ih 55 (x1 : Int32) (x2 : Int32) (0 : Int32) (1 : Int64) (1 : Int64) h _ _ E hs
    have E := (if_neg el1).symm.trans E
    by_cases el2 : lbl = 55
    · have E := (if_pos el2).symm.trans E
      obtain ⟨z21, E⟩ := gd_some E
      by_cases c28 : (ea_i h (b0 + 70) (Int32.toNatClampNeg x1)) ≤ x7
      · have E := (if_pos c28).symm.trans E
        obtain ⟨z22, E⟩ := gd_some E
        by_cases c26 : x2 = (1 : Int32)
        · have E := (if_pos c26).symm.trans E
          obtain ⟨z25, E⟩ := gd_some E
          cases E
          exact (shX12_common hs)
        have E := (if_neg c26).symm.trans E
        obtain ⟨z24, E⟩ := gd_some E
        cases E
        exact (shX12_common hs)
      have E := (if_neg c28).symm.trans E
      obtain ⟨z27, E⟩ := gd_some E
      exact ih 55 (x1 : Int32) (x2 : Int32) ((x7 + (1 : Int32)) : Int32) ((y3 * (100 : Int64)) : Int64) ((y5 * (Int32.toInt64 ((100 : Int32) - (ea_i h (b0 + 72) (Int32.toNatClampNeg (((4 : Int32) * x1) + x7)))))) : Int64) h _ _ E hs
    have E := (if_neg el2).symm.trans E
    cases E
theorem shX12_order {b0 : Nat} {x1 : Int32} {x2 : Int32} {h : ea_H} (hs : ShM b0 h) : ShM b0 (wX12_order b0 x1 x2 h) := by
  unfold wX12_order
  cases K : qX12_order b0 x1 x2 h with
  | none => exact hs
  | some x => obtain ⟨x, y⟩ := x; unfold qX12_order at K; exact zX12_order _ _ _ _ _ _ _ _ _ _ K hs
noncomputable def gX12_found (b0 : Nat) : Nat → Nat → Int32 → Int32 → Int32 → ea_H → Option (Int32 × ea_H)
  | 0, _, _, _, _, _ => none
  | f + 1, lbl, x1, x2, x3, h =>
    if lbl = 0 then (if (vX12_isLetterOf b0 (x1 : Int32) h) = (0 : Int32) then (some ((0 : Int32), h)) else (gd (vp_in x1 120) (if (ea_i h (b0 + 55) (Int32.toNatClampNeg x1)) = (3 : Int32) then (gX12_found b0 f 22 (x1 : Int32) (x2 : Int32) (0 : Int32) h) else (some ((0 : Int32), h))))) else
    if lbl = 22 then (gd (vp_in x1 120) (if (ea_i h (b0 + 70) (Int32.toNatClampNeg x1)) ≤ x3 then (some ((0 : Int32), h)) else (gd (vp_in (((4 : Int32) * x1) + x3) 480) (if (ea_i h (b0 + 71) (Int32.toNatClampNeg (((4 : Int32) * x1) + x3))) = x2 then (gd ((okX12_turns b0 (x1 : Int32) ((ea_i h (b0 + 0) 0) : Int32) (5 : Int32) (x2 : Int32) h)) (some ((1 : Int32), (wX12_turns b0 (x1 : Int32) ((ea_i h (b0 + 0) 0) : Int32) (5 : Int32) (x2 : Int32) h)))) else (gX12_found b0 f 22 (x1 : Int32) (x2 : Int32) ((x3 + (1 : Int32)) : Int32) h))))) else none
theorem tX12_found {d : Nat} {b0 : Nat} {h0 : ea_H} (hd : 3 ≤ d) : ∀ (f lbl : Nat) (x1 : Int32) (x2 : Int32) (x3 : Int32) (h : ea_H) (r : Int32) (h' : ea_H), gX12_found b0 f lbl x1 x2 x3 h = some (r, h') → ShM b0 h → (lbl = 0 → ea_W mX12_found d h0 (some (vI r)) h' 0 [(0, vR (some (b0 + 0))), (1, vI x1), (2, vI x2)] [] h) ∧ (lbl = 22 → ea_W mX12_found d h0 (some (vI r)) h' 22 [(0, vR (some (b0 + 0))), (1, vI x1), (2, vI x2), (3, vI x3)] [] h) := by
  intro f
  induction f with
  | zero => intro lbl x1 x2 x3 h r h' E; cases E
  | succ f ih =>
    intro lbl x1 x2 x3 h r h' E hs
    unfold gX12_found at E
    refine ⟨?_, ?_⟩
    · intro el
      subst el
      have E := (if_pos rfl).symm.trans E
      refine ea_aload_n (pc := 0) dX12_found_0 rfl 0 rfl ?_
      refine ea_iload_n (pc := 1) dX12_found_1 rfl 1 rfl ?_
      refine ea_callV (pc := 2) (d' := d - 1) (As := [vI x1]) (st := []) dX12_found_2 kX12_isLetterOf (sX12_isLetterOf (d := d - 1) (by omega) hs) (by omega) rfl (Nat.le_of_ble_eq_true rfl) ew_2019 ew_2021 ew_89 (ci := 12) rfl (by decide) (hs.1 0 (by decide)).1 (hs.1 0 (by decide)).2.1 ?_
      refine ea_if_eq (pc := 5) (tgt := 18) dX12_found_5 rfl (fun c4 => ?_) (fun c4 => ?_)
      · have E := (if_pos c4).symm.trans E
        refine ea_iconst (pc := 18) dX12_found_18 (v := 0) rfl ?_
        cases E
        exact ea_ireturn (pc := 19) dX12_found_19 rfl (ea_bn (Or.inl rfl))
      · have E := (if_neg c4).symm.trans E
        refine ea_aload_n (pc := 8) dX12_found_8 rfl 0 rfl ?_
        refine ea_getR (pc := 9) dX12_found_9 ec_12 (k := 81) (Nat.le_of_ble_eq_true rfl) rfl (Or.inl ew_1426) (hs.1 0 (by decide)).1 (hs.1 0 (by decide)).2.1 (hs.2 0 81 rfl) ?_
        refine ea_iload_n (pc := 12) dX12_found_12 rfl 1 rfl ?_
        obtain ⟨z2, E⟩ := gd_some E
        refine ea_iald (pc := 13) dX12_found_13 (hs.1 55 (by decide)).1 (hs.1 55 (by decide)).2.1 (ea_vpl (hs.1 55 (by decide)).2.2 z2) ?_
        refine ea_iconst (pc := 14) dX12_found_14 (v := 3) rfl ?_
        refine ea_icmp_eq (pc := 15) (tgt := 20) dX12_found_15 rfl (fun c3 => ?_) (fun c3 => ?_)
        · have E := (if_pos c3).symm.trans E
          refine ea_iconst (pc := 20) dX12_found_20 (v := 0) rfl ?_
          refine ea_istore_n (pc := 21) (lv' := [(0, vR (some (b0 + 0))), (1, vI x1), (2, vI x2), (3, vI 0)]) dX12_found_21 rfl (Nat.le_of_ble_eq_true rfl) [1, 2, 3, 0] rfl ?_
          exact ((ih 22 (x1 : Int32) (x2 : Int32) (0 : Int32) h _ _ E hs).2 rfl)
        · have E := (if_neg c3).symm.trans E
          refine ea_iconst (pc := 18) dX12_found_18 (v := 0) rfl ?_
          cases E
          exact ea_ireturn (pc := 19) dX12_found_19 rfl (ea_bn (Or.inl rfl))
    intro el
    subst el
    have E := (if_neg (by decide)).symm.trans E
    have E := (if_pos rfl).symm.trans E
    refine ea_iload_n (pc := 22) dX12_found_22 rfl 3 rfl ?_
    refine ea_aload_n (pc := 23) dX12_found_23 rfl 0 rfl ?_
    refine ea_getR (pc := 24) dX12_found_24 ec_12 (k := 97) (Nat.le_of_ble_eq_true rfl) rfl (Or.inl ew_1442) (hs.1 0 (by decide)).1 (hs.1 0 (by decide)).2.1 (hs.2 0 97 rfl) ?_
    refine ea_iload_n (pc := 27) dX12_found_27 rfl 1 rfl ?_
    obtain ⟨z5, E⟩ := gd_some E
    refine ea_iald (pc := 28) dX12_found_28 (hs.1 70 (by decide)).1 (hs.1 70 (by decide)).2.1 (ea_vpl (hs.1 70 (by decide)).2.2 z5) ?_
    refine ea_icmp_ge (pc := 29) (tgt := 68) dX12_found_29 rfl (fun c10 => ?_) (fun c10 => ?_)
    · have E := (if_pos c10).symm.trans E
      refine ea_iconst (pc := 68) dX12_found_68 (v := 0) rfl ?_
      cases E
      exact ea_ireturn (pc := 69) dX12_found_69 rfl (ea_bn (Or.inl rfl))
    · have E := (if_neg c10).symm.trans E
      refine ea_aload_n (pc := 32) dX12_found_32 rfl 0 rfl ?_
      refine ea_getR (pc := 33) dX12_found_33 ec_12 (k := 98) (Nat.le_of_ble_eq_true rfl) rfl (Or.inl ew_1443) (hs.1 0 (by decide)).1 (hs.1 0 (by decide)).2.1 (hs.2 0 98 rfl) ?_
      refine ea_iconst (pc := 36) dX12_found_36 (v := 4) rfl ?_
      refine ea_iload_n (pc := 37) dX12_found_37 rfl 1 rfl ?_
      refine ea_imul (pc := 38) dX12_found_38 ?_
      refine ea_iload_n (pc := 39) dX12_found_39 rfl 3 rfl ?_
      refine ea_iadd (pc := 40) dX12_found_40 ?_
      obtain ⟨z6, E⟩ := gd_some E
      refine ea_iald (pc := 41) dX12_found_41 (hs.1 71 (by decide)).1 (hs.1 71 (by decide)).2.1 (ea_vpl (hs.1 71 (by decide)).2.2 z6) ?_
      refine ea_iload_n (pc := 42) dX12_found_42 rfl 2 rfl ?_
      refine ea_icmp_eq (pc := 43) (tgt := 49) dX12_found_43 rfl (fun c9 => ?_) (fun c9 => ?_)
      · have E := (if_pos c9).symm.trans E
        refine ea_aload_n (pc := 49) dX12_found_49 rfl 0 rfl ?_
        refine ea_iload_n (pc := 50) dX12_found_50 rfl 1 rfl ?_
        refine ea_aload_n (pc := 51) dX12_found_51 rfl 0 rfl ?_
        refine ea_getI (pc := 52) dX12_found_52 ec_12 (k := 0) (Nat.le_of_ble_eq_true rfl) rfl (Or.inl ew_1345) (hs.1 0 (by decide)).1 (hs.1 0 (by decide)).2.1 ?_
        refine ea_iconst (pc := 55) dX12_found_55 (v := 5) rfl ?_
        refine ea_iload_n (pc := 56) dX12_found_56 rfl 2 rfl ?_
        obtain ⟨z7, E⟩ := gd_some E
        refine ea_callV (pc := 57) (d' := d - 1) (As := [vI x1, vI (ea_i h (b0 + 0) 0), vI 5, vI x2]) (st := []) dX12_found_57 kX12_turns (sX12_turns (d := d - 1) (by omega) hs z7) (by omega) rfl (Nat.le_of_ble_eq_true rfl) ew_2011 ew_2013 ew_88 (ci := 12) rfl (by decide) (hs.1 0 (by decide)).1 (hs.1 0 (by decide)).2.1 ?_
        have hs8 : ShM b0 (wX12_turns b0 (x1 : Int32) ((ea_i h (b0 + 0) 0) : Int32) (5 : Int32) (x2 : Int32) h) := shX12_turns hs
        refine ea_iconst (pc := 60) dX12_found_60 (v := 1) rfl ?_
        cases E
        exact ea_ireturn (pc := 61) dX12_found_61 rfl (ea_bn (Or.inr rfl))
      · have E := (if_neg c9).symm.trans E
        refine ea_goto (pc := 46) (tgt := 62) dX12_found_46 rfl ?_
        refine ea_iinc (pc := 62) (v := 1) (lv' := [(0, vR (some (b0 + 0))), (1, vI x1), (2, vI x2), (3, vI (x3 + (1 : Int32)))]) dX12_found_62 3 rfl rfl (Nat.le_of_ble_eq_true rfl) [1, 2, 3, 0] rfl ?_
        refine ea_goto (pc := 65) (tgt := 22) dX12_found_65 rfl ?_
        exact ((ih 22 (x1 : Int32) (x2 : Int32) ((x3 + (1 : Int32)) : Int32) h _ _ E hs).2 rfl)
noncomputable def qX12_found (b0 : Nat) (x1 : Int32) (x2 : Int32) (h : ea_H) : Option (Int32 × ea_H) := gX12_found b0 1000000000 0 x1 x2 0 h
def okX12_found (b0 : Nat) (x1 : Int32) (x2 : Int32) (h : ea_H) : Prop := ∃ x, qX12_found b0 x1 x2 h = some x
noncomputable def vX12_found (b0 : Nat) (x1 : Int32) (x2 : Int32) (h : ea_H) : Int32 := ((qX12_found b0 x1 x2 h).getD (0, h)).1
noncomputable def wX12_found (b0 : Nat) (x1 : Int32) (x2 : Int32) (h : ea_H) : ea_H := ((qX12_found b0 x1 x2 h).getD (0, h)).2
theorem sX12_found {d : Nat} {b0 : Nat} {x1 : Int32} {x2 : Int32} {h : ea_H} (hd : 3 ≤ d) (hs : ShM b0 h) (K : okX12_found b0 x1 x2 h) : ea_Met mX12_found d [vR (some (b0 + 0)), vI x1, vI x2] h (some (vI (vX12_found b0 x1 x2 h))) (wX12_found b0 x1 x2 h) := by
  obtain ⟨⟨x, y⟩, K⟩ := K
  unfold wX12_found vX12_found
  rw [K]
  unfold qX12_found at K
  exact ea_enter rfl (Nat.le_of_ble_eq_true rfl) ((tX12_found hd 1000000000 0 x1 x2 0 h x y K hs).1 rfl)
theorem zX12_found {b0 : Nat} : ∀ (f lbl : Nat) (x1 : Int32) (x2 : Int32) (x3 : Int32) (h : ea_H) (r : Int32) (h' : ea_H), gX12_found b0 f lbl x1 x2 x3 h = some (r, h') → ShM b0 h → ShM b0 h' := by
  intro f
  induction f with
  | zero => intro lbl x1 x2 x3 h r h' E; cases E
  | succ f ih =>
    intro lbl x1 x2 x3 h r h' E hs
    unfold gX12_found at E
    by_cases el0 : lbl = 0
    · have E := (if_pos el0).symm.trans E
      by_cases c4 : (vX12_isLetterOf b0 (x1 : Int32) h) = (0 : Int32)
      · have E := (if_pos c4).symm.trans E
        cases E
        exact hs
      have E := (if_neg c4).symm.trans E
      obtain ⟨z2, E⟩ := gd_some E
      by_cases c3 : (ea_i h (b0 + 55) (Int32.toNatClampNeg x1)) = (3 : Int32)
      · have E := (if_pos c3).symm.trans E
        exact ih 22 (x1 : Int32) (x2 : Int32) (0 : Int32) h _ _ E hs
      have E := (if_neg c3).symm.trans E
      cases E
      exact hs
    have E := (if_neg el0).symm.trans E
    by_cases el1 : lbl = 22
    · have E := (if_pos el1).symm.trans E
      obtain ⟨z5, E⟩ := gd_some E
      by_cases c10 : (ea_i h (b0 + 70) (Int32.toNatClampNeg x1)) ≤ x3
      · have E := (if_pos c10).symm.trans E
        cases E
        exact hs
      have E := (if_neg c10).symm.trans E
      obtain ⟨z6, E⟩ := gd_some E
      by_cases c9 : (ea_i h (b0 + 71) (Int32.toNatClampNeg (((4 : Int32) * x1) + x3))) = x2
      · have E := (if_pos c9).symm.trans E
        obtain ⟨z7, E⟩ := gd_some E
        cases E
        exact (shX12_turns hs)
      have E := (if_neg c9).symm.trans E
      exact ih 22 (x1 : Int32) (x2 : Int32) ((x3 + (1 : Int32)) : Int32) h _ _ E hs
    have E := (if_neg el1).symm.trans E
    cases E
theorem shX12_found {b0 : Nat} {x1 : Int32} {x2 : Int32} {h : ea_H} (hs : ShM b0 h) : ShM b0 (wX12_found b0 x1 x2 h) := by
  unfold wX12_found
  cases K : qX12_found b0 x1 x2 h with
  | none => exact hs
  | some x => obtain ⟨x, y⟩ := x; unfold qX12_found at K; exact zX12_found _ _ _ _ _ _ _ _ K hs
noncomputable def gX12_rob (b0 : Nat) : Nat → Nat → Int32 → Int32 → Int32 → Int32 → Int32 → ea_H → Option (Int32 × ea_H)
  | 0, _, _, _, _, _, _, _ => none
  | f + 1, lbl, x1, x2, x3, x5, x6, h =>
    if lbl = 0 then (if (vX12_isTrain b0 (x1 : Int32) h) = (0 : Int32) then (some (((-1) : Int32), h)) else (if (vX12_isDay (x2 : Int32) h) = (0 : Int32) then (some (((-1) : Int32), h)) else (if (ea_i h (b0 + 0) 100) = (20 : Int32) then (some (((-1) : Int32), h)) else (gd ((okX12_gone b0 ((vX12_run (x1 : Int32) (x2 : Int32) h) : Int32) h)) (if (vX12_gone b0 ((vX12_run (x1 : Int32) (x2 : Int32) h) : Int32) h) = ((-1) : Int32) then (some (((-1) : Int32), (wX12_gone b0 ((vX12_run (x1 : Int32) (x2 : Int32) h) : Int32) h))) else (gd ((okX12_comesAt b0 ((vX12_run (x1 : Int32) (x2 : Int32) h) : Int32) (((vX12_gone b0 ((vX12_run (x1 : Int32) (x2 : Int32) h) : Int32) h) + (1 : Int32)) : Int32) (wX12_gone b0 ((vX12_run (x1 : Int32) (x2 : Int32) h) : Int32) h))) (if (ea_i (wX12_gone b0 ((vX12_run (x1 : Int32) (x2 : Int32) h) : Int32) h) (b0 + 0) 0) < (vX12_comesAt b0 ((vX12_run (x1 : Int32) (x2 : Int32) h) : Int32) (((vX12_gone b0 ((vX12_run (x1 : Int32) (x2 : Int32) h) : Int32) h) + (1 : Int32)) : Int32) (wX12_gone b0 ((vX12_run (x1 : Int32) (x2 : Int32) h) : Int32) h)) then (gd (vp_in (ea_i (wX12_gone b0 ((vX12_run (x1 : Int32) (x2 : Int32) h) : Int32) h) (b0 + 0) 100) 20) (gd (vp_in (ea_i (wX12_gone b0 ((vX12_run (x1 : Int32) (x2 : Int32) h) : Int32) h) (b0 + 0) 100) 20) (gX12_rob b0 f 104 0 0 ((vX12_run (x1 : Int32) (x2 : Int32) h) : Int32) ((ea_i (wX12_gone b0 ((vX12_run (x1 : Int32) (x2 : Int32) h) : Int32) h) (b0 + 0) 100) : Int32) (0 : Int32) (ea_wi (ea_wi (ea_wi (wX12_gone b0 ((vX12_run (x1 : Int32) (x2 : Int32) h) : Int32) h) (b0 + 0) 100 ((ea_i (wX12_gone b0 ((vX12_run (x1 : Int32) (x2 : Int32) h) : Int32) h) (b0 + 0) 100) + (1 : Int32))) (b0 + 73) (Int32.toNatClampNeg (ea_i (wX12_gone b0 ((vX12_run (x1 : Int32) (x2 : Int32) h) : Int32) h) (b0 + 0) 100)) (vX12_code ((vX12_run (x1 : Int32) (x2 : Int32) h) : Int32) (ea_wi (wX12_gone b0 ((vX12_run (x1 : Int32) (x2 : Int32) h) : Int32) h) (b0 + 0) 100 ((ea_i (wX12_gone b0 ((vX12_run (x1 : Int32) (x2 : Int32) h) : Int32) h) (b0 + 0) 100) + (1 : Int32))))) (b0 + 74) (Int32.toNatClampNeg (ea_i (wX12_gone b0 ((vX12_run (x1 : Int32) (x2 : Int32) h) : Int32) h) (b0 + 0) 100)) (ea_i (ea_wi (ea_wi (wX12_gone b0 ((vX12_run (x1 : Int32) (x2 : Int32) h) : Int32) h) (b0 + 0) 100 ((ea_i (wX12_gone b0 ((vX12_run (x1 : Int32) (x2 : Int32) h) : Int32) h) (b0 + 0) 100) + (1 : Int32))) (b0 + 73) (Int32.toNatClampNeg (ea_i (wX12_gone b0 ((vX12_run (x1 : Int32) (x2 : Int32) h) : Int32) h) (b0 + 0) 100)) (vX12_code ((vX12_run (x1 : Int32) (x2 : Int32) h) : Int32) (ea_wi (wX12_gone b0 ((vX12_run (x1 : Int32) (x2 : Int32) h) : Int32) h) (b0 + 0) 100 ((ea_i (wX12_gone b0 ((vX12_run (x1 : Int32) (x2 : Int32) h) : Int32) h) (b0 + 0) 100) + (1 : Int32))))) (b0 + 0) 0))))) else (some (((-1) : Int32), (wX12_gone b0 ((vX12_run (x1 : Int32) (x2 : Int32) h) : Int32) h)))))))))) else
    if lbl = 104 then (if (ea_i h (b0 + 0) 63) ≤ x6 then (some (x5, h)) else (gd ((okX12_isAboard b0 (x6 : Int32) (x3 : Int32) h)) (if (vX12_isAboard b0 (x6 : Int32) (x3 : Int32) h) = (0 : Int32) then (gX12_rob b0 f 104 0 0 (x3 : Int32) (x5 : Int32) ((x6 + (1 : Int32)) : Int32) h) else (gd (vp_in x6 120) (if (ea_i h (b0 + 61) (Int32.toNatClampNeg x6)) = (0 : Int32) then (gX12_rob b0 f 104 0 0 (x3 : Int32) (x5 : Int32) ((x6 + (1 : Int32)) : Int32) h) else (gd (vp_in x5 20) (gd (vp_in (((120 : Int32) * x5) + (ea_i h (b0 + 75) (Int32.toNatClampNeg x5))) 2400) (gd (vp_in x5 20) (gd (vp_in x5 20) (gd (vp_in x5 20) (gd ((okX12_owed b0 (x6 : Int32) (ea_wi (ea_wi h (b0 + 77) (Int32.toNatClampNeg (((120 : Int32) * x5) + (ea_i h (b0 + 75) (Int32.toNatClampNeg x5)))) x6) (b0 + 75) (Int32.toNatClampNeg x5) ((ea_i (ea_wi h (b0 + 77) (Int32.toNatClampNeg (((120 : Int32) * x5) + (ea_i h (b0 + 75) (Int32.toNatClampNeg x5)))) x6) (b0 + 75) (Int32.toNatClampNeg x5)) + (1 : Int32))))) (gd (vp_in x5 20) (gd ((okX12_turns b0 (x6 : Int32) ((ea_i (ea_wi (ea_wi (ea_wi h (b0 + 77) (Int32.toNatClampNeg (((120 : Int32) * x5) + (ea_i h (b0 + 75) (Int32.toNatClampNeg x5)))) x6) (b0 + 75) (Int32.toNatClampNeg x5) ((ea_i (ea_wi h (b0 + 77) (Int32.toNatClampNeg (((120 : Int32) * x5) + (ea_i h (b0 + 75) (Int32.toNatClampNeg x5)))) x6) (b0 + 75) (Int32.toNatClampNeg x5)) + (1 : Int32))) (b0 + 76) (Int32.toNatClampNeg x5) ((ea_i (ea_wi (ea_wi h (b0 + 77) (Int32.toNatClampNeg (((120 : Int32) * x5) + (ea_i h (b0 + 75) (Int32.toNatClampNeg x5)))) x6) (b0 + 75) (Int32.toNatClampNeg x5) ((ea_i (ea_wi h (b0 + 77) (Int32.toNatClampNeg (((120 : Int32) * x5) + (ea_i h (b0 + 75) (Int32.toNatClampNeg x5)))) x6) (b0 + 75) (Int32.toNatClampNeg x5)) + (1 : Int32))) (b0 + 76) (Int32.toNatClampNeg x5)) + (vX12_owed b0 (x6 : Int32) (ea_wi (ea_wi h (b0 + 77) (Int32.toNatClampNeg (((120 : Int32) * x5) + (ea_i h (b0 + 75) (Int32.toNatClampNeg x5)))) x6) (b0 + 75) (Int32.toNatClampNeg x5) ((ea_i (ea_wi h (b0 + 77) (Int32.toNatClampNeg (((120 : Int32) * x5) + (ea_i h (b0 + 75) (Int32.toNatClampNeg x5)))) x6) (b0 + 75) (Int32.toNatClampNeg x5)) + (1 : Int32)))))) (b0 + 0) 0) : Int32) (4 : Int32) ((vX12_code (x3 : Int32) (ea_wi (ea_wi (ea_wi h (b0 + 77) (Int32.toNatClampNeg (((120 : Int32) * x5) + (ea_i h (b0 + 75) (Int32.toNatClampNeg x5)))) x6) (b0 + 75) (Int32.toNatClampNeg x5) ((ea_i (ea_wi h (b0 + 77) (Int32.toNatClampNeg (((120 : Int32) * x5) + (ea_i h (b0 + 75) (Int32.toNatClampNeg x5)))) x6) (b0 + 75) (Int32.toNatClampNeg x5)) + (1 : Int32))) (b0 + 76) (Int32.toNatClampNeg x5) ((ea_i (ea_wi (ea_wi h (b0 + 77) (Int32.toNatClampNeg (((120 : Int32) * x5) + (ea_i h (b0 + 75) (Int32.toNatClampNeg x5)))) x6) (b0 + 75) (Int32.toNatClampNeg x5) ((ea_i (ea_wi h (b0 + 77) (Int32.toNatClampNeg (((120 : Int32) * x5) + (ea_i h (b0 + 75) (Int32.toNatClampNeg x5)))) x6) (b0 + 75) (Int32.toNatClampNeg x5)) + (1 : Int32))) (b0 + 76) (Int32.toNatClampNeg x5)) + (vX12_owed b0 (x6 : Int32) (ea_wi (ea_wi h (b0 + 77) (Int32.toNatClampNeg (((120 : Int32) * x5) + (ea_i h (b0 + 75) (Int32.toNatClampNeg x5)))) x6) (b0 + 75) (Int32.toNatClampNeg x5) ((ea_i (ea_wi h (b0 + 77) (Int32.toNatClampNeg (((120 : Int32) * x5) + (ea_i h (b0 + 75) (Int32.toNatClampNeg x5)))) x6) (b0 + 75) (Int32.toNatClampNeg x5)) + (1 : Int32))))))) : Int32) (ea_wi (ea_wi (ea_wi h (b0 + 77) (Int32.toNatClampNeg (((120 : Int32) * x5) + (ea_i h (b0 + 75) (Int32.toNatClampNeg x5)))) x6) (b0 + 75) (Int32.toNatClampNeg x5) ((ea_i (ea_wi h (b0 + 77) (Int32.toNatClampNeg (((120 : Int32) * x5) + (ea_i h (b0 + 75) (Int32.toNatClampNeg x5)))) x6) (b0 + 75) (Int32.toNatClampNeg x5)) + (1 : Int32))) (b0 + 76) (Int32.toNatClampNeg x5) ((ea_i (ea_wi (ea_wi h (b0 + 77) (Int32.toNatClampNeg (((120 : Int32) * x5) + (ea_i h (b0 + 75) (Int32.toNatClampNeg x5)))) x6) (b0 + 75) (Int32.toNatClampNeg x5) ((ea_i (ea_wi h (b0 + 77) (Int32.toNatClampNeg (((120 : Int32) * x5) + (ea_i h (b0 + 75) (Int32.toNatClampNeg x5)))) x6) (b0 + 75) (Int32.toNatClampNeg x5)) + (1 : Int32))) (b0 + 76) (Int32.toNatClampNeg x5)) + (vX12_owed b0 (x6 : Int32) (ea_wi (ea_wi h (b0 + 77) (Int32.toNatClampNeg (((120 : Int32) * x5) + (ea_i h (b0 + 75) (Int32.toNatClampNeg x5)))) x6) (b0 + 75) (Int32.toNatClampNeg x5) ((ea_i (ea_wi h (b0 + 77) (Int32.toNatClampNeg (((120 : Int32) * x5) + (ea_i h (b0 + 75) (Int32.toNatClampNeg x5)))) x6) (b0 + 75) (Int32.toNatClampNeg x5)) + (1 : Int32)))))))) (gX12_rob b0 f 104 0 0 (x3 : Int32) (x5 : Int32) ((x6 + (1 : Int32)) : Int32) (wX12_turns b0 (x6 : Int32) ((ea_i (ea_wi (ea_wi (ea_wi h (b0 + 77) (Int32.toNatClampNeg (((120 : Int32) * x5) + (ea_i h (b0 + 75) (Int32.toNatClampNeg x5)))) x6) (b0 + 75) (Int32.toNatClampNeg x5) ((ea_i (ea_wi h (b0 + 77) (Int32.toNatClampNeg (((120 : Int32) * x5) + (ea_i h (b0 + 75) (Int32.toNatClampNeg x5)))) x6) (b0 + 75) (Int32.toNatClampNeg x5)) + (1 : Int32))) (b0 + 76) (Int32.toNatClampNeg x5) ((ea_i (ea_wi (ea_wi h (b0 + 77) (Int32.toNatClampNeg (((120 : Int32) * x5) + (ea_i h (b0 + 75) (Int32.toNatClampNeg x5)))) x6) (b0 + 75) (Int32.toNatClampNeg x5) ((ea_i (ea_wi h (b0 + 77) (Int32.toNatClampNeg (((120 : Int32) * x5) + (ea_i h (b0 + 75) (Int32.toNatClampNeg x5)))) x6) (b0 + 75) (Int32.toNatClampNeg x5)) + (1 : Int32))) (b0 + 76) (Int32.toNatClampNeg x5)) + (vX12_owed b0 (x6 : Int32) (ea_wi (ea_wi h (b0 + 77) (Int32.toNatClampNeg (((120 : Int32) * x5) + (ea_i h (b0 + 75) (Int32.toNatClampNeg x5)))) x6) (b0 + 75) (Int32.toNatClampNeg x5) ((ea_i (ea_wi h (b0 + 77) (Int32.toNatClampNeg (((120 : Int32) * x5) + (ea_i h (b0 + 75) (Int32.toNatClampNeg x5)))) x6) (b0 + 75) (Int32.toNatClampNeg x5)) + (1 : Int32)))))) (b0 + 0) 0) : Int32) (4 : Int32) ((vX12_code (x3 : Int32) (ea_wi (ea_wi (ea_wi h (b0 + 77) (Int32.toNatClampNeg (((120 : Int32) * x5) + (ea_i h (b0 + 75) (Int32.toNatClampNeg x5)))) x6) (b0 + 75) (Int32.toNatClampNeg x5) ((ea_i (ea_wi h (b0 + 77) (Int32.toNatClampNeg (((120 : Int32) * x5) + (ea_i h (b0 + 75) (Int32.toNatClampNeg x5)))) x6) (b0 + 75) (Int32.toNatClampNeg x5)) + (1 : Int32))) (b0 + 76) (Int32.toNatClampNeg x5) ((ea_i (ea_wi (ea_wi h (b0 + 77) (Int32.toNatClampNeg (((120 : Int32) * x5) + (ea_i h (b0 + 75) (Int32.toNatClampNeg x5)))) x6) (b0 + 75) (Int32.toNatClampNeg x5) ((ea_i (ea_wi h (b0 + 77) (Int32.toNatClampNeg (((120 : Int32) * x5) + (ea_i h (b0 + 75) (Int32.toNatClampNeg x5)))) x6) (b0 + 75) (Int32.toNatClampNeg x5)) + (1 : Int32))) (b0 + 76) (Int32.toNatClampNeg x5)) + (vX12_owed b0 (x6 : Int32) (ea_wi (ea_wi h (b0 + 77) (Int32.toNatClampNeg (((120 : Int32) * x5) + (ea_i h (b0 + 75) (Int32.toNatClampNeg x5)))) x6) (b0 + 75) (Int32.toNatClampNeg x5) ((ea_i (ea_wi h (b0 + 77) (Int32.toNatClampNeg (((120 : Int32) * x5) + (ea_i h (b0 + 75) (Int32.toNatClampNeg x5)))) x6) (b0 + 75) (Int32.toNatClampNeg x5)) + (1 : Int32))))))) : Int32) (ea_wi (ea_wi (ea_wi h (b0 + 77) (Int32.toNatClampNeg (((120 : Int32) * x5) + (ea_i h (b0 + 75) (Int32.toNatClampNeg x5)))) x6) (b0 + 75) (Int32.toNatClampNeg x5) ((ea_i (ea_wi h (b0 + 77) (Int32.toNatClampNeg (((120 : Int32) * x5) + (ea_i h (b0 + 75) (Int32.toNatClampNeg x5)))) x6) (b0 + 75) (Int32.toNatClampNeg x5)) + (1 : Int32))) (b0 + 76) (Int32.toNatClampNeg x5) ((ea_i (ea_wi (ea_wi h (b0 + 77) (Int32.toNatClampNeg (((120 : Int32) * x5) + (ea_i h (b0 + 75) (Int32.toNatClampNeg x5)))) x6) (b0 + 75) (Int32.toNatClampNeg x5) ((ea_i (ea_wi h (b0 + 77) (Int32.toNatClampNeg (((120 : Int32) * x5) + (ea_i h (b0 + 75) (Int32.toNatClampNeg x5)))) x6) (b0 + 75) (Int32.toNatClampNeg x5)) + (1 : Int32))) (b0 + 76) (Int32.toNatClampNeg x5)) + (vX12_owed b0 (x6 : Int32) (ea_wi (ea_wi h (b0 + 77) (Int32.toNatClampNeg (((120 : Int32) * x5) + (ea_i h (b0 + 75) (Int32.toNatClampNeg x5)))) x6) (b0 + 75) (Int32.toNatClampNeg x5) ((ea_i (ea_wi h (b0 + 77) (Int32.toNatClampNeg (((120 : Int32) * x5) + (ea_i h (b0 + 75) (Int32.toNatClampNeg x5)))) x6) (b0 + 75) (Int32.toNatClampNeg x5)) + (1 : Int32))))))))))))))))))))) else none
theorem tX12_rob {d : Nat} {b0 : Nat} {h0 : ea_H} (hd : 3 ≤ d) : ∀ (f lbl : Nat) (x1 : Int32) (x2 : Int32) (x3 : Int32) (x5 : Int32) (x6 : Int32) (h : ea_H) (r : Int32) (h' : ea_H), gX12_rob b0 f lbl x1 x2 x3 x5 x6 h = some (r, h') → ShM b0 h → (lbl = 0 → ea_W mX12_rob d h0 (some (vI r)) h' 0 [(0, vR (some (b0 + 0))), (1, vI x1), (2, vI x2)] [] h) ∧ (lbl = 104 → ea_W mX12_rob d h0 (some (vI r)) h' 104 [(0, vR (some (b0 + 0))), (3, vI x3), (5, vI x5), (6, vI x6)] [] h) := by
  intro f
  induction f with
  | zero => intro lbl x1 x2 x3 x5 x6 h r h' E; cases E
  | succ f ih =>
    intro lbl x1 x2 x3 x5 x6 h r h' E hs
    unfold gX12_rob at E
    refine ⟨?_, ?_⟩
    · intro el
      subst el
      have E := (if_pos rfl).symm.trans E
      refine ea_aload_n (pc := 0) dX12_rob_0 rfl 0 rfl ?_
      refine ea_iload_n (pc := 1) dX12_rob_1 rfl 1 rfl ?_
      refine ea_callV (pc := 2) (d' := d - 1) (As := [vI x1]) (st := []) dX12_rob_2 kX12_isTrain (sX12_isTrain (d := d - 1) (by omega) hs) (by omega) rfl (Nat.le_of_ble_eq_true rfl) ew_1736 ew_1738 ew_50 (ci := 12) rfl (by decide) (hs.1 0 (by decide)).1 (hs.1 0 (by decide)).2.1 ?_
      refine ea_if_eq (pc := 5) (tgt := 24) dX12_rob_5 rfl (fun c17 => ?_) (fun c17 => ?_)
      · have E := (if_pos c17).symm.trans E
        refine ea_iconst (pc := 24) dX12_rob_24 (v := (-1)) rfl ?_
        cases E
        exact ea_ireturn (pc := 25) dX12_rob_25 rfl rfl
      · have E := (if_neg c17).symm.trans E
        refine ea_iload_n (pc := 8) dX12_rob_8 rfl 2 rfl ?_
        refine ea_callS (pc := 9) (d' := d - 1) (As := [vI x2]) (st := []) dX12_rob_9 kX12_isDay (sX12_isDay (d := d - 1) (by omega)) (by omega) rfl (Nat.le_of_ble_eq_true rfl) ew_1752 ew_1753 ?_
        refine ea_if_eq (pc := 12) (tgt := 24) dX12_rob_12 rfl (fun c16 => ?_) (fun c16 => ?_)
        · have E := (if_pos c16).symm.trans E
          refine ea_iconst (pc := 24) dX12_rob_24 (v := (-1)) rfl ?_
          cases E
          exact ea_ireturn (pc := 25) dX12_rob_25 rfl rfl
        · have E := (if_neg c16).symm.trans E
          refine ea_aload_n (pc := 15) dX12_rob_15 rfl 0 rfl ?_
          refine ea_getI (pc := 16) dX12_rob_16 ec_12 (k := 100) (Nat.le_of_ble_eq_true rfl) rfl (Or.inl ew_1445) (hs.1 0 (by decide)).1 (hs.1 0 (by decide)).2.1 ?_
          refine ea_bipush (pc := 19) dX12_rob_19 (v := 20) rfl ?_
          refine ea_icmp_ne (pc := 21) (tgt := 26) dX12_rob_21 rfl (fun c15 => ?_) (fun c15 => ?_)
          · have E := (if_neg c15).symm.trans E
            refine ea_iload_n (pc := 26) dX12_rob_26 rfl 1 rfl ?_
            refine ea_iload_n (pc := 27) dX12_rob_27 rfl 2 rfl ?_
            refine ea_callS (pc := 28) (d' := d - 1) (As := [vI x1, vI x2]) (st := []) dX12_rob_28 kX12_run (sX12_run (d := d - 1) (by omega)) (by omega) rfl (Nat.le_of_ble_eq_true rfl) ew_1755 ew_1756 ?_
            refine ea_istore_n (pc := 31) (lv' := [(0, vR (some (b0 + 0))), (3, vI (vX12_run (x1 : Int32) (x2 : Int32) h))]) dX12_rob_31 rfl (Nat.le_of_ble_eq_true rfl) [1, 0] rfl ?_
            refine ea_aload_n (pc := 32) dX12_rob_32 rfl 0 rfl ?_
            refine ea_iload_n (pc := 33) dX12_rob_33 rfl 1 rfl ?_
            obtain ⟨z4, E⟩ := gd_some E
            refine ea_callV (pc := 34) (d' := d - 1) (As := [vI (vX12_run (x1 : Int32) (x2 : Int32) h)]) (st := []) dX12_rob_34 kX12_gone (sX12_gone (d := d - 1) (by omega) hs z4) (by omega) rfl (Nat.le_of_ble_eq_true rfl) ew_2094 ew_2096 ew_99 (ci := 12) rfl (by decide) (hs.1 0 (by decide)).1 (hs.1 0 (by decide)).2.1 ?_
            have hs5 : ShM b0 (wX12_gone b0 ((vX12_run (x1 : Int32) (x2 : Int32) h) : Int32) h) := shX12_gone hs
            refine ea_istore (pc := 37) (lv' := [(0, vR (some (b0 + 0))), (3, vI (vX12_run (x1 : Int32) (x2 : Int32) h)), (4, vI (vX12_gone b0 ((vX12_run (x1 : Int32) (x2 : Int32) h) : Int32) h))]) dX12_rob_37 (Nat.le_of_ble_eq_true rfl) [1, 2, 0] rfl ?_
            refine ea_iload (pc := 39) dX12_rob_39 2 rfl ?_
            refine ea_iconst (pc := 41) dX12_rob_41 (v := (-1)) rfl ?_
            refine ea_icmp_eq (pc := 42) (tgt := 61) dX12_rob_42 rfl (fun c14 => ?_) (fun c14 => ?_)
            · have E := (if_pos c14).symm.trans E
              refine ea_iconst (pc := 61) dX12_rob_61 (v := (-1)) rfl ?_
              cases E
              exact ea_ireturn (pc := 62) dX12_rob_62 rfl rfl
            · have E := (if_neg c14).symm.trans E
              refine ea_aload_n (pc := 45) dX12_rob_45 rfl 0 rfl ?_
              refine ea_iload_n (pc := 46) dX12_rob_46 rfl 1 rfl ?_
              refine ea_iload (pc := 47) dX12_rob_47 2 rfl ?_
              refine ea_iconst (pc := 49) dX12_rob_49 (v := 1) rfl ?_
              refine ea_iadd (pc := 50) dX12_rob_50 ?_
              obtain ⟨z6, E⟩ := gd_some E
              refine ea_callV (pc := 51) (d' := d - 1) (As := [vI (vX12_run (x1 : Int32) (x2 : Int32) h), vI ((vX12_gone b0 ((vX12_run (x1 : Int32) (x2 : Int32) h) : Int32) h) + (1 : Int32))]) (st := []) dX12_rob_51 kX12_comesAt (sX12_comesAt (d := d - 1) (by omega) hs5 z6) (by omega) rfl (Nat.le_of_ble_eq_true rfl) ew_1762 ew_1764 ew_52 (ci := 12) rfl (by decide) (hs5.1 0 (by decide)).1 (hs5.1 0 (by decide)).2.1 ?_
              refine ea_aload_n (pc := 54) dX12_rob_54 rfl 0 rfl ?_
              refine ea_getI (pc := 55) dX12_rob_55 ec_12 (k := 0) (Nat.le_of_ble_eq_true rfl) rfl (Or.inl ew_1345) (hs5.1 0 (by decide)).1 (hs5.1 0 (by decide)).2.1 ?_
              refine ea_icmp_gt (pc := 58) (tgt := 63) dX12_rob_58 rfl (fun c13 => ?_) (fun c13 => ?_)
              · have E := (if_pos c13).symm.trans E
                refine ea_aload_n (pc := 63) dX12_rob_63 rfl 0 rfl ?_
                refine ea_getI (pc := 64) dX12_rob_64 ec_12 (k := 100) (Nat.le_of_ble_eq_true rfl) rfl (Or.inl ew_1445) (hs5.1 0 (by decide)).1 (hs5.1 0 (by decide)).2.1 ?_
                refine ea_istore (pc := 67) (lv' := [(0, vR (some (b0 + 0))), (3, vI (vX12_run (x1 : Int32) (x2 : Int32) h)), (5, vI (ea_i (wX12_gone b0 ((vX12_run (x1 : Int32) (x2 : Int32) h) : Int32) h) (b0 + 0) 100))]) dX12_rob_67 (Nat.le_of_ble_eq_true rfl) [1, 2, 0] rfl ?_
                refine ea_aload_n (pc := 69) dX12_rob_69 rfl 0 rfl ?_
                refine ea_dup (pc := 70) dX12_rob_70 rfl ?_
                refine ea_getI (pc := 71) dX12_rob_71 ec_12 (k := 100) (Nat.le_of_ble_eq_true rfl) rfl (Or.inl ew_1445) (hs5.1 0 (by decide)).1 (hs5.1 0 (by decide)).2.1 ?_
                refine ea_iconst (pc := 74) dX12_rob_74 (v := 1) rfl ?_
                refine ea_iadd (pc := 75) dX12_rob_75 ?_
                refine ea_putI (pc := 76) dX12_rob_76 ec_12 (k := 100) (Nat.le_of_ble_eq_true rfl) rfl (Or.inl ⟨rfl, Or.inl ew_1445⟩) rfl rfl (hs5.1 0 (by decide)).1 (hs5.1 0 (by decide)).2.1 ?_
                have hs7 : ShM b0 (ea_wi (wX12_gone b0 ((vX12_run (x1 : Int32) (x2 : Int32) h) : Int32) h) (b0 + 0) 100 ((ea_i (wX12_gone b0 ((vX12_run (x1 : Int32) (x2 : Int32) h) : Int32) h) (b0 + 0) 100) + (1 : Int32))) := ShM_wi hs5
                refine ea_aload_n (pc := 79) dX12_rob_79 rfl 0 rfl ?_
                refine ea_getR (pc := 80) dX12_rob_80 ec_12 (k := 101) (Nat.le_of_ble_eq_true rfl) rfl (Or.inl ew_1446) (hs7.1 0 (by decide)).1 (hs7.1 0 (by decide)).2.1 (hs7.2 0 101 rfl) ?_
                refine ea_iload (pc := 83) dX12_rob_83 2 rfl ?_
                refine ea_iload_n (pc := 85) dX12_rob_85 rfl 1 rfl ?_
                refine ea_callS (pc := 86) (d' := d - 1) (As := [vI (vX12_run (x1 : Int32) (x2 : Int32) h)]) (st := [vI (ea_i (wX12_gone b0 ((vX12_run (x1 : Int32) (x2 : Int32) h) : Int32) h) (b0 + 0) 100), vR (some (b0 + 73))]) dX12_rob_86 kX12_code (sX12_code (d := d - 1) (by omega)) (by omega) rfl (Nat.le_of_ble_eq_true rfl) ew_2071 ew_2072 ?_
                obtain ⟨z9, E⟩ := gd_some E
                refine ea_iast (pc := 89) dX12_rob_89 (hs7.1 73 (by decide)).1 (hs7.1 73 (by decide)).2.1 (ea_vpl (hs7.1 73 (by decide)).2.2 z9) ?_
                have hs10 : ShM b0 (ea_wi (ea_wi (wX12_gone b0 ((vX12_run (x1 : Int32) (x2 : Int32) h) : Int32) h) (b0 + 0) 100 ((ea_i (wX12_gone b0 ((vX12_run (x1 : Int32) (x2 : Int32) h) : Int32) h) (b0 + 0) 100) + (1 : Int32))) (b0 + 73) (Int32.toNatClampNeg (ea_i (wX12_gone b0 ((vX12_run (x1 : Int32) (x2 : Int32) h) : Int32) h) (b0 + 0) 100)) (vX12_code ((vX12_run (x1 : Int32) (x2 : Int32) h) : Int32) (ea_wi (wX12_gone b0 ((vX12_run (x1 : Int32) (x2 : Int32) h) : Int32) h) (b0 + 0) 100 ((ea_i (wX12_gone b0 ((vX12_run (x1 : Int32) (x2 : Int32) h) : Int32) h) (b0 + 0) 100) + (1 : Int32))))) := ShM_wi hs7
                refine ea_aload_n (pc := 90) dX12_rob_90 rfl 0 rfl ?_
                refine ea_getR (pc := 91) dX12_rob_91 ec_12 (k := 102) (Nat.le_of_ble_eq_true rfl) rfl (Or.inl ew_1447) (hs10.1 0 (by decide)).1 (hs10.1 0 (by decide)).2.1 (hs10.2 0 102 rfl) ?_
                refine ea_iload (pc := 94) dX12_rob_94 2 rfl ?_
                refine ea_aload_n (pc := 96) dX12_rob_96 rfl 0 rfl ?_
                refine ea_getI (pc := 97) dX12_rob_97 ec_12 (k := 0) (Nat.le_of_ble_eq_true rfl) rfl (Or.inl ew_1345) (hs10.1 0 (by decide)).1 (hs10.1 0 (by decide)).2.1 ?_
                obtain ⟨z11, E⟩ := gd_some E
                refine ea_iast (pc := 100) dX12_rob_100 (hs10.1 74 (by decide)).1 (hs10.1 74 (by decide)).2.1 (ea_vpl (hs10.1 74 (by decide)).2.2 z11) ?_
                have hs12 : ShM b0 (ea_wi (ea_wi (ea_wi (wX12_gone b0 ((vX12_run (x1 : Int32) (x2 : Int32) h) : Int32) h) (b0 + 0) 100 ((ea_i (wX12_gone b0 ((vX12_run (x1 : Int32) (x2 : Int32) h) : Int32) h) (b0 + 0) 100) + (1 : Int32))) (b0 + 73) (Int32.toNatClampNeg (ea_i (wX12_gone b0 ((vX12_run (x1 : Int32) (x2 : Int32) h) : Int32) h) (b0 + 0) 100)) (vX12_code ((vX12_run (x1 : Int32) (x2 : Int32) h) : Int32) (ea_wi (wX12_gone b0 ((vX12_run (x1 : Int32) (x2 : Int32) h) : Int32) h) (b0 + 0) 100 ((ea_i (wX12_gone b0 ((vX12_run (x1 : Int32) (x2 : Int32) h) : Int32) h) (b0 + 0) 100) + (1 : Int32))))) (b0 + 74) (Int32.toNatClampNeg (ea_i (wX12_gone b0 ((vX12_run (x1 : Int32) (x2 : Int32) h) : Int32) h) (b0 + 0) 100)) (ea_i (ea_wi (ea_wi (wX12_gone b0 ((vX12_run (x1 : Int32) (x2 : Int32) h) : Int32) h) (b0 + 0) 100 ((ea_i (wX12_gone b0 ((vX12_run (x1 : Int32) (x2 : Int32) h) : Int32) h) (b0 + 0) 100) + (1 : Int32))) (b0 + 73) (Int32.toNatClampNeg (ea_i (wX12_gone b0 ((vX12_run (x1 : Int32) (x2 : Int32) h) : Int32) h) (b0 + 0) 100)) (vX12_code ((vX12_run (x1 : Int32) (x2 : Int32) h) : Int32) (ea_wi (wX12_gone b0 ((vX12_run (x1 : Int32) (x2 : Int32) h) : Int32) h) (b0 + 0) 100 ((ea_i (wX12_gone b0 ((vX12_run (x1 : Int32) (x2 : Int32) h) : Int32) h) (b0 + 0) 100) + (1 : Int32))))) (b0 + 0) 0)) := ShM_wi hs10
                refine ea_iconst (pc := 101) dX12_rob_101 (v := 0) rfl ?_
                refine ea_istore (pc := 102) (lv' := [(0, vR (some (b0 + 0))), (3, vI (vX12_run (x1 : Int32) (x2 : Int32) h)), (5, vI (ea_i (wX12_gone b0 ((vX12_run (x1 : Int32) (x2 : Int32) h) : Int32) h) (b0 + 0) 100)), (6, vI 0)]) dX12_rob_102 (Nat.le_of_ble_eq_true rfl) [1, 2, 3, 0] rfl ?_
                exact ((ih 104 0 0 ((vX12_run (x1 : Int32) (x2 : Int32) h) : Int32) ((ea_i (wX12_gone b0 ((vX12_run (x1 : Int32) (x2 : Int32) h) : Int32) h) (b0 + 0) 100) : Int32) (0 : Int32) (ea_wi (ea_wi (ea_wi (wX12_gone b0 ((vX12_run (x1 : Int32) (x2 : Int32) h) : Int32) h) (b0 + 0) 100 ((ea_i (wX12_gone b0 ((vX12_run (x1 : Int32) (x2 : Int32) h) : Int32) h) (b0 + 0) 100) + (1 : Int32))) (b0 + 73) (Int32.toNatClampNeg (ea_i (wX12_gone b0 ((vX12_run (x1 : Int32) (x2 : Int32) h) : Int32) h) (b0 + 0) 100)) (vX12_code ((vX12_run (x1 : Int32) (x2 : Int32) h) : Int32) (ea_wi (wX12_gone b0 ((vX12_run (x1 : Int32) (x2 : Int32) h) : Int32) h) (b0 + 0) 100 ((ea_i (wX12_gone b0 ((vX12_run (x1 : Int32) (x2 : Int32) h) : Int32) h) (b0 + 0) 100) + (1 : Int32))))) (b0 + 74) (Int32.toNatClampNeg (ea_i (wX12_gone b0 ((vX12_run (x1 : Int32) (x2 : Int32) h) : Int32) h) (b0 + 0) 100)) (ea_i (ea_wi (ea_wi (wX12_gone b0 ((vX12_run (x1 : Int32) (x2 : Int32) h) : Int32) h) (b0 + 0) 100 ((ea_i (wX12_gone b0 ((vX12_run (x1 : Int32) (x2 : Int32) h) : Int32) h) (b0 + 0) 100) + (1 : Int32))) (b0 + 73) (Int32.toNatClampNeg (ea_i (wX12_gone b0 ((vX12_run (x1 : Int32) (x2 : Int32) h) : Int32) h) (b0 + 0) 100)) (vX12_code ((vX12_run (x1 : Int32) (x2 : Int32) h) : Int32) (ea_wi (wX12_gone b0 ((vX12_run (x1 : Int32) (x2 : Int32) h) : Int32) h) (b0 + 0) 100 ((ea_i (wX12_gone b0 ((vX12_run (x1 : Int32) (x2 : Int32) h) : Int32) h) (b0 + 0) 100) + (1 : Int32))))) (b0 + 0) 0)) _ _ E hs12).2 rfl)
              · have E := (if_neg c13).symm.trans E
                refine ea_iconst (pc := 61) dX12_rob_61 (v := (-1)) rfl ?_
                cases E
                exact ea_ireturn (pc := 62) dX12_rob_62 rfl rfl
          · have E := (if_pos c15).symm.trans E
            refine ea_iconst (pc := 24) dX12_rob_24 (v := (-1)) rfl ?_
            cases E
            exact ea_ireturn (pc := 25) dX12_rob_25 rfl rfl
    intro el
    subst el
    have E := (if_neg (by decide)).symm.trans E
    have E := (if_pos rfl).symm.trans E
    refine ea_iload (pc := 104) dX12_rob_104 3 rfl ?_
    refine ea_aload_n (pc := 106) dX12_rob_106 rfl 0 rfl ?_
    refine ea_getI (pc := 107) dX12_rob_107 ec_12 (k := 63) (Nat.le_of_ble_eq_true rfl) rfl (Or.inl ew_1408) (hs.1 0 (by decide)).1 (hs.1 0 (by decide)).2.1 ?_
    refine ea_icmp_ge (pc := 110) (tgt := 204) dX12_rob_110 rfl (fun c35 => ?_) (fun c35 => ?_)
    · have E := (if_pos c35).symm.trans E
      refine ea_iload (pc := 204) dX12_rob_204 2 rfl ?_
      cases E
      exact ea_ireturn (pc := 206) dX12_rob_206 rfl rfl
    · have E := (if_neg c35).symm.trans E
      refine ea_aload_n (pc := 113) dX12_rob_113 rfl 0 rfl ?_
      refine ea_iload (pc := 114) dX12_rob_114 3 rfl ?_
      refine ea_iload_n (pc := 116) dX12_rob_116 rfl 1 rfl ?_
      obtain ⟨z18, E⟩ := gd_some E
      refine ea_callV (pc := 117) (d' := d - 1) (As := [vI x6, vI x3]) (st := []) dX12_rob_117 kX12_isAboard (sX12_isAboard (d := d - 1) (by omega) hs z18) (by omega) rfl (Nat.le_of_ble_eq_true rfl) ew_2067 ew_2069 ew_95 (ci := 12) rfl (by decide) (hs.1 0 (by decide)).1 (hs.1 0 (by decide)).2.1 ?_
      refine ea_if_eq (pc := 120) (tgt := 198) dX12_rob_120 rfl (fun c34 => ?_) (fun c34 => ?_)
      · have E := (if_pos c34).symm.trans E
        refine ea_iinc (pc := 198) (v := 1) (lv' := [(0, vR (some (b0 + 0))), (3, vI x3), (5, vI x5), (6, vI (x6 + (1 : Int32)))]) dX12_rob_198 3 rfl rfl (Nat.le_of_ble_eq_true rfl) [1, 2, 3, 0] rfl ?_
        refine ea_goto (pc := 201) (tgt := 104) dX12_rob_201 rfl ?_
        exact ((ih 104 0 0 (x3 : Int32) (x5 : Int32) ((x6 + (1 : Int32)) : Int32) h _ _ E hs).2 rfl)
      · have E := (if_neg c34).symm.trans E
        refine ea_aload_n (pc := 123) dX12_rob_123 rfl 0 rfl ?_
        refine ea_getR (pc := 124) dX12_rob_124 ec_12 (k := 87) (Nat.le_of_ble_eq_true rfl) rfl (Or.inl ew_1432) (hs.1 0 (by decide)).1 (hs.1 0 (by decide)).2.1 (hs.2 0 87 rfl) ?_
        refine ea_iload (pc := 127) dX12_rob_127 3 rfl ?_
        obtain ⟨z19, E⟩ := gd_some E
        refine ea_zald (pc := 129) dX12_rob_129 (hs.1 61 (by decide)).1 (hs.1 61 (by decide)).2.1 (ea_vpl (hs.1 61 (by decide)).2.2 z19) ?_
        refine ea_if_ne (pc := 130) (tgt := 136) dX12_rob_130 rfl (fun c33 => ?_) (fun c33 => ?_)
        · have E := (if_neg c33).symm.trans E
          refine ea_aload_n (pc := 136) dX12_rob_136 rfl 0 rfl ?_
          refine ea_getR (pc := 137) dX12_rob_137 ec_12 (k := 105) (Nat.le_of_ble_eq_true rfl) rfl (Or.inl ew_1450) (hs.1 0 (by decide)).1 (hs.1 0 (by decide)).2.1 (hs.2 0 105 rfl) ?_
          refine ea_bipush (pc := 140) dX12_rob_140 (v := 120) rfl ?_
          refine ea_iload (pc := 142) dX12_rob_142 2 rfl ?_
          refine ea_imul (pc := 144) dX12_rob_144 ?_
          refine ea_aload_n (pc := 145) dX12_rob_145 rfl 0 rfl ?_
          refine ea_getR (pc := 146) dX12_rob_146 ec_12 (k := 103) (Nat.le_of_ble_eq_true rfl) rfl (Or.inl ew_1448) (hs.1 0 (by decide)).1 (hs.1 0 (by decide)).2.1 (hs.2 0 103 rfl) ?_
          refine ea_iload (pc := 149) dX12_rob_149 2 rfl ?_
          obtain ⟨z20, E⟩ := gd_some E
          refine ea_iald (pc := 151) dX12_rob_151 (hs.1 75 (by decide)).1 (hs.1 75 (by decide)).2.1 (ea_vpl (hs.1 75 (by decide)).2.2 z20) ?_
          refine ea_iadd (pc := 152) dX12_rob_152 ?_
          refine ea_iload (pc := 153) dX12_rob_153 3 rfl ?_
          obtain ⟨z21, E⟩ := gd_some E
          refine ea_iast (pc := 155) dX12_rob_155 (hs.1 77 (by decide)).1 (hs.1 77 (by decide)).2.1 (ea_vpl (hs.1 77 (by decide)).2.2 z21) ?_
          have hs22 : ShM b0 (ea_wi h (b0 + 77) (Int32.toNatClampNeg (((120 : Int32) * x5) + (ea_i h (b0 + 75) (Int32.toNatClampNeg x5)))) x6) := ShM_wi hs
          refine ea_aload_n (pc := 156) dX12_rob_156 rfl 0 rfl ?_
          refine ea_getR (pc := 157) dX12_rob_157 ec_12 (k := 103) (Nat.le_of_ble_eq_true rfl) rfl (Or.inl ew_1448) (hs22.1 0 (by decide)).1 (hs22.1 0 (by decide)).2.1 (hs22.2 0 103 rfl) ?_
          refine ea_iload (pc := 160) dX12_rob_160 2 rfl ?_
          refine ea_dup2 (pc := 162) dX12_rob_162 rfl rfl ?_
          obtain ⟨z23, E⟩ := gd_some E
          refine ea_iald (pc := 163) dX12_rob_163 (hs22.1 75 (by decide)).1 (hs22.1 75 (by decide)).2.1 (ea_vpl (hs22.1 75 (by decide)).2.2 z23) ?_
          refine ea_iconst (pc := 164) dX12_rob_164 (v := 1) rfl ?_
          refine ea_iadd (pc := 165) dX12_rob_165 ?_
          obtain ⟨z24, E⟩ := gd_some E
          refine ea_iast (pc := 166) dX12_rob_166 (hs22.1 75 (by decide)).1 (hs22.1 75 (by decide)).2.1 (ea_vpl (hs22.1 75 (by decide)).2.2 z24) ?_
          have hs25 : ShM b0 (ea_wi (ea_wi h (b0 + 77) (Int32.toNatClampNeg (((120 : Int32) * x5) + (ea_i h (b0 + 75) (Int32.toNatClampNeg x5)))) x6) (b0 + 75) (Int32.toNatClampNeg x5) ((ea_i (ea_wi h (b0 + 77) (Int32.toNatClampNeg (((120 : Int32) * x5) + (ea_i h (b0 + 75) (Int32.toNatClampNeg x5)))) x6) (b0 + 75) (Int32.toNatClampNeg x5)) + (1 : Int32))) := ShM_wi hs22
          refine ea_aload_n (pc := 167) dX12_rob_167 rfl 0 rfl ?_
          refine ea_getR (pc := 168) dX12_rob_168 ec_12 (k := 104) (Nat.le_of_ble_eq_true rfl) rfl (Or.inl ew_1449) (hs25.1 0 (by decide)).1 (hs25.1 0 (by decide)).2.1 (hs25.2 0 104 rfl) ?_
          refine ea_iload (pc := 171) dX12_rob_171 2 rfl ?_
          refine ea_dup2 (pc := 173) dX12_rob_173 rfl rfl ?_
          obtain ⟨z26, E⟩ := gd_some E
          refine ea_iald (pc := 174) dX12_rob_174 (hs25.1 76 (by decide)).1 (hs25.1 76 (by decide)).2.1 (ea_vpl (hs25.1 76 (by decide)).2.2 z26) ?_
          refine ea_aload_n (pc := 175) dX12_rob_175 rfl 0 rfl ?_
          refine ea_iload (pc := 176) dX12_rob_176 3 rfl ?_
          obtain ⟨z27, E⟩ := gd_some E
          refine ea_callV (pc := 178) (d' := d - 1) (As := [vI x6]) (st := [vI (ea_i (ea_wi (ea_wi h (b0 + 77) (Int32.toNatClampNeg (((120 : Int32) * x5) + (ea_i h (b0 + 75) (Int32.toNatClampNeg x5)))) x6) (b0 + 75) (Int32.toNatClampNeg x5) ((ea_i (ea_wi h (b0 + 77) (Int32.toNatClampNeg (((120 : Int32) * x5) + (ea_i h (b0 + 75) (Int32.toNatClampNeg x5)))) x6) (b0 + 75) (Int32.toNatClampNeg x5)) + (1 : Int32))) (b0 + 76) (Int32.toNatClampNeg x5)), vI x5, vR (some (b0 + 76))]) dX12_rob_178 kX12_owed (sX12_owed (d := d - 1) (by omega) hs25 z27) (by omega) rfl (Nat.le_of_ble_eq_true rfl) ew_2027 ew_2029 ew_90 (ci := 12) rfl (by decide) (hs25.1 0 (by decide)).1 (hs25.1 0 (by decide)).2.1 ?_
          refine ea_iadd (pc := 181) dX12_rob_181 ?_
          obtain ⟨z28, E⟩ := gd_some E
          refine ea_iast (pc := 182) dX12_rob_182 (hs25.1 76 (by decide)).1 (hs25.1 76 (by decide)).2.1 (ea_vpl (hs25.1 76 (by decide)).2.2 z28) ?_
          have hs29 : ShM b0 (ea_wi (ea_wi (ea_wi h (b0 + 77) (Int32.toNatClampNeg (((120 : Int32) * x5) + (ea_i h (b0 + 75) (Int32.toNatClampNeg x5)))) x6) (b0 + 75) (Int32.toNatClampNeg x5) ((ea_i (ea_wi h (b0 + 77) (Int32.toNatClampNeg (((120 : Int32) * x5) + (ea_i h (b0 + 75) (Int32.toNatClampNeg x5)))) x6) (b0 + 75) (Int32.toNatClampNeg x5)) + (1 : Int32))) (b0 + 76) (Int32.toNatClampNeg x5) ((ea_i (ea_wi (ea_wi h (b0 + 77) (Int32.toNatClampNeg (((120 : Int32) * x5) + (ea_i h (b0 + 75) (Int32.toNatClampNeg x5)))) x6) (b0 + 75) (Int32.toNatClampNeg x5) ((ea_i (ea_wi h (b0 + 77) (Int32.toNatClampNeg (((120 : Int32) * x5) + (ea_i h (b0 + 75) (Int32.toNatClampNeg x5)))) x6) (b0 + 75) (Int32.toNatClampNeg x5)) + (1 : Int32))) (b0 + 76) (Int32.toNatClampNeg x5)) + (vX12_owed b0 (x6 : Int32) (ea_wi (ea_wi h (b0 + 77) (Int32.toNatClampNeg (((120 : Int32) * x5) + (ea_i h (b0 + 75) (Int32.toNatClampNeg x5)))) x6) (b0 + 75) (Int32.toNatClampNeg x5) ((ea_i (ea_wi h (b0 + 77) (Int32.toNatClampNeg (((120 : Int32) * x5) + (ea_i h (b0 + 75) (Int32.toNatClampNeg x5)))) x6) (b0 + 75) (Int32.toNatClampNeg x5)) + (1 : Int32)))))) := ShM_wi hs25
          refine ea_aload_n (pc := 183) dX12_rob_183 rfl 0 rfl ?_
          refine ea_iload (pc := 184) dX12_rob_184 3 rfl ?_
          refine ea_aload_n (pc := 186) dX12_rob_186 rfl 0 rfl ?_
          refine ea_getI (pc := 187) dX12_rob_187 ec_12 (k := 0) (Nat.le_of_ble_eq_true rfl) rfl (Or.inl ew_1345) (hs29.1 0 (by decide)).1 (hs29.1 0 (by decide)).2.1 ?_
          refine ea_iconst (pc := 190) dX12_rob_190 (v := 4) rfl ?_
          refine ea_iload_n (pc := 191) dX12_rob_191 rfl 1 rfl ?_
          refine ea_callS (pc := 192) (d' := d - 1) (As := [vI x3]) (st := [vI 4, vI (ea_i (ea_wi (ea_wi (ea_wi h (b0 + 77) (Int32.toNatClampNeg (((120 : Int32) * x5) + (ea_i h (b0 + 75) (Int32.toNatClampNeg x5)))) x6) (b0 + 75) (Int32.toNatClampNeg x5) ((ea_i (ea_wi h (b0 + 77) (Int32.toNatClampNeg (((120 : Int32) * x5) + (ea_i h (b0 + 75) (Int32.toNatClampNeg x5)))) x6) (b0 + 75) (Int32.toNatClampNeg x5)) + (1 : Int32))) (b0 + 76) (Int32.toNatClampNeg x5) ((ea_i (ea_wi (ea_wi h (b0 + 77) (Int32.toNatClampNeg (((120 : Int32) * x5) + (ea_i h (b0 + 75) (Int32.toNatClampNeg x5)))) x6) (b0 + 75) (Int32.toNatClampNeg x5) ((ea_i (ea_wi h (b0 + 77) (Int32.toNatClampNeg (((120 : Int32) * x5) + (ea_i h (b0 + 75) (Int32.toNatClampNeg x5)))) x6) (b0 + 75) (Int32.toNatClampNeg x5)) + (1 : Int32))) (b0 + 76) (Int32.toNatClampNeg x5)) + (vX12_owed b0 (x6 : Int32) (ea_wi (ea_wi h (b0 + 77) (Int32.toNatClampNeg (((120 : Int32) * x5) + (ea_i h (b0 + 75) (Int32.toNatClampNeg x5)))) x6) (b0 + 75) (Int32.toNatClampNeg x5) ((ea_i (ea_wi h (b0 + 77) (Int32.toNatClampNeg (((120 : Int32) * x5) + (ea_i h (b0 + 75) (Int32.toNatClampNeg x5)))) x6) (b0 + 75) (Int32.toNatClampNeg x5)) + (1 : Int32)))))) (b0 + 0) 0), vI x6, vR (some (b0 + 0))]) dX12_rob_192 kX12_code (sX12_code (d := d - 1) (by omega)) (by omega) rfl (Nat.le_of_ble_eq_true rfl) ew_2071 ew_2072 ?_
          obtain ⟨z31, E⟩ := gd_some E
          refine ea_callV (pc := 195) (d' := d - 1) (As := [vI x6, vI (ea_i (ea_wi (ea_wi (ea_wi h (b0 + 77) (Int32.toNatClampNeg (((120 : Int32) * x5) + (ea_i h (b0 + 75) (Int32.toNatClampNeg x5)))) x6) (b0 + 75) (Int32.toNatClampNeg x5) ((ea_i (ea_wi h (b0 + 77) (Int32.toNatClampNeg (((120 : Int32) * x5) + (ea_i h (b0 + 75) (Int32.toNatClampNeg x5)))) x6) (b0 + 75) (Int32.toNatClampNeg x5)) + (1 : Int32))) (b0 + 76) (Int32.toNatClampNeg x5) ((ea_i (ea_wi (ea_wi h (b0 + 77) (Int32.toNatClampNeg (((120 : Int32) * x5) + (ea_i h (b0 + 75) (Int32.toNatClampNeg x5)))) x6) (b0 + 75) (Int32.toNatClampNeg x5) ((ea_i (ea_wi h (b0 + 77) (Int32.toNatClampNeg (((120 : Int32) * x5) + (ea_i h (b0 + 75) (Int32.toNatClampNeg x5)))) x6) (b0 + 75) (Int32.toNatClampNeg x5)) + (1 : Int32))) (b0 + 76) (Int32.toNatClampNeg x5)) + (vX12_owed b0 (x6 : Int32) (ea_wi (ea_wi h (b0 + 77) (Int32.toNatClampNeg (((120 : Int32) * x5) + (ea_i h (b0 + 75) (Int32.toNatClampNeg x5)))) x6) (b0 + 75) (Int32.toNatClampNeg x5) ((ea_i (ea_wi h (b0 + 77) (Int32.toNatClampNeg (((120 : Int32) * x5) + (ea_i h (b0 + 75) (Int32.toNatClampNeg x5)))) x6) (b0 + 75) (Int32.toNatClampNeg x5)) + (1 : Int32)))))) (b0 + 0) 0), vI 4, vI (vX12_code (x3 : Int32) (ea_wi (ea_wi (ea_wi h (b0 + 77) (Int32.toNatClampNeg (((120 : Int32) * x5) + (ea_i h (b0 + 75) (Int32.toNatClampNeg x5)))) x6) (b0 + 75) (Int32.toNatClampNeg x5) ((ea_i (ea_wi h (b0 + 77) (Int32.toNatClampNeg (((120 : Int32) * x5) + (ea_i h (b0 + 75) (Int32.toNatClampNeg x5)))) x6) (b0 + 75) (Int32.toNatClampNeg x5)) + (1 : Int32))) (b0 + 76) (Int32.toNatClampNeg x5) ((ea_i (ea_wi (ea_wi h (b0 + 77) (Int32.toNatClampNeg (((120 : Int32) * x5) + (ea_i h (b0 + 75) (Int32.toNatClampNeg x5)))) x6) (b0 + 75) (Int32.toNatClampNeg x5) ((ea_i (ea_wi h (b0 + 77) (Int32.toNatClampNeg (((120 : Int32) * x5) + (ea_i h (b0 + 75) (Int32.toNatClampNeg x5)))) x6) (b0 + 75) (Int32.toNatClampNeg x5)) + (1 : Int32))) (b0 + 76) (Int32.toNatClampNeg x5)) + (vX12_owed b0 (x6 : Int32) (ea_wi (ea_wi h (b0 + 77) (Int32.toNatClampNeg (((120 : Int32) * x5) + (ea_i h (b0 + 75) (Int32.toNatClampNeg x5)))) x6) (b0 + 75) (Int32.toNatClampNeg x5) ((ea_i (ea_wi h (b0 + 77) (Int32.toNatClampNeg (((120 : Int32) * x5) + (ea_i h (b0 + 75) (Int32.toNatClampNeg x5)))) x6) (b0 + 75) (Int32.toNatClampNeg x5)) + (1 : Int32)))))))]) (st := []) dX12_rob_195 kX12_turns (sX12_turns (d := d - 1) (by omega) hs29 z31) (by omega) rfl (Nat.le_of_ble_eq_true rfl) ew_2011 ew_2013 ew_88 (ci := 12) rfl (by decide) (hs29.1 0 (by decide)).1 (hs29.1 0 (by decide)).2.1 ?_
          have hs32 : ShM b0 (wX12_turns b0 (x6 : Int32) ((ea_i (ea_wi (ea_wi (ea_wi h (b0 + 77) (Int32.toNatClampNeg (((120 : Int32) * x5) + (ea_i h (b0 + 75) (Int32.toNatClampNeg x5)))) x6) (b0 + 75) (Int32.toNatClampNeg x5) ((ea_i (ea_wi h (b0 + 77) (Int32.toNatClampNeg (((120 : Int32) * x5) + (ea_i h (b0 + 75) (Int32.toNatClampNeg x5)))) x6) (b0 + 75) (Int32.toNatClampNeg x5)) + (1 : Int32))) (b0 + 76) (Int32.toNatClampNeg x5) ((ea_i (ea_wi (ea_wi h (b0 + 77) (Int32.toNatClampNeg (((120 : Int32) * x5) + (ea_i h (b0 + 75) (Int32.toNatClampNeg x5)))) x6) (b0 + 75) (Int32.toNatClampNeg x5) ((ea_i (ea_wi h (b0 + 77) (Int32.toNatClampNeg (((120 : Int32) * x5) + (ea_i h (b0 + 75) (Int32.toNatClampNeg x5)))) x6) (b0 + 75) (Int32.toNatClampNeg x5)) + (1 : Int32))) (b0 + 76) (Int32.toNatClampNeg x5)) + (vX12_owed b0 (x6 : Int32) (ea_wi (ea_wi h (b0 + 77) (Int32.toNatClampNeg (((120 : Int32) * x5) + (ea_i h (b0 + 75) (Int32.toNatClampNeg x5)))) x6) (b0 + 75) (Int32.toNatClampNeg x5) ((ea_i (ea_wi h (b0 + 77) (Int32.toNatClampNeg (((120 : Int32) * x5) + (ea_i h (b0 + 75) (Int32.toNatClampNeg x5)))) x6) (b0 + 75) (Int32.toNatClampNeg x5)) + (1 : Int32)))))) (b0 + 0) 0) : Int32) (4 : Int32) ((vX12_code (x3 : Int32) (ea_wi (ea_wi (ea_wi h (b0 + 77) (Int32.toNatClampNeg (((120 : Int32) * x5) + (ea_i h (b0 + 75) (Int32.toNatClampNeg x5)))) x6) (b0 + 75) (Int32.toNatClampNeg x5) ((ea_i (ea_wi h (b0 + 77) (Int32.toNatClampNeg (((120 : Int32) * x5) + (ea_i h (b0 + 75) (Int32.toNatClampNeg x5)))) x6) (b0 + 75) (Int32.toNatClampNeg x5)) + (1 : Int32))) (b0 + 76) (Int32.toNatClampNeg x5) ((ea_i (ea_wi (ea_wi h (b0 + 77) (Int32.toNatClampNeg (((120 : Int32) * x5) + (ea_i h (b0 + 75) (Int32.toNatClampNeg x5)))) x6) (b0 + 75) (Int32.toNatClampNeg x5) ((ea_i (ea_wi h (b0 + 77) (Int32.toNatClampNeg (((120 : Int32) * x5) + (ea_i h (b0 + 75) (Int32.toNatClampNeg x5)))) x6) (b0 + 75) (Int32.toNatClampNeg x5)) + (1 : Int32))) (b0 + 76) (Int32.toNatClampNeg x5)) + (vX12_owed b0 (x6 : Int32) (ea_wi (ea_wi h (b0 + 77) (Int32.toNatClampNeg (((120 : Int32) * x5) + (ea_i h (b0 + 75) (Int32.toNatClampNeg x5)))) x6) (b0 + 75) (Int32.toNatClampNeg x5) ((ea_i (ea_wi h (b0 + 77) (Int32.toNatClampNeg (((120 : Int32) * x5) + (ea_i h (b0 + 75) (Int32.toNatClampNeg x5)))) x6) (b0 + 75) (Int32.toNatClampNeg x5)) + (1 : Int32))))))) : Int32) (ea_wi (ea_wi (ea_wi h (b0 + 77) (Int32.toNatClampNeg (((120 : Int32) * x5) + (ea_i h (b0 + 75) (Int32.toNatClampNeg x5)))) x6) (b0 + 75) (Int32.toNatClampNeg x5) ((ea_i (ea_wi h (b0 + 77) (Int32.toNatClampNeg (((120 : Int32) * x5) + (ea_i h (b0 + 75) (Int32.toNatClampNeg x5)))) x6) (b0 + 75) (Int32.toNatClampNeg x5)) + (1 : Int32))) (b0 + 76) (Int32.toNatClampNeg x5) ((ea_i (ea_wi (ea_wi h (b0 + 77) (Int32.toNatClampNeg (((120 : Int32) * x5) + (ea_i h (b0 + 75) (Int32.toNatClampNeg x5)))) x6) (b0 + 75) (Int32.toNatClampNeg x5) ((ea_i (ea_wi h (b0 + 77) (Int32.toNatClampNeg (((120 : Int32) * x5) + (ea_i h (b0 + 75) (Int32.toNatClampNeg x5)))) x6) (b0 + 75) (Int32.toNatClampNeg x5)) + (1 : Int32))) (b0 + 76) (Int32.toNatClampNeg x5)) + (vX12_owed b0 (x6 : Int32) (ea_wi (ea_wi h (b0 + 77) (Int32.toNatClampNeg (((120 : Int32) * x5) + (ea_i h (b0 + 75) (Int32.toNatClampNeg x5)))) x6) (b0 + 75) (Int32.toNatClampNeg x5) ((ea_i (ea_wi h (b0 + 77) (Int32.toNatClampNeg (((120 : Int32) * x5) + (ea_i h (b0 + 75) (Int32.toNatClampNeg x5)))) x6) (b0 + 75) (Int32.toNatClampNeg x5)) + (1 : Int32))))))) := shX12_turns hs29
          refine ea_iinc (pc := 198) (v := 1) (lv' := [(0, vR (some (b0 + 0))), (3, vI x3), (5, vI x5), (6, vI (x6 + (1 : Int32)))]) dX12_rob_198 3 rfl rfl (Nat.le_of_ble_eq_true rfl) [1, 2, 3, 0] rfl ?_
          refine ea_goto (pc := 201) (tgt := 104) dX12_rob_201 rfl ?_
          exact ((ih 104 0 0 (x3 : Int32) (x5 : Int32) ((x6 + (1 : Int32)) : Int32) (wX12_turns b0 (x6 : Int32) ((ea_i (ea_wi (ea_wi (ea_wi h (b0 + 77) (Int32.toNatClampNeg (((120 : Int32) * x5) + (ea_i h (b0 + 75) (Int32.toNatClampNeg x5)))) x6) (b0 + 75) (Int32.toNatClampNeg x5) ((ea_i (ea_wi h (b0 + 77) (Int32.toNatClampNeg (((120 : Int32) * x5) + (ea_i h (b0 + 75) (Int32.toNatClampNeg x5)))) x6) (b0 + 75) (Int32.toNatClampNeg x5)) + (1 : Int32))) (b0 + 76) (Int32.toNatClampNeg x5) ((ea_i (ea_wi (ea_wi h (b0 + 77) (Int32.toNatClampNeg (((120 : Int32) * x5) + (ea_i h (b0 + 75) (Int32.toNatClampNeg x5)))) x6) (b0 + 75) (Int32.toNatClampNeg x5) ((ea_i (ea_wi h (b0 + 77) (Int32.toNatClampNeg (((120 : Int32) * x5) + (ea_i h (b0 + 75) (Int32.toNatClampNeg x5)))) x6) (b0 + 75) (Int32.toNatClampNeg x5)) + (1 : Int32))) (b0 + 76) (Int32.toNatClampNeg x5)) + (vX12_owed b0 (x6 : Int32) (ea_wi (ea_wi h (b0 + 77) (Int32.toNatClampNeg (((120 : Int32) * x5) + (ea_i h (b0 + 75) (Int32.toNatClampNeg x5)))) x6) (b0 + 75) (Int32.toNatClampNeg x5) ((ea_i (ea_wi h (b0 + 77) (Int32.toNatClampNeg (((120 : Int32) * x5) + (ea_i h (b0 + 75) (Int32.toNatClampNeg x5)))) x6) (b0 + 75) (Int32.toNatClampNeg x5)) + (1 : Int32)))))) (b0 + 0) 0) : Int32) (4 : Int32) ((vX12_code (x3 : Int32) (ea_wi (ea_wi (ea_wi h (b0 + 77) (Int32.toNatClampNeg (((120 : Int32) * x5) + (ea_i h (b0 + 75) (Int32.toNatClampNeg x5)))) x6) (b0 + 75) (Int32.toNatClampNeg x5) ((ea_i (ea_wi h (b0 + 77) (Int32.toNatClampNeg (((120 : Int32) * x5) + (ea_i h (b0 + 75) (Int32.toNatClampNeg x5)))) x6) (b0 + 75) (Int32.toNatClampNeg x5)) + (1 : Int32))) (b0 + 76) (Int32.toNatClampNeg x5) ((ea_i (ea_wi (ea_wi h (b0 + 77) (Int32.toNatClampNeg (((120 : Int32) * x5) + (ea_i h (b0 + 75) (Int32.toNatClampNeg x5)))) x6) (b0 + 75) (Int32.toNatClampNeg x5) ((ea_i (ea_wi h (b0 + 77) (Int32.toNatClampNeg (((120 : Int32) * x5) + (ea_i h (b0 + 75) (Int32.toNatClampNeg x5)))) x6) (b0 + 75) (Int32.toNatClampNeg x5)) + (1 : Int32))) (b0 + 76) (Int32.toNatClampNeg x5)) + (vX12_owed b0 (x6 : Int32) (ea_wi (ea_wi h (b0 + 77) (Int32.toNatClampNeg (((120 : Int32) * x5) + (ea_i h (b0 + 75) (Int32.toNatClampNeg x5)))) x6) (b0 + 75) (Int32.toNatClampNeg x5) ((ea_i (ea_wi h (b0 + 77) (Int32.toNatClampNeg (((120 : Int32) * x5) + (ea_i h (b0 + 75) (Int32.toNatClampNeg x5)))) x6) (b0 + 75) (Int32.toNatClampNeg x5)) + (1 : Int32))))))) : Int32) (ea_wi (ea_wi (ea_wi h (b0 + 77) (Int32.toNatClampNeg (((120 : Int32) * x5) + (ea_i h (b0 + 75) (Int32.toNatClampNeg x5)))) x6) (b0 + 75) (Int32.toNatClampNeg x5) ((ea_i (ea_wi h (b0 + 77) (Int32.toNatClampNeg (((120 : Int32) * x5) + (ea_i h (b0 + 75) (Int32.toNatClampNeg x5)))) x6) (b0 + 75) (Int32.toNatClampNeg x5)) + (1 : Int32))) (b0 + 76) (Int32.toNatClampNeg x5) ((ea_i (ea_wi (ea_wi h (b0 + 77) (Int32.toNatClampNeg (((120 : Int32) * x5) + (ea_i h (b0 + 75) (Int32.toNatClampNeg x5)))) x6) (b0 + 75) (Int32.toNatClampNeg x5) ((ea_i (ea_wi h (b0 + 77) (Int32.toNatClampNeg (((120 : Int32) * x5) + (ea_i h (b0 + 75) (Int32.toNatClampNeg x5)))) x6) (b0 + 75) (Int32.toNatClampNeg x5)) + (1 : Int32))) (b0 + 76) (Int32.toNatClampNeg x5)) + (vX12_owed b0 (x6 : Int32) (ea_wi (ea_wi h (b0 + 77) (Int32.toNatClampNeg (((120 : Int32) * x5) + (ea_i h (b0 + 75) (Int32.toNatClampNeg x5)))) x6) (b0 + 75) (Int32.toNatClampNeg x5) ((ea_i (ea_wi h (b0 + 77) (Int32.toNatClampNeg (((120 : Int32) * x5) + (ea_i h (b0 + 75) (Int32.toNatClampNeg x5)))) x6) (b0 + 75) (Int32.toNatClampNeg x5)) + (1 : Int32))))))) _ _ E hs32).2 rfl)
        · have E := (if_pos c33).symm.trans E
          refine ea_goto (pc := 133) (tgt := 198) dX12_rob_133 rfl ?_
          refine ea_iinc (pc := 198) (v := 1) (lv' := [(0, vR (some (b0 + 0))), (3, vI x3), (5, vI x5), (6, vI (x6 + (1 : Int32)))]) dX12_rob_198 3 rfl rfl (Nat.le_of_ble_eq_true rfl) [1, 2, 3, 0] rfl ?_
          refine ea_goto (pc := 201) (tgt := 104) dX12_rob_201 rfl ?_
          exact ((ih 104 0 0 (x3 : Int32) (x5 : Int32) ((x6 + (1 : Int32)) : Int32) h _ _ E hs).2 rfl)
noncomputable def qX12_rob (b0 : Nat) (x1 : Int32) (x2 : Int32) (h : ea_H) : Option (Int32 × ea_H) := gX12_rob b0 1000000000 0 x1 x2 0 0 0 h
def okX12_rob (b0 : Nat) (x1 : Int32) (x2 : Int32) (h : ea_H) : Prop := ∃ x, qX12_rob b0 x1 x2 h = some x
noncomputable def vX12_rob (b0 : Nat) (x1 : Int32) (x2 : Int32) (h : ea_H) : Int32 := ((qX12_rob b0 x1 x2 h).getD (0, h)).1
noncomputable def wX12_rob (b0 : Nat) (x1 : Int32) (x2 : Int32) (h : ea_H) : ea_H := ((qX12_rob b0 x1 x2 h).getD (0, h)).2
theorem sX12_rob {d : Nat} {b0 : Nat} {x1 : Int32} {x2 : Int32} {h : ea_H} (hd : 3 ≤ d) (hs : ShM b0 h) (K : okX12_rob b0 x1 x2 h) : ea_Met mX12_rob d [vR (some (b0 + 0)), vI x1, vI x2] h (some (vI (vX12_rob b0 x1 x2 h))) (wX12_rob b0 x1 x2 h) := by
  obtain ⟨⟨x, y⟩, K⟩ := K
  unfold wX12_rob vX12_rob
  rw [K]
  unfold qX12_rob at K
  exact ea_enter rfl (Nat.le_of_ble_eq_true rfl) ((tX12_rob hd 1000000000 0 x1 x2 0 0 0 h x y K hs).1 rfl)
theorem zX12_rob {b0 : Nat} : ∀ (f lbl : Nat) (x1 : Int32) (x2 : Int32) (x3 : Int32) (x5 : Int32) (x6 : Int32) (h : ea_H) (r : Int32) (h' : ea_H), gX12_rob b0 f lbl x1 x2 x3 x5 x6 h = some (r, h') → ShM b0 h → ShM b0 h' := by
  intro f
  induction f with
  | zero => intro lbl x1 x2 x3 x5 x6 h r h' E; cases E
  | succ f ih =>
    intro lbl x1 x2 x3 x5 x6 h r h' E hs
    unfold gX12_rob at E
    by_cases el0 : lbl = 0
    · have E := (if_pos el0).symm.trans E
      by_cases c17 : (vX12_isTrain b0 (x1 : Int32) h) = (0 : Int32)
      · have E := (if_pos c17).symm.trans E
        cases E
        exact hs
      have E := (if_neg c17).symm.trans E
      by_cases c16 : (vX12_isDay (x2 : Int32) h) = (0 : Int32)
      · have E := (if_pos c16).symm.trans E
        cases E
        exact hs
      have E := (if_neg c16).symm.trans E
      by_cases c15 : (ea_i h (b0 + 0) 100) = (20 : Int32)
      · have E := (if_pos c15).symm.trans E
        cases E
        exact hs
      have E := (if_neg c15).symm.trans E
      obtain ⟨z4, E⟩ := gd_some E
      by_cases c14 : (vX12_gone b0 ((vX12_run (x1 : Int32) (x2 : Int32) h) : Int32) h) = ((-1) : Int32)
      · have E := (if_pos c14).symm.trans E
        cases E
        exact (shX12_gone hs)
      have E := (if_neg c14).symm.trans E
      obtain ⟨z6, E⟩ := gd_some E
      by_cases c13 : (ea_i (wX12_gone b0 ((vX12_run (x1 : Int32) (x2 : Int32) h) : Int32) h) (b0 + 0) 0) < (vX12_comesAt b0 ((vX12_run (x1 : Int32) (x2 : Int32) h) : Int32) (((vX12_gone b0 ((vX12_run (x1 : Int32) (x2 : Int32) h) : Int32) h) + (1 : Int32)) : Int32) (wX12_gone b0 ((vX12_run (x1 : Int32) (x2 : Int32) h) : Int32) h))
      · have E := (if_pos c13).symm.trans E
        obtain ⟨z9, E⟩ := gd_some E
        obtain ⟨z11, E⟩ := gd_some E
        exact ih 104 0 0 ((vX12_run (x1 : Int32) (x2 : Int32) h) : Int32) ((ea_i (wX12_gone b0 ((vX12_run (x1 : Int32) (x2 : Int32) h) : Int32) h) (b0 + 0) 100) : Int32) (0 : Int32) (ea_wi (ea_wi (ea_wi (wX12_gone b0 ((vX12_run (x1 : Int32) (x2 : Int32) h) : Int32) h) (b0 + 0) 100 ((ea_i (wX12_gone b0 ((vX12_run (x1 : Int32) (x2 : Int32) h) : Int32) h) (b0 + 0) 100) + (1 : Int32))) (b0 + 73) (Int32.toNatClampNeg (ea_i (wX12_gone b0 ((vX12_run (x1 : Int32) (x2 : Int32) h) : Int32) h) (b0 + 0) 100)) (vX12_code ((vX12_run (x1 : Int32) (x2 : Int32) h) : Int32) (ea_wi (wX12_gone b0 ((vX12_run (x1 : Int32) (x2 : Int32) h) : Int32) h) (b0 + 0) 100 ((ea_i (wX12_gone b0 ((vX12_run (x1 : Int32) (x2 : Int32) h) : Int32) h) (b0 + 0) 100) + (1 : Int32))))) (b0 + 74) (Int32.toNatClampNeg (ea_i (wX12_gone b0 ((vX12_run (x1 : Int32) (x2 : Int32) h) : Int32) h) (b0 + 0) 100)) (ea_i (ea_wi (ea_wi (wX12_gone b0 ((vX12_run (x1 : Int32) (x2 : Int32) h) : Int32) h) (b0 + 0) 100 ((ea_i (wX12_gone b0 ((vX12_run (x1 : Int32) (x2 : Int32) h) : Int32) h) (b0 + 0) 100) + (1 : Int32))) (b0 + 73) (Int32.toNatClampNeg (ea_i (wX12_gone b0 ((vX12_run (x1 : Int32) (x2 : Int32) h) : Int32) h) (b0 + 0) 100)) (vX12_code ((vX12_run (x1 : Int32) (x2 : Int32) h) : Int32) (ea_wi (wX12_gone b0 ((vX12_run (x1 : Int32) (x2 : Int32) h) : Int32) h) (b0 + 0) 100 ((ea_i (wX12_gone b0 ((vX12_run (x1 : Int32) (x2 : Int32) h) : Int32) h) (b0 + 0) 100) + (1 : Int32))))) (b0 + 0) 0)) _ _ E (ShM_wi (ShM_wi (ShM_wi (shX12_gone hs))))
      have E := (if_neg c13).symm.trans E
      cases E
      exact (shX12_gone hs)
    have E := (if_neg el0).symm.trans E
    by_cases el1 : lbl = 104
    · have E := (if_pos el1).symm.trans E
      by_cases c35 : (ea_i h (b0 + 0) 63) ≤ x6
      · have E := (if_pos c35).symm.trans E
        cases E
        exact hs
      have E := (if_neg c35).symm.trans E
      obtain ⟨z18, E⟩ := gd_some E
      by_cases c34 : (vX12_isAboard b0 (x6 : Int32) (x3 : Int32) h) = (0 : Int32)
      · have E := (if_pos c34).symm.trans E
        exact ih 104 0 0 (x3 : Int32) (x5 : Int32) ((x6 + (1 : Int32)) : Int32) h _ _ E hs
      have E := (if_neg c34).symm.trans E
      obtain ⟨z19, E⟩ := gd_some E
      by_cases c33 : (ea_i h (b0 + 61) (Int32.toNatClampNeg x6)) = (0 : Int32)
      · have E := (if_pos c33).symm.trans E
        exact ih 104 0 0 (x3 : Int32) (x5 : Int32) ((x6 + (1 : Int32)) : Int32) h _ _ E hs
      have E := (if_neg c33).symm.trans E
      obtain ⟨z20, E⟩ := gd_some E
      obtain ⟨z21, E⟩ := gd_some E
      obtain ⟨z23, E⟩ := gd_some E
      obtain ⟨z24, E⟩ := gd_some E
      obtain ⟨z26, E⟩ := gd_some E
      obtain ⟨z27, E⟩ := gd_some E
      obtain ⟨z28, E⟩ := gd_some E
      obtain ⟨z31, E⟩ := gd_some E
      exact ih 104 0 0 (x3 : Int32) (x5 : Int32) ((x6 + (1 : Int32)) : Int32) (wX12_turns b0 (x6 : Int32) ((ea_i (ea_wi (ea_wi (ea_wi h (b0 + 77) (Int32.toNatClampNeg (((120 : Int32) * x5) + (ea_i h (b0 + 75) (Int32.toNatClampNeg x5)))) x6) (b0 + 75) (Int32.toNatClampNeg x5) ((ea_i (ea_wi h (b0 + 77) (Int32.toNatClampNeg (((120 : Int32) * x5) + (ea_i h (b0 + 75) (Int32.toNatClampNeg x5)))) x6) (b0 + 75) (Int32.toNatClampNeg x5)) + (1 : Int32))) (b0 + 76) (Int32.toNatClampNeg x5) ((ea_i (ea_wi (ea_wi h (b0 + 77) (Int32.toNatClampNeg (((120 : Int32) * x5) + (ea_i h (b0 + 75) (Int32.toNatClampNeg x5)))) x6) (b0 + 75) (Int32.toNatClampNeg x5) ((ea_i (ea_wi h (b0 + 77) (Int32.toNatClampNeg (((120 : Int32) * x5) + (ea_i h (b0 + 75) (Int32.toNatClampNeg x5)))) x6) (b0 + 75) (Int32.toNatClampNeg x5)) + (1 : Int32))) (b0 + 76) (Int32.toNatClampNeg x5)) + (vX12_owed b0 (x6 : Int32) (ea_wi (ea_wi h (b0 + 77) (Int32.toNatClampNeg (((120 : Int32) * x5) + (ea_i h (b0 + 75) (Int32.toNatClampNeg x5)))) x6) (b0 + 75) (Int32.toNatClampNeg x5) ((ea_i (ea_wi h (b0 + 77) (Int32.toNatClampNeg (((120 : Int32) * x5) + (ea_i h (b0 + 75) (Int32.toNatClampNeg x5)))) x6) (b0 + 75) (Int32.toNatClampNeg x5)) + (1 : Int32)))))) (b0 + 0) 0) : Int32) (4 : Int32) ((vX12_code (x3 : Int32) (ea_wi (ea_wi (ea_wi h (b0 + 77) (Int32.toNatClampNeg (((120 : Int32) * x5) + (ea_i h (b0 + 75) (Int32.toNatClampNeg x5)))) x6) (b0 + 75) (Int32.toNatClampNeg x5) ((ea_i (ea_wi h (b0 + 77) (Int32.toNatClampNeg (((120 : Int32) * x5) + (ea_i h (b0 + 75) (Int32.toNatClampNeg x5)))) x6) (b0 + 75) (Int32.toNatClampNeg x5)) + (1 : Int32))) (b0 + 76) (Int32.toNatClampNeg x5) ((ea_i (ea_wi (ea_wi h (b0 + 77) (Int32.toNatClampNeg (((120 : Int32) * x5) + (ea_i h (b0 + 75) (Int32.toNatClampNeg x5)))) x6) (b0 + 75) (Int32.toNatClampNeg x5) ((ea_i (ea_wi h (b0 + 77) (Int32.toNatClampNeg (((120 : Int32) * x5) + (ea_i h (b0 + 75) (Int32.toNatClampNeg x5)))) x6) (b0 + 75) (Int32.toNatClampNeg x5)) + (1 : Int32))) (b0 + 76) (Int32.toNatClampNeg x5)) + (vX12_owed b0 (x6 : Int32) (ea_wi (ea_wi h (b0 + 77) (Int32.toNatClampNeg (((120 : Int32) * x5) + (ea_i h (b0 + 75) (Int32.toNatClampNeg x5)))) x6) (b0 + 75) (Int32.toNatClampNeg x5) ((ea_i (ea_wi h (b0 + 77) (Int32.toNatClampNeg (((120 : Int32) * x5) + (ea_i h (b0 + 75) (Int32.toNatClampNeg x5)))) x6) (b0 + 75) (Int32.toNatClampNeg x5)) + (1 : Int32))))))) : Int32) (ea_wi (ea_wi (ea_wi h (b0 + 77) (Int32.toNatClampNeg (((120 : Int32) * x5) + (ea_i h (b0 + 75) (Int32.toNatClampNeg x5)))) x6) (b0 + 75) (Int32.toNatClampNeg x5) ((ea_i (ea_wi h (b0 + 77) (Int32.toNatClampNeg (((120 : Int32) * x5) + (ea_i h (b0 + 75) (Int32.toNatClampNeg x5)))) x6) (b0 + 75) (Int32.toNatClampNeg x5)) + (1 : Int32))) (b0 + 76) (Int32.toNatClampNeg x5) ((ea_i (ea_wi (ea_wi h (b0 + 77) (Int32.toNatClampNeg (((120 : Int32) * x5) + (ea_i h (b0 + 75) (Int32.toNatClampNeg x5)))) x6) (b0 + 75) (Int32.toNatClampNeg x5) ((ea_i (ea_wi h (b0 + 77) (Int32.toNatClampNeg (((120 : Int32) * x5) + (ea_i h (b0 + 75) (Int32.toNatClampNeg x5)))) x6) (b0 + 75) (Int32.toNatClampNeg x5)) + (1 : Int32))) (b0 + 76) (Int32.toNatClampNeg x5)) + (vX12_owed b0 (x6 : Int32) (ea_wi (ea_wi h (b0 + 77) (Int32.toNatClampNeg (((120 : Int32) * x5) + (ea_i h (b0 + 75) (Int32.toNatClampNeg x5)))) x6) (b0 + 75) (Int32.toNatClampNeg x5) ((ea_i (ea_wi h (b0 + 77) (Int32.toNatClampNeg (((120 : Int32) * x5) + (ea_i h (b0 + 75) (Int32.toNatClampNeg x5)))) x6) (b0 + 75) (Int32.toNatClampNeg x5)) + (1 : Int32))))))) _ _ E (shX12_turns (ShM_wi (ShM_wi (ShM_wi hs))))
    have E := (if_neg el1).symm.trans E
    cases E
theorem shX12_rob {b0 : Nat} {x1 : Int32} {x2 : Int32} {h : ea_H} (hs : ShM b0 h) : ShM b0 (wX12_rob b0 x1 x2 h) := by
  unfold wX12_rob
  cases K : qX12_rob b0 x1 x2 h with
  | none => exact hs
  | some x => obtain ⟨x, y⟩ := x; unfold qX12_rob at K; exact zX12_rob _ _ _ _ _ _ _ _ _ _ K hs
noncomputable def vX12_robbery (b0 : Nat) (x1 : Int32) (x2 : Int32) (h : ea_H) : Int32 := (if (vX12_isIn (x1 : Int32) (0 : Int32) (((ea_i h (b0 + 0) 100) - (1 : Int32)) : Int32) h) = (0 : Int32) then ((-1) : Int32) else (if Int32.toInt x2 = 0 then (ea_i h (b0 + 73) (Int32.toNatClampNeg x1)) else (if Int32.toInt x2 = 1 then (ea_i h (b0 + 74) (Int32.toNatClampNeg x1)) else (if Int32.toInt x2 = 2 then (ea_i h (b0 + 75) (Int32.toNatClampNeg x1)) else (if Int32.toInt x2 = 3 then (ea_i h (b0 + 76) (Int32.toNatClampNeg x1)) else (if (vX12_isIn (x2 : Int32) (10 : Int32) (((9 : Int32) + (ea_i h (b0 + 75) (Int32.toNatClampNeg x1))) : Int32) h) = (0 : Int32) then ((-1) : Int32) else (ea_i h (b0 + 77) (Int32.toNatClampNeg ((((120 : Int32) * x1) + x2) - (10 : Int32))))))))))
def okX12_robbery (b0 : Nat) (x1 : Int32) (x2 : Int32) (h : ea_H) : Prop := ((vX12_isIn (x1 : Int32) (0 : Int32) (((ea_i h (b0 + 0) 100) - (1 : Int32)) : Int32) h) = (0 : Int32) → True) ∧ (¬ (vX12_isIn (x1 : Int32) (0 : Int32) (((ea_i h (b0 + 0) 100) - (1 : Int32)) : Int32) h) = (0 : Int32) → (Int32.toInt x2 = 0 → vp_in x1 20) ∧ (¬ Int32.toInt x2 = 0 → (Int32.toInt x2 = 1 → vp_in x1 20) ∧ (¬ Int32.toInt x2 = 1 → (Int32.toInt x2 = 2 → vp_in x1 20) ∧ (¬ Int32.toInt x2 = 2 → (Int32.toInt x2 = 3 → vp_in x1 20) ∧ (¬ Int32.toInt x2 = 3 → vp_in x1 20 ∧ (((vX12_isIn (x2 : Int32) (10 : Int32) (((9 : Int32) + (ea_i h (b0 + 75) (Int32.toNatClampNeg x1))) : Int32) h) = (0 : Int32) → True) ∧ (¬ (vX12_isIn (x2 : Int32) (10 : Int32) (((9 : Int32) + (ea_i h (b0 + 75) (Int32.toNatClampNeg x1))) : Int32) h) = (0 : Int32) → vp_in ((((120 : Int32) * x1) + x2) - (10 : Int32)) 2400)))))))
theorem sX12_robbery {d : Nat} {b0 : Nat} {x1 : Int32} {x2 : Int32} {h : ea_H} (hd : 2 ≤ d) (hs : ShM b0 h) (K : okX12_robbery b0 x1 x2 h) : ea_Met mX12_robbery d [vR (some (b0 + 0)), vI x1, vI x2] h (some (vI (vX12_robbery b0 x1 x2 h))) h := by
  obtain ⟨X, EX⟩ : ∃ z, z = vX12_robbery b0 x1 x2 h := ⟨_, rfl⟩
  rw [← EX]
  unfold vX12_robbery at EX
  unfold okX12_robbery at K
  refine ea_enter rfl (Nat.le_of_ble_eq_true rfl) ?_
  refine ea_iload_n (pc := 0) dX12_robbery_0 rfl 1 rfl ?_
  refine ea_iconst (pc := 1) dX12_robbery_1 (v := 0) rfl ?_
  refine ea_aload_n (pc := 2) dX12_robbery_2 rfl 0 rfl ?_
  refine ea_getI (pc := 3) dX12_robbery_3 ec_12 (k := 100) (Nat.le_of_ble_eq_true rfl) rfl (Or.inl ew_1445) (hs.1 0 (by decide)).1 (hs.1 0 (by decide)).2.1 ?_
  refine ea_iconst (pc := 6) dX12_robbery_6 (v := 1) rfl ?_
  refine ea_isub (pc := 7) dX12_robbery_7 ?_
  refine ea_callS (pc := 8) (d' := d - 1) (As := [vI x1, vI 0, vI ((ea_i h (b0 + 0) 100) - (1 : Int32))]) (st := []) dX12_robbery_8 kX12_isIn (sX12_isIn (d := d - 1) (by omega)) (by omega) rfl (Nat.le_of_ble_eq_true rfl) ew_1712 ew_1713 ?_
  refine ea_if_ne (pc := 11) (tgt := 16) dX12_robbery_11 rfl (fun c10 => ?_) (fun c10 => ?_)
  · have EX := EX.trans (if_neg c10)
    have K := K.2 c10
    refine ea_iload_n (pc := 16) dX12_robbery_16 rfl 2 rfl ?_
    by_cases qc17_0 : Int32.toInt x2 = 0
    · have EX := EX.trans (if_pos qc17_0)
      have K := K.1 qc17_0
      refine ea_tswIn (pc := 17) (tgt := 48) dX12_robbery_17 (by rw [qc17_0]; decide) (by rw [qc17_0]; decide) (by rw [qc17_0]; rfl) rfl ?_
      refine ea_aload_n (pc := 48) dX12_robbery_48 rfl 0 rfl ?_
      refine ea_getR (pc := 49) dX12_robbery_49 ec_12 (k := 101) (Nat.le_of_ble_eq_true rfl) rfl (Or.inl ew_1446) (hs.1 0 (by decide)).1 (hs.1 0 (by decide)).2.1 (hs.2 0 101 rfl) ?_
      refine ea_iload_n (pc := 52) dX12_robbery_52 rfl 1 rfl ?_
      have z6 := K
      refine ea_iald (pc := 53) dX12_robbery_53 (hs.1 73 (by decide)).1 (hs.1 73 (by decide)).2.1 (ea_vpl (hs.1 73 (by decide)).2.2 z6) ?_
      subst EX
      exact ea_ireturn (pc := 54) dX12_robbery_54 rfl rfl
    have EX := EX.trans (if_neg qc17_0)
    have K := K.2 qc17_0
    by_cases qc17_1 : Int32.toInt x2 = 1
    · have EX := EX.trans (if_pos qc17_1)
      have K := K.1 qc17_1
      refine ea_tswIn (pc := 17) (tgt := 55) dX12_robbery_17 (by rw [qc17_1]; decide) (by rw [qc17_1]; decide) (by rw [qc17_1]; rfl) rfl ?_
      refine ea_aload_n (pc := 55) dX12_robbery_55 rfl 0 rfl ?_
      refine ea_getR (pc := 56) dX12_robbery_56 ec_12 (k := 102) (Nat.le_of_ble_eq_true rfl) rfl (Or.inl ew_1447) (hs.1 0 (by decide)).1 (hs.1 0 (by decide)).2.1 (hs.2 0 102 rfl) ?_
      refine ea_iload_n (pc := 59) dX12_robbery_59 rfl 1 rfl ?_
      have z7 := K
      refine ea_iald (pc := 60) dX12_robbery_60 (hs.1 74 (by decide)).1 (hs.1 74 (by decide)).2.1 (ea_vpl (hs.1 74 (by decide)).2.2 z7) ?_
      subst EX
      exact ea_ireturn (pc := 61) dX12_robbery_61 rfl rfl
    have EX := EX.trans (if_neg qc17_1)
    have K := K.2 qc17_1
    by_cases qc17_2 : Int32.toInt x2 = 2
    · have EX := EX.trans (if_pos qc17_2)
      have K := K.1 qc17_2
      refine ea_tswIn (pc := 17) (tgt := 62) dX12_robbery_17 (by rw [qc17_2]; decide) (by rw [qc17_2]; decide) (by rw [qc17_2]; rfl) rfl ?_
      refine ea_aload_n (pc := 62) dX12_robbery_62 rfl 0 rfl ?_
      refine ea_getR (pc := 63) dX12_robbery_63 ec_12 (k := 103) (Nat.le_of_ble_eq_true rfl) rfl (Or.inl ew_1448) (hs.1 0 (by decide)).1 (hs.1 0 (by decide)).2.1 (hs.2 0 103 rfl) ?_
      refine ea_iload_n (pc := 66) dX12_robbery_66 rfl 1 rfl ?_
      have z8 := K
      refine ea_iald (pc := 67) dX12_robbery_67 (hs.1 75 (by decide)).1 (hs.1 75 (by decide)).2.1 (ea_vpl (hs.1 75 (by decide)).2.2 z8) ?_
      subst EX
      exact ea_ireturn (pc := 68) dX12_robbery_68 rfl rfl
    have EX := EX.trans (if_neg qc17_2)
    have K := K.2 qc17_2
    by_cases qc17_3 : Int32.toInt x2 = 3
    · have EX := EX.trans (if_pos qc17_3)
      have K := K.1 qc17_3
      refine ea_tswIn (pc := 17) (tgt := 69) dX12_robbery_17 (by rw [qc17_3]; decide) (by rw [qc17_3]; decide) (by rw [qc17_3]; rfl) rfl ?_
      refine ea_aload_n (pc := 69) dX12_robbery_69 rfl 0 rfl ?_
      refine ea_getR (pc := 70) dX12_robbery_70 ec_12 (k := 104) (Nat.le_of_ble_eq_true rfl) rfl (Or.inl ew_1449) (hs.1 0 (by decide)).1 (hs.1 0 (by decide)).2.1 (hs.2 0 104 rfl) ?_
      refine ea_iload_n (pc := 73) dX12_robbery_73 rfl 1 rfl ?_
      have z9 := K
      refine ea_iald (pc := 74) dX12_robbery_74 (hs.1 76 (by decide)).1 (hs.1 76 (by decide)).2.1 (ea_vpl (hs.1 76 (by decide)).2.2 z9) ?_
      subst EX
      exact ea_ireturn (pc := 75) dX12_robbery_75 rfl rfl
    have EX := EX.trans (if_neg qc17_3)
    have K := K.2 qc17_3
    refine ea_tswOut (pc := 17) (tgt := 76) dX12_robbery_17 (ea_sw_0_3 qc17_0 qc17_1 qc17_2 qc17_3) rfl ?_
    refine ea_iload_n (pc := 76) dX12_robbery_76 rfl 2 rfl ?_
    refine ea_bipush (pc := 77) dX12_robbery_77 (v := 10) rfl ?_
    refine ea_bipush (pc := 79) dX12_robbery_79 (v := 9) rfl ?_
    refine ea_aload_n (pc := 81) dX12_robbery_81 rfl 0 rfl ?_
    refine ea_getR (pc := 82) dX12_robbery_82 ec_12 (k := 103) (Nat.le_of_ble_eq_true rfl) rfl (Or.inl ew_1448) (hs.1 0 (by decide)).1 (hs.1 0 (by decide)).2.1 (hs.2 0 103 rfl) ?_
    refine ea_iload_n (pc := 85) dX12_robbery_85 rfl 1 rfl ?_
    obtain ⟨z2, K⟩ := K
    refine ea_iald (pc := 86) dX12_robbery_86 (hs.1 75 (by decide)).1 (hs.1 75 (by decide)).2.1 (ea_vpl (hs.1 75 (by decide)).2.2 z2) ?_
    refine ea_iadd (pc := 87) dX12_robbery_87 ?_
    refine ea_callS (pc := 88) (d' := d - 1) (As := [vI x2, vI 10, vI ((9 : Int32) + (ea_i h (b0 + 75) (Int32.toNatClampNeg x1)))]) (st := []) dX12_robbery_88 kX12_isIn (sX12_isIn (d := d - 1) (by omega)) (by omega) rfl (Nat.le_of_ble_eq_true rfl) ew_1712 ew_1713 ?_
    refine ea_if_eq (pc := 91) (tgt := 111) dX12_robbery_91 rfl (fun c5 => ?_) (fun c5 => ?_)
    · have EX := EX.trans (if_pos c5)
      refine ea_iconst (pc := 111) dX12_robbery_111 (v := (-1)) rfl ?_
      subst EX
      exact ea_ireturn (pc := 112) dX12_robbery_112 rfl rfl
    · have EX := EX.trans (if_neg c5)
      have K := K.2 c5
      refine ea_aload_n (pc := 94) dX12_robbery_94 rfl 0 rfl ?_
      refine ea_getR (pc := 95) dX12_robbery_95 ec_12 (k := 105) (Nat.le_of_ble_eq_true rfl) rfl (Or.inl ew_1450) (hs.1 0 (by decide)).1 (hs.1 0 (by decide)).2.1 (hs.2 0 105 rfl) ?_
      refine ea_bipush (pc := 98) dX12_robbery_98 (v := 120) rfl ?_
      refine ea_iload_n (pc := 100) dX12_robbery_100 rfl 1 rfl ?_
      refine ea_imul (pc := 101) dX12_robbery_101 ?_
      refine ea_iload_n (pc := 102) dX12_robbery_102 rfl 2 rfl ?_
      refine ea_iadd (pc := 103) dX12_robbery_103 ?_
      refine ea_bipush (pc := 104) dX12_robbery_104 (v := 10) rfl ?_
      refine ea_isub (pc := 106) dX12_robbery_106 ?_
      have z4 := K
      refine ea_iald (pc := 107) dX12_robbery_107 (hs.1 77 (by decide)).1 (hs.1 77 (by decide)).2.1 (ea_vpl (hs.1 77 (by decide)).2.2 z4) ?_
      refine ea_goto (pc := 108) (tgt := 112) dX12_robbery_108 rfl ?_
      subst EX
      exact ea_ireturn (pc := 112) dX12_robbery_112 rfl rfl
  · have EX := EX.trans (if_pos c10)
    refine ea_iconst (pc := 14) dX12_robbery_14 (v := (-1)) rfl ?_
    subst EX
    exact ea_ireturn (pc := 15) dX12_robbery_15 rfl rfl
noncomputable def vX12_set (b0 : Nat) (x1 : Int32) (h : ea_H) : Int32 := (if (vX12_isTrain b0 (x1 : Int32) h) = (0 : Int32) then (0 : Int32) else (1 : Int32))
noncomputable def wX12_set (b0 : Nat) (x1 : Int32) (h : ea_H) : ea_H := (if (vX12_isTrain b0 (x1 : Int32) h) = (0 : Int32) then h else (ea_wi h (b0 + 80) (Int32.toNatClampNeg x1) (ea_i h (b0 + 0) 0)))
def okX12_set (b0 : Nat) (x1 : Int32) (h : ea_H) : Prop := ((vX12_isTrain b0 (x1 : Int32) h) = (0 : Int32) → True) ∧ (¬ (vX12_isTrain b0 (x1 : Int32) h) = (0 : Int32) → vp_in x1 10)
theorem bo_vX12_set (b0 : Nat) (x1 : Int32) (h : ea_H) : vX12_set b0 x1 h = 0 ∨ vX12_set b0 x1 h = 1 := (ea_itB (Or.inl rfl) (Or.inr rfl))
theorem shX12_set {b0 : Nat} {x1 : Int32} {h : ea_H} (hs : ShM b0 h) : ShM b0 (wX12_set b0 x1 h) := (ShM_it hs (ShM_wi hs))
theorem sX12_set {d : Nat} {b0 : Nat} {x1 : Int32} {h : ea_H} (hd : 3 ≤ d) (hs : ShM b0 h) (K : okX12_set b0 x1 h) : ea_Met mX12_set d [vR (some (b0 + 0)), vI x1] h (some (vI (vX12_set b0 x1 h))) (wX12_set b0 x1 h) := by
  obtain ⟨X, EX⟩ : ∃ z, z = vX12_set b0 x1 h := ⟨_, rfl⟩
  rw [← EX]
  unfold vX12_set at EX
  obtain ⟨Y, EY⟩ : ∃ z, z = wX12_set b0 x1 h := ⟨_, rfl⟩
  rw [← EY]
  unfold wX12_set at EY
  unfold okX12_set at K
  refine ea_enter rfl (Nat.le_of_ble_eq_true rfl) ?_
  refine ea_aload_n (pc := 0) dX12_set_0 rfl 0 rfl ?_
  refine ea_iload_n (pc := 1) dX12_set_1 rfl 1 rfl ?_
  refine ea_callV (pc := 2) (d' := d - 1) (As := [vI x1]) (st := []) dX12_set_2 kX12_isTrain (sX12_isTrain (d := d - 1) (by omega) hs) (by omega) rfl (Nat.le_of_ble_eq_true rfl) ew_1736 ew_1738 ew_50 (ci := 12) rfl (by decide) (hs.1 0 (by decide)).1 (hs.1 0 (by decide)).2.1 ?_
  refine ea_if_ne (pc := 5) (tgt := 10) dX12_set_5 rfl (fun c4 => ?_) (fun c4 => ?_)
  · have EX := EX.trans (if_neg c4)
    have EY := EY.trans (if_neg c4)
    have K := K.2 c4
    refine ea_aload_n (pc := 10) dX12_set_10 rfl 0 rfl ?_
    refine ea_getR (pc := 11) dX12_set_11 ec_12 (k := 108) (Nat.le_of_ble_eq_true rfl) rfl (Or.inl ew_1453) (hs.1 0 (by decide)).1 (hs.1 0 (by decide)).2.1 (hs.2 0 108 rfl) ?_
    refine ea_iload_n (pc := 14) dX12_set_14 rfl 1 rfl ?_
    refine ea_aload_n (pc := 15) dX12_set_15 rfl 0 rfl ?_
    refine ea_getI (pc := 16) dX12_set_16 ec_12 (k := 0) (Nat.le_of_ble_eq_true rfl) rfl (Or.inl ew_1345) (hs.1 0 (by decide)).1 (hs.1 0 (by decide)).2.1 ?_
    have z2 := K
    refine ea_iast (pc := 19) dX12_set_19 (hs.1 80 (by decide)).1 (hs.1 80 (by decide)).2.1 (ea_vpl (hs.1 80 (by decide)).2.2 z2) ?_
    have hs3 : ShM b0 (ea_wi h (b0 + 80) (Int32.toNatClampNeg x1) (ea_i h (b0 + 0) 0)) := ShM_wi hs
    refine ea_iconst (pc := 20) dX12_set_20 (v := 1) rfl ?_
    subst EX
    subst EY
    exact ea_ireturn (pc := 21) dX12_set_21 rfl (ea_bn (Or.inr rfl))
  · have EX := EX.trans (if_pos c4)
    have EY := EY.trans (if_pos c4)
    refine ea_iconst (pc := 8) dX12_set_8 (v := 0) rfl ?_
    subst EX
    subst EY
    exact ea_ireturn (pc := 9) dX12_set_9 rfl (ea_bn (Or.inl rfl))
noncomputable def vX12_shows (b0 : Nat) (x1 : Int32) (x2 : Int32) (x3 : Int32) (h : ea_H) : Int32 := ((ea_i h (b0 + 80) (Int32.toNatClampNeg x1)) + (Int64.toInt32 (((Int32.toInt64 (x3 - (ea_i h (b0 + 80) (Int32.toNatClampNeg x1)))) * ((3600 : Int64) + (Int32.toInt64 x2))) / (3600 : Int64))))
def okX12_shows (b0 : Nat) (x1 : Int32) (x2 : Int32) (x3 : Int32) (h : ea_H) : Prop := vp_in x1 10 ∧ (vp_in x1 10)
theorem sX12_shows {d : Nat} {b0 : Nat} {x1 : Int32} {x2 : Int32} {x3 : Int32} {h : ea_H} (hd : 1 ≤ d) (hs : ShM b0 h) (K : okX12_shows b0 x1 x2 x3 h) : ea_Met mX12_shows d [vR (some (b0 + 0)), vI x1, vI x2, vI x3] h (some (vI (vX12_shows b0 x1 x2 x3 h))) h := by
  obtain ⟨X, EX⟩ : ∃ z, z = vX12_shows b0 x1 x2 x3 h := ⟨_, rfl⟩
  rw [← EX]
  unfold vX12_shows at EX
  unfold okX12_shows at K
  refine ea_enter rfl (Nat.le_of_ble_eq_true rfl) ?_
  refine ea_aload_n (pc := 0) dX12_shows_0 rfl 0 rfl ?_
  refine ea_getR (pc := 1) dX12_shows_1 ec_12 (k := 108) (Nat.le_of_ble_eq_true rfl) rfl (Or.inl ew_1453) (hs.1 0 (by decide)).1 (hs.1 0 (by decide)).2.1 (hs.2 0 108 rfl) ?_
  refine ea_iload_n (pc := 4) dX12_shows_4 rfl 1 rfl ?_
  obtain ⟨z1, K⟩ := K
  refine ea_iald (pc := 5) dX12_shows_5 (hs.1 80 (by decide)).1 (hs.1 80 (by decide)).2.1 (ea_vpl (hs.1 80 (by decide)).2.2 z1) ?_
  refine ea_iload_n (pc := 6) dX12_shows_6 rfl 3 rfl ?_
  refine ea_aload_n (pc := 7) dX12_shows_7 rfl 0 rfl ?_
  refine ea_getR (pc := 8) dX12_shows_8 ec_12 (k := 108) (Nat.le_of_ble_eq_true rfl) rfl (Or.inl ew_1453) (hs.1 0 (by decide)).1 (hs.1 0 (by decide)).2.1 (hs.2 0 108 rfl) ?_
  refine ea_iload_n (pc := 11) dX12_shows_11 rfl 1 rfl ?_
  have z2 := K
  refine ea_iald (pc := 12) dX12_shows_12 (hs.1 80 (by decide)).1 (hs.1 80 (by decide)).2.1 (ea_vpl (hs.1 80 (by decide)).2.2 z2) ?_
  refine ea_isub (pc := 13) dX12_shows_13 ?_
  refine ea_i2l (pc := 14) dX12_shows_14 ?_
  refine ea_ldc2 (pc := 15) dX12_shows_15 ew_2154 ?_
  refine ea_iload_n (pc := 18) dX12_shows_18 rfl 2 rfl ?_
  refine ea_i2l (pc := 19) dX12_shows_19 ?_
  refine ea_ladd (pc := 20) dX12_shows_20 ?_
  refine ea_lmul (pc := 21) dX12_shows_21 ?_
  refine ea_ldc2 (pc := 22) dX12_shows_22 ew_2154 ?_
  refine ea_ldiv (pc := 25) dX12_shows_25 (by decide) ?_
  refine ea_l2i (pc := 26) dX12_shows_26 ?_
  refine ea_iadd (pc := 27) dX12_shows_27 ?_
  subst EX
  exact ea_ireturn (pc := 28) dX12_shows_28 rfl rfl
noncomputable def gX12_seen (b0 : Nat) : Nat → Nat → Int32 → Int32 → Int32 → Int32 → Int32 → Int32 → ea_H → Option (Int32 × ea_H)
  | 0, _, _, _, _, _, _, _, _ => none
  | f + 1, lbl, sx0, x1, x2, x3, x4, x5, h =>
    if lbl = 0 then (if (vX12_isTrain b0 (x1 : Int32) h) = (0 : Int32) then (some ((0 : Int32), h)) else (if (vX12_isMinute (x2 : Int32) h) = (0 : Int32) then (some ((0 : Int32), h)) else (gd (vp_in x1 10) (gd (vp_in x1 10) (gd (vp_in x1 10) (gX12_seen b0 f 44 0 (x1 : Int32) (x2 : Int32) (((ea_i h (b0 + 79) (Int32.toNatClampNeg x1)) + (1 : Int32)) : Int32) (((ea_i h (b0 + 78) (Int32.toNatClampNeg x1)) - (1 : Int32)) : Int32) ((ea_i h (b0 + 78) (Int32.toNatClampNeg x1)) : Int32) h)))))) else
    if lbl = 44 then (gd (vp_in x1 10) (if (ea_i h (b0 + 79) (Int32.toNatClampNeg x1)) < x5 then (if x3 ≤ x4 then (gd (vp_in x1 10) (gd (vp_in x1 10) (some ((1 : Int32), (ea_wi (ea_wi h (b0 + 78) (Int32.toNatClampNeg x1) x3) (b0 + 79) (Int32.toNatClampNeg x1) x4))))) else (some ((0 : Int32), h))) else (gd ((okX12_shows b0 (x1 : Int32) (x5 : Int32) ((ea_i h (b0 + 0) 0) : Int32) h)) (if (vX12_shows b0 (x1 : Int32) (x5 : Int32) ((ea_i h (b0 + 0) 0) : Int32) h) = x2 then (if x3 ≤ x5 then (gX12_seen b0 f 85 (x3 : Int32) (x1 : Int32) (x2 : Int32) 0 (x4 : Int32) (x5 : Int32) h) else (gX12_seen b0 f 85 (x5 : Int32) (x1 : Int32) (x2 : Int32) 0 (x4 : Int32) (x5 : Int32) h)) else (gX12_seen b0 f 44 0 (x1 : Int32) (x2 : Int32) (x3 : Int32) (x4 : Int32) ((x5 + (1 : Int32)) : Int32) h))))) else
    if lbl = 85 then (if x5 ≤ x4 then (gX12_seen b0 f 44 0 (x1 : Int32) (x2 : Int32) (sx0 : Int32) (x4 : Int32) ((x5 + (1 : Int32)) : Int32) h) else (gX12_seen b0 f 44 0 (x1 : Int32) (x2 : Int32) (sx0 : Int32) (x5 : Int32) ((x5 + (1 : Int32)) : Int32) h)) else none
theorem tX12_seen {d : Nat} {b0 : Nat} {h0 : ea_H} (hd : 3 ≤ d) : ∀ (f lbl : Nat) (sx0 : Int32) (x1 : Int32) (x2 : Int32) (x3 : Int32) (x4 : Int32) (x5 : Int32) (h : ea_H) (r : Int32) (h' : ea_H), gX12_seen b0 f lbl sx0 x1 x2 x3 x4 x5 h = some (r, h') → ShM b0 h → (lbl = 0 → ea_W mX12_seen d h0 (some (vI r)) h' 0 [(0, vR (some (b0 + 0))), (1, vI x1), (2, vI x2)] [] h) ∧ (lbl = 44 → ea_W mX12_seen d h0 (some (vI r)) h' 44 [(0, vR (some (b0 + 0))), (1, vI x1), (2, vI x2), (3, vI x3), (4, vI x4), (5, vI x5)] [] h) ∧ (lbl = 85 → ea_W mX12_seen d h0 (some (vI r)) h' 85 [(0, vR (some (b0 + 0))), (1, vI x1), (2, vI x2), (4, vI x4), (5, vI x5)] [vI sx0] h) := by
  intro f
  induction f with
  | zero => intro lbl sx0 x1 x2 x3 x4 x5 h r h' E; cases E
  | succ f ih =>
    intro lbl sx0 x1 x2 x3 x4 x5 h r h' E hs
    unfold gX12_seen at E
    refine ⟨?_, ?_⟩
    · intro el
      subst el
      have E := (if_pos rfl).symm.trans E
      refine ea_aload_n (pc := 0) dX12_seen_0 rfl 0 rfl ?_
      refine ea_iload_n (pc := 1) dX12_seen_1 rfl 1 rfl ?_
      refine ea_callV (pc := 2) (d' := d - 1) (As := [vI x1]) (st := []) dX12_seen_2 kX12_isTrain (sX12_isTrain (d := d - 1) (by omega) hs) (by omega) rfl (Nat.le_of_ble_eq_true rfl) ew_1736 ew_1738 ew_50 (ci := 12) rfl (by decide) (hs.1 0 (by decide)).1 (hs.1 0 (by decide)).2.1 ?_
      refine ea_if_eq (pc := 5) (tgt := 15) dX12_seen_5 rfl (fun c7 => ?_) (fun c7 => ?_)
      · have E := (if_pos c7).symm.trans E
        refine ea_iconst (pc := 15) dX12_seen_15 (v := 0) rfl ?_
        cases E
        exact ea_ireturn (pc := 16) dX12_seen_16 rfl (ea_bn (Or.inl rfl))
      · have E := (if_neg c7).symm.trans E
        refine ea_iload_n (pc := 8) dX12_seen_8 rfl 2 rfl ?_
        refine ea_callS (pc := 9) (d' := d - 1) (As := [vI x2]) (st := []) dX12_seen_9 kX12_isMinute (sX12_isMinute (d := d - 1) (by omega)) (by omega) rfl (Nat.le_of_ble_eq_true rfl) ew_2147 ew_2148 ?_
        refine ea_if_ne (pc := 12) (tgt := 17) dX12_seen_12 rfl (fun c6 => ?_) (fun c6 => ?_)
        · have E := (if_neg c6).symm.trans E
          refine ea_aload_n (pc := 17) dX12_seen_17 rfl 0 rfl ?_
          refine ea_getR (pc := 18) dX12_seen_18 ec_12 (k := 107) (Nat.le_of_ble_eq_true rfl) rfl (Or.inl ew_1452) (hs.1 0 (by decide)).1 (hs.1 0 (by decide)).2.1 (hs.2 0 107 rfl) ?_
          refine ea_iload_n (pc := 21) dX12_seen_21 rfl 1 rfl ?_
          obtain ⟨z3, E⟩ := gd_some E
          refine ea_iald (pc := 22) dX12_seen_22 (hs.1 79 (by decide)).1 (hs.1 79 (by decide)).2.1 (ea_vpl (hs.1 79 (by decide)).2.2 z3) ?_
          refine ea_iconst (pc := 23) dX12_seen_23 (v := 1) rfl ?_
          refine ea_iadd (pc := 24) dX12_seen_24 ?_
          refine ea_istore_n (pc := 25) (lv' := [(0, vR (some (b0 + 0))), (1, vI x1), (2, vI x2), (3, vI ((ea_i h (b0 + 79) (Int32.toNatClampNeg x1)) + (1 : Int32)))]) dX12_seen_25 rfl (Nat.le_of_ble_eq_true rfl) [1, 2, 3, 0] rfl ?_
          refine ea_aload_n (pc := 26) dX12_seen_26 rfl 0 rfl ?_
          refine ea_getR (pc := 27) dX12_seen_27 ec_12 (k := 106) (Nat.le_of_ble_eq_true rfl) rfl (Or.inl ew_1451) (hs.1 0 (by decide)).1 (hs.1 0 (by decide)).2.1 (hs.2 0 106 rfl) ?_
          refine ea_iload_n (pc := 30) dX12_seen_30 rfl 1 rfl ?_
          obtain ⟨z4, E⟩ := gd_some E
          refine ea_iald (pc := 31) dX12_seen_31 (hs.1 78 (by decide)).1 (hs.1 78 (by decide)).2.1 (ea_vpl (hs.1 78 (by decide)).2.2 z4) ?_
          refine ea_iconst (pc := 32) dX12_seen_32 (v := 1) rfl ?_
          refine ea_isub (pc := 33) dX12_seen_33 ?_
          refine ea_istore (pc := 34) (lv' := [(0, vR (some (b0 + 0))), (1, vI x1), (2, vI x2), (3, vI ((ea_i h (b0 + 79) (Int32.toNatClampNeg x1)) + (1 : Int32))), (4, vI ((ea_i h (b0 + 78) (Int32.toNatClampNeg x1)) - (1 : Int32)))]) dX12_seen_34 (Nat.le_of_ble_eq_true rfl) [1, 2, 3, 4, 0] rfl ?_
          refine ea_aload_n (pc := 36) dX12_seen_36 rfl 0 rfl ?_
          refine ea_getR (pc := 37) dX12_seen_37 ec_12 (k := 106) (Nat.le_of_ble_eq_true rfl) rfl (Or.inl ew_1451) (hs.1 0 (by decide)).1 (hs.1 0 (by decide)).2.1 (hs.2 0 106 rfl) ?_
          refine ea_iload_n (pc := 40) dX12_seen_40 rfl 1 rfl ?_
          obtain ⟨z5, E⟩ := gd_some E
          refine ea_iald (pc := 41) dX12_seen_41 (hs.1 78 (by decide)).1 (hs.1 78 (by decide)).2.1 (ea_vpl (hs.1 78 (by decide)).2.2 z5) ?_
          refine ea_istore (pc := 42) (lv' := [(0, vR (some (b0 + 0))), (1, vI x1), (2, vI x2), (3, vI ((ea_i h (b0 + 79) (Int32.toNatClampNeg x1)) + (1 : Int32))), (4, vI ((ea_i h (b0 + 78) (Int32.toNatClampNeg x1)) - (1 : Int32))), (5, vI (ea_i h (b0 + 78) (Int32.toNatClampNeg x1)))]) dX12_seen_42 (Nat.le_of_ble_eq_true rfl) [1, 2, 3, 4, 5, 0] rfl ?_
          exact ((ih 44 0 (x1 : Int32) (x2 : Int32) (((ea_i h (b0 + 79) (Int32.toNatClampNeg x1)) + (1 : Int32)) : Int32) (((ea_i h (b0 + 78) (Int32.toNatClampNeg x1)) - (1 : Int32)) : Int32) ((ea_i h (b0 + 78) (Int32.toNatClampNeg x1)) : Int32) h _ _ E hs).2.1 rfl)
        · have E := (if_pos c6).symm.trans E
          refine ea_iconst (pc := 15) dX12_seen_15 (v := 0) rfl ?_
          cases E
          exact ea_ireturn (pc := 16) dX12_seen_16 rfl (ea_bn (Or.inl rfl))
    refine ⟨?_, ?_⟩
    · intro el
      subst el
      have E := (if_neg (by decide)).symm.trans E
      have E := (if_pos rfl).symm.trans E
      refine ea_iload (pc := 44) dX12_seen_44 5 rfl ?_
      refine ea_aload_n (pc := 46) dX12_seen_46 rfl 0 rfl ?_
      refine ea_getR (pc := 47) dX12_seen_47 ec_12 (k := 107) (Nat.le_of_ble_eq_true rfl) rfl (Or.inl ew_1452) (hs.1 0 (by decide)).1 (hs.1 0 (by decide)).2.1 (hs.2 0 107 rfl) ?_
      refine ea_iload_n (pc := 50) dX12_seen_50 rfl 1 rfl ?_
      obtain ⟨z8, E⟩ := gd_some E
      refine ea_iald (pc := 51) dX12_seen_51 (hs.1 79 (by decide)).1 (hs.1 79 (by decide)).2.1 (ea_vpl (hs.1 79 (by decide)).2.2 z8) ?_
      refine ea_icmp_gt (pc := 52) (tgt := 108) dX12_seen_52 rfl (fun c17 => ?_) (fun c17 => ?_)
      · have E := (if_pos c17).symm.trans E
        refine ea_iload_n (pc := 108) dX12_seen_108 rfl 3 rfl ?_
        refine ea_iload (pc := 109) dX12_seen_109 4 rfl ?_
        refine ea_icmp_le (pc := 111) (tgt := 116) dX12_seen_111 rfl (fun c13 => ?_) (fun c13 => ?_)
        · have E := (if_pos c13).symm.trans E
          refine ea_aload_n (pc := 116) dX12_seen_116 rfl 0 rfl ?_
          refine ea_getR (pc := 117) dX12_seen_117 ec_12 (k := 106) (Nat.le_of_ble_eq_true rfl) rfl (Or.inl ew_1451) (hs.1 0 (by decide)).1 (hs.1 0 (by decide)).2.1 (hs.2 0 106 rfl) ?_
          refine ea_iload_n (pc := 120) dX12_seen_120 rfl 1 rfl ?_
          refine ea_iload_n (pc := 121) dX12_seen_121 rfl 3 rfl ?_
          obtain ⟨z9, E⟩ := gd_some E
          refine ea_iast (pc := 122) dX12_seen_122 (hs.1 78 (by decide)).1 (hs.1 78 (by decide)).2.1 (ea_vpl (hs.1 78 (by decide)).2.2 z9) ?_
          have hs10 : ShM b0 (ea_wi h (b0 + 78) (Int32.toNatClampNeg x1) x3) := ShM_wi hs
          refine ea_aload_n (pc := 123) dX12_seen_123 rfl 0 rfl ?_
          refine ea_getR (pc := 124) dX12_seen_124 ec_12 (k := 107) (Nat.le_of_ble_eq_true rfl) rfl (Or.inl ew_1452) (hs10.1 0 (by decide)).1 (hs10.1 0 (by decide)).2.1 (hs10.2 0 107 rfl) ?_
          refine ea_iload_n (pc := 127) dX12_seen_127 rfl 1 rfl ?_
          refine ea_iload (pc := 128) dX12_seen_128 4 rfl ?_
          obtain ⟨z11, E⟩ := gd_some E
          refine ea_iast (pc := 130) dX12_seen_130 (hs10.1 79 (by decide)).1 (hs10.1 79 (by decide)).2.1 (ea_vpl (hs10.1 79 (by decide)).2.2 z11) ?_
          have hs12 : ShM b0 (ea_wi (ea_wi h (b0 + 78) (Int32.toNatClampNeg x1) x3) (b0 + 79) (Int32.toNatClampNeg x1) x4) := ShM_wi hs10
          refine ea_iconst (pc := 131) dX12_seen_131 (v := 1) rfl ?_
          cases E
          exact ea_ireturn (pc := 132) dX12_seen_132 rfl (ea_bn (Or.inr rfl))
        · have E := (if_neg c13).symm.trans E
          refine ea_iconst (pc := 114) dX12_seen_114 (v := 0) rfl ?_
          cases E
          exact ea_ireturn (pc := 115) dX12_seen_115 rfl (ea_bn (Or.inl rfl))
      · have E := (if_neg c17).symm.trans E
        refine ea_aload_n (pc := 55) dX12_seen_55 rfl 0 rfl ?_
        refine ea_iload_n (pc := 56) dX12_seen_56 rfl 1 rfl ?_
        refine ea_iload (pc := 57) dX12_seen_57 5 rfl ?_
        refine ea_aload_n (pc := 59) dX12_seen_59 rfl 0 rfl ?_
        refine ea_getI (pc := 60) dX12_seen_60 ec_12 (k := 0) (Nat.le_of_ble_eq_true rfl) rfl (Or.inl ew_1345) (hs.1 0 (by decide)).1 (hs.1 0 (by decide)).2.1 ?_
        obtain ⟨z14, E⟩ := gd_some E
        refine ea_callV (pc := 63) (d' := d - 1) (As := [vI x1, vI x5, vI (ea_i h (b0 + 0) 0)]) (st := []) dX12_seen_63 kX12_shows (sX12_shows (d := d - 1) (by omega) hs z14) (by omega) rfl (Nat.le_of_ble_eq_true rfl) ew_2150 ew_2152 ew_102 (ci := 12) rfl (by decide) (hs.1 0 (by decide)).1 (hs.1 0 (by decide)).2.1 ?_
        refine ea_iload_n (pc := 66) dX12_seen_66 rfl 2 rfl ?_
        refine ea_icmp_eq (pc := 67) (tgt := 73) dX12_seen_67 rfl (fun c16 => ?_) (fun c16 => ?_)
        · have E := (if_pos c16).symm.trans E
          refine ea_iload (pc := 73) dX12_seen_73 5 rfl ?_
          refine ea_iload_n (pc := 75) dX12_seen_75 rfl 3 rfl ?_
          refine ea_icmp_ge (pc := 76) (tgt := 84) dX12_seen_76 rfl (fun c15 => ?_) (fun c15 => ?_)
          · have E := (if_pos c15).symm.trans E
            refine ea_iload_n (pc := 84) dX12_seen_84 rfl 3 rfl ?_
            exact (ea_fewer [0, 1, 2, 4, 5] rfl ((ih 85 (x3 : Int32) (x1 : Int32) (x2 : Int32) 0 (x4 : Int32) (x5 : Int32) h _ _ E hs).2.2 rfl))
          · have E := (if_neg c15).symm.trans E
            refine ea_iload (pc := 79) dX12_seen_79 5 rfl ?_
            refine ea_goto (pc := 81) (tgt := 85) dX12_seen_81 rfl ?_
            exact (ea_fewer [0, 1, 2, 4, 5] rfl ((ih 85 (x5 : Int32) (x1 : Int32) (x2 : Int32) 0 (x4 : Int32) (x5 : Int32) h _ _ E hs).2.2 rfl))
        · have E := (if_neg c16).symm.trans E
          refine ea_goto (pc := 70) (tgt := 102) dX12_seen_70 rfl ?_
          refine ea_iinc (pc := 102) (v := 1) (lv' := [(0, vR (some (b0 + 0))), (1, vI x1), (2, vI x2), (3, vI x3), (4, vI x4), (5, vI (x5 + (1 : Int32)))]) dX12_seen_102 5 rfl rfl (Nat.le_of_ble_eq_true rfl) [1, 2, 3, 4, 5, 0] rfl ?_
          refine ea_goto (pc := 105) (tgt := 44) dX12_seen_105 rfl ?_
          exact ((ih 44 0 (x1 : Int32) (x2 : Int32) (x3 : Int32) (x4 : Int32) ((x5 + (1 : Int32)) : Int32) h _ _ E hs).2.1 rfl)
    intro el
    subst el
    have E := (if_neg (by decide)).symm.trans E
    have E := (if_neg (by decide)).symm.trans E
    have E := (if_pos rfl).symm.trans E
    refine ea_istore_n (pc := 85) (lv' := [(0, vR (some (b0 + 0))), (1, vI x1), (2, vI x2), (3, vI sx0), (4, vI x4), (5, vI x5)]) dX12_seen_85 rfl (Nat.le_of_ble_eq_true rfl) [1, 2, 3, 0, 4, 5] rfl ?_
    refine ea_iload (pc := 86) dX12_seen_86 5 rfl ?_
    refine ea_iload (pc := 88) dX12_seen_88 4 rfl ?_
    refine ea_icmp_le (pc := 90) (tgt := 98) dX12_seen_90 rfl (fun c18 => ?_) (fun c18 => ?_)
    · have E := (if_pos c18).symm.trans E
      refine ea_iload (pc := 98) dX12_seen_98 4 rfl ?_
      refine ea_istore (pc := 100) (lv' := [(0, vR (some (b0 + 0))), (1, vI x1), (2, vI x2), (3, vI sx0), (4, vI x4), (5, vI x5)]) dX12_seen_100 (Nat.le_of_ble_eq_true rfl) [1, 2, 3, 4, 0, 5] rfl ?_
      refine ea_iinc (pc := 102) (v := 1) (lv' := [(0, vR (some (b0 + 0))), (1, vI x1), (2, vI x2), (3, vI sx0), (4, vI x4), (5, vI (x5 + (1 : Int32)))]) dX12_seen_102 5 rfl rfl (Nat.le_of_ble_eq_true rfl) [1, 2, 3, 4, 5, 0] rfl ?_
      refine ea_goto (pc := 105) (tgt := 44) dX12_seen_105 rfl ?_
      exact ((ih 44 0 (x1 : Int32) (x2 : Int32) (sx0 : Int32) (x4 : Int32) ((x5 + (1 : Int32)) : Int32) h _ _ E hs).2.1 rfl)
    · have E := (if_neg c18).symm.trans E
      refine ea_iload (pc := 93) dX12_seen_93 5 rfl ?_
      refine ea_goto (pc := 95) (tgt := 100) dX12_seen_95 rfl ?_
      refine ea_istore (pc := 100) (lv' := [(0, vR (some (b0 + 0))), (1, vI x1), (2, vI x2), (3, vI sx0), (4, vI x5), (5, vI x5)]) dX12_seen_100 (Nat.le_of_ble_eq_true rfl) [1, 2, 3, 4, 0, 5] rfl ?_
      refine ea_iinc (pc := 102) (v := 1) (lv' := [(0, vR (some (b0 + 0))), (1, vI x1), (2, vI x2), (3, vI sx0), (4, vI x5), (5, vI (x5 + (1 : Int32)))]) dX12_seen_102 5 rfl rfl (Nat.le_of_ble_eq_true rfl) [1, 2, 3, 4, 5, 0] rfl ?_
      refine ea_goto (pc := 105) (tgt := 44) dX12_seen_105 rfl ?_
      exact ((ih 44 0 (x1 : Int32) (x2 : Int32) (sx0 : Int32) (x5 : Int32) ((x5 + (1 : Int32)) : Int32) h _ _ E hs).2.1 rfl)
noncomputable def qX12_seen (b0 : Nat) (x1 : Int32) (x2 : Int32) (h : ea_H) : Option (Int32 × ea_H) := gX12_seen b0 1000000000 0 0 x1 x2 0 0 0 h
def okX12_seen (b0 : Nat) (x1 : Int32) (x2 : Int32) (h : ea_H) : Prop := ∃ x, qX12_seen b0 x1 x2 h = some x
noncomputable def vX12_seen (b0 : Nat) (x1 : Int32) (x2 : Int32) (h : ea_H) : Int32 := ((qX12_seen b0 x1 x2 h).getD (0, h)).1
noncomputable def wX12_seen (b0 : Nat) (x1 : Int32) (x2 : Int32) (h : ea_H) : ea_H := ((qX12_seen b0 x1 x2 h).getD (0, h)).2
theorem sX12_seen {d : Nat} {b0 : Nat} {x1 : Int32} {x2 : Int32} {h : ea_H} (hd : 3 ≤ d) (hs : ShM b0 h) (K : okX12_seen b0 x1 x2 h) : ea_Met mX12_seen d [vR (some (b0 + 0)), vI x1, vI x2] h (some (vI (vX12_seen b0 x1 x2 h))) (wX12_seen b0 x1 x2 h) := by
  obtain ⟨⟨x, y⟩, K⟩ := K
  unfold wX12_seen vX12_seen
  rw [K]
  unfold qX12_seen at K
  exact ea_enter rfl (Nat.le_of_ble_eq_true rfl) ((tX12_seen hd 1000000000 0 0 x1 x2 0 0 0 h x y K hs).1 rfl)
theorem zX12_seen {b0 : Nat} : ∀ (f lbl : Nat) (sx0 : Int32) (x1 : Int32) (x2 : Int32) (x3 : Int32) (x4 : Int32) (x5 : Int32) (h : ea_H) (r : Int32) (h' : ea_H), gX12_seen b0 f lbl sx0 x1 x2 x3 x4 x5 h = some (r, h') → ShM b0 h → ShM b0 h' := by
  intro f
  induction f with
  | zero => intro lbl sx0 x1 x2 x3 x4 x5 h r h' E; cases E
  | succ f ih =>
    intro lbl sx0 x1 x2 x3 x4 x5 h r h' E hs
    unfold gX12_seen at E
    by_cases el0 : lbl = 0
    · have E := (if_pos el0).symm.trans E
      by_cases c7 : (vX12_isTrain b0 (x1 : Int32) h) = (0 : Int32)
      · have E := (if_pos c7).symm.trans E
        cases E
        exact hs
      have E := (if_neg c7).symm.trans E
      by_cases c6 : (vX12_isMinute (x2 : Int32) h) = (0 : Int32)
      · have E := (if_pos c6).symm.trans E
        cases E
        exact hs
      have E := (if_neg c6).symm.trans E
      obtain ⟨z3, E⟩ := gd_some E
      obtain ⟨z4, E⟩ := gd_some E
      obtain ⟨z5, E⟩ := gd_some E
      exact ih 44 0 (x1 : Int32) (x2 : Int32) (((ea_i h (b0 + 79) (Int32.toNatClampNeg x1)) + (1 : Int32)) : Int32) (((ea_i h (b0 + 78) (Int32.toNatClampNeg x1)) - (1 : Int32)) : Int32) ((ea_i h (b0 + 78) (Int32.toNatClampNeg x1)) : Int32) h _ _ E hs
    have E := (if_neg el0).symm.trans E
    by_cases el1 : lbl = 44
    · have E := (if_pos el1).symm.trans E
      obtain ⟨z8, E⟩ := gd_some E
      by_cases c17 : (ea_i h (b0 + 79) (Int32.toNatClampNeg x1)) < x5
      · have E := (if_pos c17).symm.trans E
        by_cases c13 : x3 ≤ x4
        · have E := (if_pos c13).symm.trans E
          obtain ⟨z9, E⟩ := gd_some E
          obtain ⟨z11, E⟩ := gd_some E
          cases E
          exact (ShM_wi (ShM_wi hs))
        have E := (if_neg c13).symm.trans E
        cases E
        exact hs
      have E := (if_neg c17).symm.trans E
      obtain ⟨z14, E⟩ := gd_some E
      by_cases c16 : (vX12_shows b0 (x1 : Int32) (x5 : Int32) ((ea_i h (b0 + 0) 0) : Int32) h) = x2
      · have E := (if_pos c16).symm.trans E
        by_cases c15 : x3 ≤ x5
        · have E := (if_pos c15).symm.trans E
          exact ih 85 (x3 : Int32) (x1 : Int32) (x2 : Int32) 0 (x4 : Int32) (x5 : Int32) h _ _ E hs
        have E := (if_neg c15).symm.trans E
        exact ih 85 (x5 : Int32) (x1 : Int32) (x2 : Int32) 0 (x4 : Int32) (x5 : Int32) h _ _ E hs
      have E := (if_neg c16).symm.trans E
      exact ih 44 0 (x1 : Int32) (x2 : Int32) (x3 : Int32) (x4 : Int32) ((x5 + (1 : Int32)) : Int32) h _ _ E hs
    have E := (if_neg el1).symm.trans E
    by_cases el2 : lbl = 85
    · have E := (if_pos el2).symm.trans E
      by_cases c18 : x5 ≤ x4
      · have E := (if_pos c18).symm.trans E
        exact ih 44 0 (x1 : Int32) (x2 : Int32) (sx0 : Int32) (x4 : Int32) ((x5 + (1 : Int32)) : Int32) h _ _ E hs
      have E := (if_neg c18).symm.trans E
      exact ih 44 0 (x1 : Int32) (x2 : Int32) (sx0 : Int32) (x5 : Int32) ((x5 + (1 : Int32)) : Int32) h _ _ E hs
    have E := (if_neg el2).symm.trans E
    cases E
theorem shX12_seen {b0 : Nat} {x1 : Int32} {x2 : Int32} {h : ea_H} (hs : ShM b0 h) : ShM b0 (wX12_seen b0 x1 x2 h) := by
  unfold wX12_seen
  cases K : qX12_seen b0 x1 x2 h with
  | none => exact hs
  | some x => obtain ⟨x, y⟩ := x; unfold qX12_seen at K; exact zX12_seen _ _ _ _ _ _ _ _ _ _ _ K hs
noncomputable def vX12_clock (b0 : Nat) (x1 : Int32) (x2 : Int32) (h : ea_H) : Int32 := (if (vX12_isTrain b0 (x1 : Int32) h) = (0 : Int32) then ((-1000) : Int32) else (if x2 = (0 : Int32) then (ea_i h (b0 + 78) (Int32.toNatClampNeg x1)) else (if x2 = (1 : Int32) then (ea_i h (b0 + 79) (Int32.toNatClampNeg x1)) else (if x2 = (2 : Int32) then (ea_i h (b0 + 80) (Int32.toNatClampNeg x1)) else ((-1000) : Int32)))))
def okX12_clock (b0 : Nat) (x1 : Int32) (x2 : Int32) (h : ea_H) : Prop := ((vX12_isTrain b0 (x1 : Int32) h) = (0 : Int32) → True) ∧ (¬ (vX12_isTrain b0 (x1 : Int32) h) = (0 : Int32) → (x2 = (0 : Int32) → vp_in x1 10) ∧ (¬ x2 = (0 : Int32) → (x2 = (1 : Int32) → vp_in x1 10) ∧ (¬ x2 = (1 : Int32) → (x2 = (2 : Int32) → vp_in x1 10) ∧ (¬ x2 = (2 : Int32) → True))))
theorem sX12_clock {d : Nat} {b0 : Nat} {x1 : Int32} {x2 : Int32} {h : ea_H} (hd : 3 ≤ d) (hs : ShM b0 h) (K : okX12_clock b0 x1 x2 h) : ea_Met mX12_clock d [vR (some (b0 + 0)), vI x1, vI x2] h (some (vI (vX12_clock b0 x1 x2 h))) h := by
  obtain ⟨X, EX⟩ : ∃ z, z = vX12_clock b0 x1 x2 h := ⟨_, rfl⟩
  rw [← EX]
  unfold vX12_clock at EX
  unfold okX12_clock at K
  refine ea_enter rfl (Nat.le_of_ble_eq_true rfl) ?_
  refine ea_aload_n (pc := 0) dX12_clock_0 rfl 0 rfl ?_
  refine ea_iload_n (pc := 1) dX12_clock_1 rfl 1 rfl ?_
  refine ea_callV (pc := 2) (d' := d - 1) (As := [vI x1]) (st := []) dX12_clock_2 kX12_isTrain (sX12_isTrain (d := d - 1) (by omega) hs) (by omega) rfl (Nat.le_of_ble_eq_true rfl) ew_1736 ew_1738 ew_50 (ci := 12) rfl (by decide) (hs.1 0 (by decide)).1 (hs.1 0 (by decide)).2.1 ?_
  refine ea_if_ne (pc := 5) (tgt := 14) dX12_clock_5 rfl (fun c8 => ?_) (fun c8 => ?_)
  · have EX := EX.trans (if_neg c8)
    have K := K.2 c8
    refine ea_iload_n (pc := 14) dX12_clock_14 rfl 2 rfl ?_
    refine ea_if_ne (pc := 15) (tgt := 27) dX12_clock_15 rfl (fun c7 => ?_) (fun c7 => ?_)
    · have EX := EX.trans (if_neg c7)
      have K := K.2 c7
      refine ea_iload_n (pc := 27) dX12_clock_27 rfl 2 rfl ?_
      refine ea_iconst (pc := 28) dX12_clock_28 (v := 1) rfl ?_
      refine ea_icmp_ne (pc := 29) (tgt := 41) dX12_clock_29 rfl (fun c5 => ?_) (fun c5 => ?_)
      · have EX := EX.trans (if_neg c5)
        have K := K.2 c5
        refine ea_iload_n (pc := 41) dX12_clock_41 rfl 2 rfl ?_
        refine ea_iconst (pc := 42) dX12_clock_42 (v := 2) rfl ?_
        refine ea_icmp_ne (pc := 43) (tgt := 55) dX12_clock_43 rfl (fun c3 => ?_) (fun c3 => ?_)
        · have EX := EX.trans (if_neg c3)
          refine ea_sipush (pc := 55) dX12_clock_55 (v := (-1000)) rfl ?_
          subst EX
          exact ea_ireturn (pc := 58) dX12_clock_58 rfl rfl
        · have EX := EX.trans (if_pos c3)
          have K := K.1 c3
          refine ea_aload_n (pc := 46) dX12_clock_46 rfl 0 rfl ?_
          refine ea_getR (pc := 47) dX12_clock_47 ec_12 (k := 108) (Nat.le_of_ble_eq_true rfl) rfl (Or.inl ew_1453) (hs.1 0 (by decide)).1 (hs.1 0 (by decide)).2.1 (hs.2 0 108 rfl) ?_
          refine ea_iload_n (pc := 50) dX12_clock_50 rfl 1 rfl ?_
          have z2 := K
          refine ea_iald (pc := 51) dX12_clock_51 (hs.1 80 (by decide)).1 (hs.1 80 (by decide)).2.1 (ea_vpl (hs.1 80 (by decide)).2.2 z2) ?_
          refine ea_goto (pc := 52) (tgt := 58) dX12_clock_52 rfl ?_
          subst EX
          exact ea_ireturn (pc := 58) dX12_clock_58 rfl rfl
      · have EX := EX.trans (if_pos c5)
        have K := K.1 c5
        refine ea_aload_n (pc := 32) dX12_clock_32 rfl 0 rfl ?_
        refine ea_getR (pc := 33) dX12_clock_33 ec_12 (k := 107) (Nat.le_of_ble_eq_true rfl) rfl (Or.inl ew_1452) (hs.1 0 (by decide)).1 (hs.1 0 (by decide)).2.1 (hs.2 0 107 rfl) ?_
        refine ea_iload_n (pc := 36) dX12_clock_36 rfl 1 rfl ?_
        have z4 := K
        refine ea_iald (pc := 37) dX12_clock_37 (hs.1 79 (by decide)).1 (hs.1 79 (by decide)).2.1 (ea_vpl (hs.1 79 (by decide)).2.2 z4) ?_
        refine ea_goto (pc := 38) (tgt := 58) dX12_clock_38 rfl ?_
        subst EX
        exact ea_ireturn (pc := 58) dX12_clock_58 rfl rfl
    · have EX := EX.trans (if_pos c7)
      have K := K.1 c7
      refine ea_aload_n (pc := 18) dX12_clock_18 rfl 0 rfl ?_
      refine ea_getR (pc := 19) dX12_clock_19 ec_12 (k := 106) (Nat.le_of_ble_eq_true rfl) rfl (Or.inl ew_1451) (hs.1 0 (by decide)).1 (hs.1 0 (by decide)).2.1 (hs.2 0 106 rfl) ?_
      refine ea_iload_n (pc := 22) dX12_clock_22 rfl 1 rfl ?_
      have z6 := K
      refine ea_iald (pc := 23) dX12_clock_23 (hs.1 78 (by decide)).1 (hs.1 78 (by decide)).2.1 (ea_vpl (hs.1 78 (by decide)).2.2 z6) ?_
      refine ea_goto (pc := 24) (tgt := 58) dX12_clock_24 rfl ?_
      subst EX
      exact ea_ireturn (pc := 58) dX12_clock_58 rfl rfl
  · have EX := EX.trans (if_pos c8)
    refine ea_sipush (pc := 8) dX12_clock_8 (v := (-1000)) rfl ?_
    refine ea_goto (pc := 11) (tgt := 58) dX12_clock_11 rfl ?_
    subst EX
    exact ea_ireturn (pc := 58) dX12_clock_58 rfl rfl
noncomputable def gX12_mayShow (b0 : Nat) : Nat → Nat → Int32 → Int32 → Int32 → Int32 → Int32 → ea_H → Option (Int32 × ea_H)
  | 0, _, _, _, _, _, _, _ => none
  | f + 1, lbl, x1, x2, x3, x4, x5, h =>
    if lbl = 0 then (gd (vp_in x1 10) (gX12_mayShow b0 f 11 (x1 : Int32) (x2 : Int32) (x3 : Int32) (0 : Int32) ((ea_i h (b0 + 78) (Int32.toNatClampNeg x1)) : Int32) h)) else
    if lbl = 11 then (gd (vp_in x1 10) (if (ea_i h (b0 + 79) (Int32.toNatClampNeg x1)) < x5 then (gd (x4 = 0 ∨ x4 = 1) ((some (x4, h)))) else (if x4 = (0 : Int32) then (gd ((okX12_shows b0 (x1 : Int32) (x5 : Int32) (x3 : Int32) h)) (if (vX12_shows b0 (x1 : Int32) (x5 : Int32) (x3 : Int32) h) = x2 then (gX12_mayShow b0 f 11 (x1 : Int32) (x2 : Int32) (x3 : Int32) (1 : Int32) ((x5 + (1 : Int32)) : Int32) h) else (gX12_mayShow b0 f 11 (x1 : Int32) (x2 : Int32) (x3 : Int32) (0 : Int32) ((x5 + (1 : Int32)) : Int32) h))) else (gd (x4 = 0 ∨ x4 = 1) ((some (x4, h))))))) else none
theorem tX12_mayShow {d : Nat} {b0 : Nat} {h0 : ea_H} (hd : 2 ≤ d) : ∀ (f lbl : Nat) (x1 : Int32) (x2 : Int32) (x3 : Int32) (x4 : Int32) (x5 : Int32) (h : ea_H) (r : Int32) (h' : ea_H), gX12_mayShow b0 f lbl x1 x2 x3 x4 x5 h = some (r, h') → ShM b0 h → (lbl = 0 → ea_W mX12_mayShow d h0 (some (vI r)) h' 0 [(0, vR (some (b0 + 0))), (1, vI x1), (2, vI x2), (3, vI x3)] [] h) ∧ (lbl = 11 → ea_W mX12_mayShow d h0 (some (vI r)) h' 11 [(0, vR (some (b0 + 0))), (1, vI x1), (2, vI x2), (3, vI x3), (4, vI x4), (5, vI x5)] [] h) := by
  intro f
  induction f with
  | zero => intro lbl x1 x2 x3 x4 x5 h r h' E; cases E
  | succ f ih =>
    intro lbl x1 x2 x3 x4 x5 h r h' E hs
    unfold gX12_mayShow at E
    refine ⟨?_, ?_⟩
    · intro el
      subst el
      have E := (if_pos rfl).symm.trans E
      refine ea_iconst (pc := 0) dX12_mayShow_0 (v := 0) rfl ?_
      refine ea_istore (pc := 1) (lv' := [(0, vR (some (b0 + 0))), (1, vI x1), (2, vI x2), (3, vI x3), (4, vI 0)]) dX12_mayShow_1 (Nat.le_of_ble_eq_true rfl) [1, 2, 3, 4, 0] rfl ?_
      refine ea_aload_n (pc := 3) dX12_mayShow_3 rfl 0 rfl ?_
      refine ea_getR (pc := 4) dX12_mayShow_4 ec_12 (k := 106) (Nat.le_of_ble_eq_true rfl) rfl (Or.inl ew_1451) (hs.1 0 (by decide)).1 (hs.1 0 (by decide)).2.1 (hs.2 0 106 rfl) ?_
      refine ea_iload_n (pc := 7) dX12_mayShow_7 rfl 1 rfl ?_
      obtain ⟨z1, E⟩ := gd_some E
      refine ea_iald (pc := 8) dX12_mayShow_8 (hs.1 78 (by decide)).1 (hs.1 78 (by decide)).2.1 (ea_vpl (hs.1 78 (by decide)).2.2 z1) ?_
      refine ea_istore (pc := 9) (lv' := [(0, vR (some (b0 + 0))), (1, vI x1), (2, vI x2), (3, vI x3), (4, vI 0), (5, vI (ea_i h (b0 + 78) (Int32.toNatClampNeg x1)))]) dX12_mayShow_9 (Nat.le_of_ble_eq_true rfl) [1, 2, 3, 4, 5, 0] rfl ?_
      exact ((ih 11 (x1 : Int32) (x2 : Int32) (x3 : Int32) (0 : Int32) ((ea_i h (b0 + 78) (Int32.toNatClampNeg x1)) : Int32) h _ _ E hs).2 rfl)
    intro el
    subst el
    have E := (if_neg (by decide)).symm.trans E
    have E := (if_pos rfl).symm.trans E
    refine ea_iload (pc := 11) dX12_mayShow_11 5 rfl ?_
    refine ea_aload_n (pc := 13) dX12_mayShow_13 rfl 0 rfl ?_
    refine ea_getR (pc := 14) dX12_mayShow_14 ec_12 (k := 107) (Nat.le_of_ble_eq_true rfl) rfl (Or.inl ew_1452) (hs.1 0 (by decide)).1 (hs.1 0 (by decide)).2.1 (hs.2 0 107 rfl) ?_
    refine ea_iload_n (pc := 17) dX12_mayShow_17 rfl 1 rfl ?_
    obtain ⟨z2, E⟩ := gd_some E
    refine ea_iald (pc := 18) dX12_mayShow_18 (hs.1 79 (by decide)).1 (hs.1 79 (by decide)).2.1 (ea_vpl (hs.1 79 (by decide)).2.2 z2) ?_
    refine ea_icmp_gt (pc := 19) (tgt := 52) dX12_mayShow_19 rfl (fun c8 => ?_) (fun c8 => ?_)
    · have E := (if_pos c8).symm.trans E
      refine ea_iload (pc := 52) dX12_mayShow_52 4 rfl ?_
      obtain ⟨z3, E⟩ := gd_some E
      cases E
      exact ea_ireturn (pc := 54) dX12_mayShow_54 rfl (ea_bn z3)
    · have E := (if_neg c8).symm.trans E
      refine ea_iload (pc := 22) dX12_mayShow_22 4 rfl ?_
      refine ea_if_ne (pc := 24) (tgt := 52) dX12_mayShow_24 rfl (fun c7 => ?_) (fun c7 => ?_)
      · have E := (if_neg c7).symm.trans E
        refine ea_iload (pc := 52) dX12_mayShow_52 4 rfl ?_
        obtain ⟨z4, E⟩ := gd_some E
        cases E
        exact ea_ireturn (pc := 54) dX12_mayShow_54 rfl (ea_bn z4)
      · have E := (if_pos c7).symm.trans E
        refine ea_aload_n (pc := 27) dX12_mayShow_27 rfl 0 rfl ?_
        refine ea_iload_n (pc := 28) dX12_mayShow_28 rfl 1 rfl ?_
        refine ea_iload (pc := 29) dX12_mayShow_29 5 rfl ?_
        refine ea_iload_n (pc := 31) dX12_mayShow_31 rfl 3 rfl ?_
        obtain ⟨z5, E⟩ := gd_some E
        refine ea_callV (pc := 32) (d' := d - 1) (As := [vI x1, vI x5, vI x3]) (st := []) dX12_mayShow_32 kX12_shows (sX12_shows (d := d - 1) (by omega) hs z5) (by omega) rfl (Nat.le_of_ble_eq_true rfl) ew_2150 ew_2152 ew_102 (ci := 12) rfl (by decide) (hs.1 0 (by decide)).1 (hs.1 0 (by decide)).2.1 ?_
        refine ea_iload_n (pc := 35) dX12_mayShow_35 rfl 2 rfl ?_
        refine ea_icmp_ne (pc := 36) (tgt := 43) dX12_mayShow_36 rfl (fun c6 => ?_) (fun c6 => ?_)
        · have E := (if_neg c6).symm.trans E
          refine ea_iconst (pc := 43) dX12_mayShow_43 (v := 0) rfl ?_
          refine ea_istore (pc := 44) (lv' := [(0, vR (some (b0 + 0))), (1, vI x1), (2, vI x2), (3, vI x3), (4, vI 0), (5, vI x5)]) dX12_mayShow_44 (Nat.le_of_ble_eq_true rfl) [1, 2, 3, 4, 0, 5] rfl ?_
          refine ea_iinc (pc := 46) (v := 1) (lv' := [(0, vR (some (b0 + 0))), (1, vI x1), (2, vI x2), (3, vI x3), (4, vI 0), (5, vI (x5 + (1 : Int32)))]) dX12_mayShow_46 5 rfl rfl (Nat.le_of_ble_eq_true rfl) [1, 2, 3, 4, 5, 0] rfl ?_
          refine ea_goto (pc := 49) (tgt := 11) dX12_mayShow_49 rfl ?_
          exact ((ih 11 (x1 : Int32) (x2 : Int32) (x3 : Int32) (0 : Int32) ((x5 + (1 : Int32)) : Int32) h _ _ E hs).2 rfl)
        · have E := (if_pos c6).symm.trans E
          refine ea_iconst (pc := 39) dX12_mayShow_39 (v := 1) rfl ?_
          refine ea_goto (pc := 40) (tgt := 44) dX12_mayShow_40 rfl ?_
          refine ea_istore (pc := 44) (lv' := [(0, vR (some (b0 + 0))), (1, vI x1), (2, vI x2), (3, vI x3), (4, vI 1), (5, vI x5)]) dX12_mayShow_44 (Nat.le_of_ble_eq_true rfl) [1, 2, 3, 4, 0, 5] rfl ?_
          refine ea_iinc (pc := 46) (v := 1) (lv' := [(0, vR (some (b0 + 0))), (1, vI x1), (2, vI x2), (3, vI x3), (4, vI 1), (5, vI (x5 + (1 : Int32)))]) dX12_mayShow_46 5 rfl rfl (Nat.le_of_ble_eq_true rfl) [1, 2, 3, 4, 5, 0] rfl ?_
          refine ea_goto (pc := 49) (tgt := 11) dX12_mayShow_49 rfl ?_
          exact ((ih 11 (x1 : Int32) (x2 : Int32) (x3 : Int32) (1 : Int32) ((x5 + (1 : Int32)) : Int32) h _ _ E hs).2 rfl)
noncomputable def qX12_mayShow (b0 : Nat) (x1 : Int32) (x2 : Int32) (x3 : Int32) (h : ea_H) : Option (Int32 × ea_H) := gX12_mayShow b0 1000000000 0 x1 x2 x3 0 0 h
def okX12_mayShow (b0 : Nat) (x1 : Int32) (x2 : Int32) (x3 : Int32) (h : ea_H) : Prop := ∃ x, qX12_mayShow b0 x1 x2 x3 h = some x
noncomputable def vX12_mayShow (b0 : Nat) (x1 : Int32) (x2 : Int32) (x3 : Int32) (h : ea_H) : Int32 := ((qX12_mayShow b0 x1 x2 x3 h).getD (0, h)).1
noncomputable def wX12_mayShow (b0 : Nat) (x1 : Int32) (x2 : Int32) (x3 : Int32) (h : ea_H) : ea_H := ((qX12_mayShow b0 x1 x2 x3 h).getD (0, h)).2
theorem sX12_mayShow {d : Nat} {b0 : Nat} {x1 : Int32} {x2 : Int32} {x3 : Int32} {h : ea_H} (hd : 2 ≤ d) (hs : ShM b0 h) (K : okX12_mayShow b0 x1 x2 x3 h) : ea_Met mX12_mayShow d [vR (some (b0 + 0)), vI x1, vI x2, vI x3] h (some (vI (vX12_mayShow b0 x1 x2 x3 h))) (wX12_mayShow b0 x1 x2 x3 h) := by
  obtain ⟨⟨x, y⟩, K⟩ := K
  unfold wX12_mayShow vX12_mayShow
  rw [K]
  unfold qX12_mayShow at K
  exact ea_enter rfl (Nat.le_of_ble_eq_true rfl) ((tX12_mayShow hd 1000000000 0 x1 x2 x3 0 0 h x y K hs).1 rfl)
theorem zX12_mayShow {b0 : Nat} : ∀ (f lbl : Nat) (x1 : Int32) (x2 : Int32) (x3 : Int32) (x4 : Int32) (x5 : Int32) (h : ea_H) (r : Int32) (h' : ea_H), gX12_mayShow b0 f lbl x1 x2 x3 x4 x5 h = some (r, h') → ShM b0 h → ShM b0 h' := by
  intro f
  induction f with
  | zero => intro lbl x1 x2 x3 x4 x5 h r h' E; cases E
  | succ f ih =>
    intro lbl x1 x2 x3 x4 x5 h r h' E hs
    unfold gX12_mayShow at E
    by_cases el0 : lbl = 0
    · have E := (if_pos el0).symm.trans E
      obtain ⟨z1, E⟩ := gd_some E
      exact ih 11 (x1 : Int32) (x2 : Int32) (x3 : Int32) (0 : Int32) ((ea_i h (b0 + 78) (Int32.toNatClampNeg x1)) : Int32) h _ _ E hs
    have E := (if_neg el0).symm.trans E
    by_cases el1 : lbl = 11
    · have E := (if_pos el1).symm.trans E
      obtain ⟨z2, E⟩ := gd_some E
      by_cases c8 : (ea_i h (b0 + 79) (Int32.toNatClampNeg x1)) < x5
      · have E := (if_pos c8).symm.trans E
        obtain ⟨z3, E⟩ := gd_some E
        cases E
        exact hs
      have E := (if_neg c8).symm.trans E
      by_cases c7 : x4 = (0 : Int32)
      · have E := (if_pos c7).symm.trans E
        obtain ⟨z5, E⟩ := gd_some E
        by_cases c6 : (vX12_shows b0 (x1 : Int32) (x5 : Int32) (x3 : Int32) h) = x2
        · have E := (if_pos c6).symm.trans E
          exact ih 11 (x1 : Int32) (x2 : Int32) (x3 : Int32) (1 : Int32) ((x5 + (1 : Int32)) : Int32) h _ _ E hs
        have E := (if_neg c6).symm.trans E
        exact ih 11 (x1 : Int32) (x2 : Int32) (x3 : Int32) (0 : Int32) ((x5 + (1 : Int32)) : Int32) h _ _ E hs
      have E := (if_neg c7).symm.trans E
      obtain ⟨z4, E⟩ := gd_some E
      cases E
      exact hs
    have E := (if_neg el1).symm.trans E
    cases E
theorem shX12_mayShow {b0 : Nat} {x1 : Int32} {x2 : Int32} {x3 : Int32} {h : ea_H} (hs : ShM b0 h) : ShM b0 (wX12_mayShow b0 x1 x2 x3 h) := by
  unfold wX12_mayShow
  cases K : qX12_mayShow b0 x1 x2 x3 h with
  | none => exact hs
  | some x => obtain ⟨x, y⟩ := x; unfold qX12_mayShow at K; exact zX12_mayShow _ _ _ _ _ _ _ _ _ _ K hs
noncomputable def gX12_trueMinute (b0 : Nat) : Nat → Nat → Int32 → Int32 → Int32 → Int32 → Int32 → ea_H → Option (Int32 × ea_H)
  | 0, _, _, _, _, _, _, _ => none
  | f + 1, lbl, x1, x2, x3, x4, x5, h =>
    if lbl = 0 then (if (vX12_isTrain b0 (x1 : Int32) h) = (0 : Int32) then (some (((-1) : Int32), h)) else (if (vX12_isMinute (x2 : Int32) h) = (0 : Int32) then (some (((-1) : Int32), h)) else (if (vX12_isIn (x3 : Int32) (0 : Int32) (1 : Int32) h) = (0 : Int32) then (some (((-1) : Int32), h)) else (gd (vp_in x1 10) (gX12_trueMinute b0 f 37 (x1 : Int32) (x2 : Int32) (x3 : Int32) ((-1) : Int32) ((ea_i h (b0 + 80) (Int32.toNatClampNeg x1)) : Int32) h))))) else
    if lbl = 37 then (if (10079 : Int32) < x5 then (some (x4, h)) else (if x3 = (1 : Int32) then (gX12_trueMinute b0 f 56 (x1 : Int32) (x2 : Int32) (x3 : Int32) (x4 : Int32) (x5 : Int32) h) else (if x4 = ((-1) : Int32) then (gX12_trueMinute b0 f 56 (x1 : Int32) (x2 : Int32) (x3 : Int32) (x4 : Int32) (x5 : Int32) h) else (some (x4, h))))) else
    if lbl = 56 then (gd ((okX12_mayShow b0 (x1 : Int32) (x2 : Int32) (x5 : Int32) h)) (if (vX12_mayShow b0 (x1 : Int32) (x2 : Int32) (x5 : Int32) h) = (0 : Int32) then (gX12_trueMinute b0 f 37 (x1 : Int32) (x2 : Int32) (x3 : Int32) (x4 : Int32) ((x5 + (1 : Int32)) : Int32) (wX12_mayShow b0 (x1 : Int32) (x2 : Int32) (x5 : Int32) h)) else (gX12_trueMinute b0 f 37 (x1 : Int32) (x2 : Int32) (x3 : Int32) (x5 : Int32) ((x5 + (1 : Int32)) : Int32) (wX12_mayShow b0 (x1 : Int32) (x2 : Int32) (x5 : Int32) h)))) else none
theorem tX12_trueMinute {d : Nat} {b0 : Nat} {h0 : ea_H} (hd : 3 ≤ d) : ∀ (f lbl : Nat) (x1 : Int32) (x2 : Int32) (x3 : Int32) (x4 : Int32) (x5 : Int32) (h : ea_H) (r : Int32) (h' : ea_H), gX12_trueMinute b0 f lbl x1 x2 x3 x4 x5 h = some (r, h') → ShM b0 h → (lbl = 0 → ea_W mX12_trueMinute d h0 (some (vI r)) h' 0 [(0, vR (some (b0 + 0))), (1, vI x1), (2, vI x2), (3, vI x3)] [] h) ∧ (lbl = 37 → ea_W mX12_trueMinute d h0 (some (vI r)) h' 37 [(0, vR (some (b0 + 0))), (1, vI x1), (2, vI x2), (3, vI x3), (4, vI x4), (5, vI x5)] [] h) ∧ (lbl = 56 → ea_W mX12_trueMinute d h0 (some (vI r)) h' 56 [(0, vR (some (b0 + 0))), (1, vI x1), (2, vI x2), (3, vI x3), (4, vI x4), (5, vI x5)] [] h) := by
  intro f
  induction f with
  | zero => intro lbl x1 x2 x3 x4 x5 h r h' E; cases E
  | succ f ih =>
    intro lbl x1 x2 x3 x4 x5 h r h' E hs
    unfold gX12_trueMinute at E
    refine ⟨?_, ?_⟩
    · intro el
      subst el
      have E := (if_pos rfl).symm.trans E
      refine ea_aload_n (pc := 0) dX12_trueMinute_0 rfl 0 rfl ?_
      refine ea_iload_n (pc := 1) dX12_trueMinute_1 rfl 1 rfl ?_
      refine ea_callV (pc := 2) (d' := d - 1) (As := [vI x1]) (st := []) dX12_trueMinute_2 kX12_isTrain (sX12_isTrain (d := d - 1) (by omega) hs) (by omega) rfl (Nat.le_of_ble_eq_true rfl) ew_1736 ew_1738 ew_50 (ci := 12) rfl (by decide) (hs.1 0 (by decide)).1 (hs.1 0 (by decide)).2.1 ?_
      refine ea_if_eq (pc := 5) (tgt := 24) dX12_trueMinute_5 rfl (fun c7 => ?_) (fun c7 => ?_)
      · have E := (if_pos c7).symm.trans E
        refine ea_iconst (pc := 24) dX12_trueMinute_24 (v := (-1)) rfl ?_
        cases E
        exact ea_ireturn (pc := 25) dX12_trueMinute_25 rfl rfl
      · have E := (if_neg c7).symm.trans E
        refine ea_iload_n (pc := 8) dX12_trueMinute_8 rfl 2 rfl ?_
        refine ea_callS (pc := 9) (d' := d - 1) (As := [vI x2]) (st := []) dX12_trueMinute_9 kX12_isMinute (sX12_isMinute (d := d - 1) (by omega)) (by omega) rfl (Nat.le_of_ble_eq_true rfl) ew_2147 ew_2148 ?_
        refine ea_if_eq (pc := 12) (tgt := 24) dX12_trueMinute_12 rfl (fun c6 => ?_) (fun c6 => ?_)
        · have E := (if_pos c6).symm.trans E
          refine ea_iconst (pc := 24) dX12_trueMinute_24 (v := (-1)) rfl ?_
          cases E
          exact ea_ireturn (pc := 25) dX12_trueMinute_25 rfl rfl
        · have E := (if_neg c6).symm.trans E
          refine ea_iload_n (pc := 15) dX12_trueMinute_15 rfl 3 rfl ?_
          refine ea_iconst (pc := 16) dX12_trueMinute_16 (v := 0) rfl ?_
          refine ea_iconst (pc := 17) dX12_trueMinute_17 (v := 1) rfl ?_
          refine ea_callS (pc := 18) (d' := d - 1) (As := [vI x3, vI 0, vI 1]) (st := []) dX12_trueMinute_18 kX12_isIn (sX12_isIn (d := d - 1) (by omega)) (by omega) rfl (Nat.le_of_ble_eq_true rfl) ew_1712 ew_1713 ?_
          refine ea_if_ne (pc := 21) (tgt := 26) dX12_trueMinute_21 rfl (fun c5 => ?_) (fun c5 => ?_)
          · have E := (if_neg c5).symm.trans E
            refine ea_iconst (pc := 26) dX12_trueMinute_26 (v := (-1)) rfl ?_
            refine ea_istore (pc := 27) (lv' := [(0, vR (some (b0 + 0))), (1, vI x1), (2, vI x2), (3, vI x3), (4, vI (-1))]) dX12_trueMinute_27 (Nat.le_of_ble_eq_true rfl) [1, 2, 3, 4, 0] rfl ?_
            refine ea_aload_n (pc := 29) dX12_trueMinute_29 rfl 0 rfl ?_
            refine ea_getR (pc := 30) dX12_trueMinute_30 ec_12 (k := 108) (Nat.le_of_ble_eq_true rfl) rfl (Or.inl ew_1453) (hs.1 0 (by decide)).1 (hs.1 0 (by decide)).2.1 (hs.2 0 108 rfl) ?_
            refine ea_iload_n (pc := 33) dX12_trueMinute_33 rfl 1 rfl ?_
            obtain ⟨z4, E⟩ := gd_some E
            refine ea_iald (pc := 34) dX12_trueMinute_34 (hs.1 80 (by decide)).1 (hs.1 80 (by decide)).2.1 (ea_vpl (hs.1 80 (by decide)).2.2 z4) ?_
            refine ea_istore (pc := 35) (lv' := [(0, vR (some (b0 + 0))), (1, vI x1), (2, vI x2), (3, vI x3), (4, vI (-1)), (5, vI (ea_i h (b0 + 80) (Int32.toNatClampNeg x1)))]) dX12_trueMinute_35 (Nat.le_of_ble_eq_true rfl) [1, 2, 3, 4, 5, 0] rfl ?_
            exact ((ih 37 (x1 : Int32) (x2 : Int32) (x3 : Int32) ((-1) : Int32) ((ea_i h (b0 + 80) (Int32.toNatClampNeg x1)) : Int32) h _ _ E hs).2.1 rfl)
          · have E := (if_pos c5).symm.trans E
            refine ea_iconst (pc := 24) dX12_trueMinute_24 (v := (-1)) rfl ?_
            cases E
            exact ea_ireturn (pc := 25) dX12_trueMinute_25 rfl rfl
    refine ⟨?_, ?_⟩
    · intro el
      subst el
      have E := (if_neg (by decide)).symm.trans E
      have E := (if_pos rfl).symm.trans E
      refine ea_iload (pc := 37) dX12_trueMinute_37 5 rfl ?_
      refine ea_sipush (pc := 39) dX12_trueMinute_39 (v := 10079) rfl ?_
      refine ea_icmp_gt (pc := 42) (tgt := 77) dX12_trueMinute_42 rfl (fun c10 => ?_) (fun c10 => ?_)
      · have E := (if_pos c10).symm.trans E
        refine ea_iload (pc := 77) dX12_trueMinute_77 4 rfl ?_
        cases E
        exact ea_ireturn (pc := 79) dX12_trueMinute_79 rfl rfl
      · have E := (if_neg c10).symm.trans E
        refine ea_iload_n (pc := 45) dX12_trueMinute_45 rfl 3 rfl ?_
        refine ea_iconst (pc := 46) dX12_trueMinute_46 (v := 1) rfl ?_
        refine ea_icmp_eq (pc := 47) (tgt := 56) dX12_trueMinute_47 rfl (fun c9 => ?_) (fun c9 => ?_)
        · have E := (if_pos c9).symm.trans E
          exact ((ih 56 (x1 : Int32) (x2 : Int32) (x3 : Int32) (x4 : Int32) (x5 : Int32) h _ _ E hs).2.2 rfl)
        · have E := (if_neg c9).symm.trans E
          refine ea_iload (pc := 50) dX12_trueMinute_50 4 rfl ?_
          refine ea_iconst (pc := 52) dX12_trueMinute_52 (v := (-1)) rfl ?_
          refine ea_icmp_ne (pc := 53) (tgt := 77) dX12_trueMinute_53 rfl (fun c8 => ?_) (fun c8 => ?_)
          · have E := (if_neg c8).symm.trans E
            refine ea_iload (pc := 77) dX12_trueMinute_77 4 rfl ?_
            cases E
            exact ea_ireturn (pc := 79) dX12_trueMinute_79 rfl rfl
          · have E := (if_pos c8).symm.trans E
            exact ((ih 56 (x1 : Int32) (x2 : Int32) (x3 : Int32) (x4 : Int32) (x5 : Int32) h _ _ E hs).2.2 rfl)
    intro el
    subst el
    have E := (if_neg (by decide)).symm.trans E
    have E := (if_neg (by decide)).symm.trans E
    have E := (if_pos rfl).symm.trans E
    refine ea_aload_n (pc := 56) dX12_trueMinute_56 rfl 0 rfl ?_
    refine ea_iload_n (pc := 57) dX12_trueMinute_57 rfl 1 rfl ?_
    refine ea_iload_n (pc := 58) dX12_trueMinute_58 rfl 2 rfl ?_
    refine ea_iload (pc := 59) dX12_trueMinute_59 5 rfl ?_
    obtain ⟨z11, E⟩ := gd_some E
    refine ea_callV (pc := 61) (d' := d - 1) (As := [vI x1, vI x2, vI x5]) (st := []) dX12_trueMinute_61 kX12_mayShow (sX12_mayShow (d := d - 1) (by omega) hs z11) (by omega) rfl (Nat.le_of_ble_eq_true rfl) ew_2163 ew_2165 ew_103 (ci := 12) rfl (by decide) (hs.1 0 (by decide)).1 (hs.1 0 (by decide)).2.1 ?_
    have hs12 : ShM b0 (wX12_mayShow b0 (x1 : Int32) (x2 : Int32) (x5 : Int32) h) := shX12_mayShow hs
    refine ea_if_eq (pc := 64) (tgt := 71) dX12_trueMinute_64 rfl (fun c13 => ?_) (fun c13 => ?_)
    · have E := (if_pos c13).symm.trans E
      refine ea_iinc (pc := 71) (v := 1) (lv' := [(0, vR (some (b0 + 0))), (1, vI x1), (2, vI x2), (3, vI x3), (4, vI x4), (5, vI (x5 + (1 : Int32)))]) dX12_trueMinute_71 5 rfl rfl (Nat.le_of_ble_eq_true rfl) [1, 2, 3, 4, 5, 0] rfl ?_
      refine ea_goto (pc := 74) (tgt := 37) dX12_trueMinute_74 rfl ?_
      exact ((ih 37 (x1 : Int32) (x2 : Int32) (x3 : Int32) (x4 : Int32) ((x5 + (1 : Int32)) : Int32) (wX12_mayShow b0 (x1 : Int32) (x2 : Int32) (x5 : Int32) h) _ _ E hs12).2.1 rfl)
    · have E := (if_neg c13).symm.trans E
      refine ea_iload (pc := 67) dX12_trueMinute_67 5 rfl ?_
      refine ea_istore (pc := 69) (lv' := [(0, vR (some (b0 + 0))), (1, vI x1), (2, vI x2), (3, vI x3), (4, vI x5), (5, vI x5)]) dX12_trueMinute_69 (Nat.le_of_ble_eq_true rfl) [1, 2, 3, 4, 0, 5] rfl ?_
      refine ea_iinc (pc := 71) (v := 1) (lv' := [(0, vR (some (b0 + 0))), (1, vI x1), (2, vI x2), (3, vI x3), (4, vI x5), (5, vI (x5 + (1 : Int32)))]) dX12_trueMinute_71 5 rfl rfl (Nat.le_of_ble_eq_true rfl) [1, 2, 3, 4, 5, 0] rfl ?_
      refine ea_goto (pc := 74) (tgt := 37) dX12_trueMinute_74 rfl ?_
      exact ((ih 37 (x1 : Int32) (x2 : Int32) (x3 : Int32) (x5 : Int32) ((x5 + (1 : Int32)) : Int32) (wX12_mayShow b0 (x1 : Int32) (x2 : Int32) (x5 : Int32) h) _ _ E hs12).2.1 rfl)
noncomputable def qX12_trueMinute (b0 : Nat) (x1 : Int32) (x2 : Int32) (x3 : Int32) (h : ea_H) : Option (Int32 × ea_H) := gX12_trueMinute b0 1000000000 0 x1 x2 x3 0 0 h
def okX12_trueMinute (b0 : Nat) (x1 : Int32) (x2 : Int32) (x3 : Int32) (h : ea_H) : Prop := ∃ x, qX12_trueMinute b0 x1 x2 x3 h = some x
noncomputable def vX12_trueMinute (b0 : Nat) (x1 : Int32) (x2 : Int32) (x3 : Int32) (h : ea_H) : Int32 := ((qX12_trueMinute b0 x1 x2 x3 h).getD (0, h)).1
noncomputable def wX12_trueMinute (b0 : Nat) (x1 : Int32) (x2 : Int32) (x3 : Int32) (h : ea_H) : ea_H := ((qX12_trueMinute b0 x1 x2 x3 h).getD (0, h)).2
theorem sX12_trueMinute {d : Nat} {b0 : Nat} {x1 : Int32} {x2 : Int32} {x3 : Int32} {h : ea_H} (hd : 3 ≤ d) (hs : ShM b0 h) (K : okX12_trueMinute b0 x1 x2 x3 h) : ea_Met mX12_trueMinute d [vR (some (b0 + 0)), vI x1, vI x2, vI x3] h (some (vI (vX12_trueMinute b0 x1 x2 x3 h))) (wX12_trueMinute b0 x1 x2 x3 h) := by
  obtain ⟨⟨x, y⟩, K⟩ := K
  unfold wX12_trueMinute vX12_trueMinute
  rw [K]
  unfold qX12_trueMinute at K
  exact ea_enter rfl (Nat.le_of_ble_eq_true rfl) ((tX12_trueMinute hd 1000000000 0 x1 x2 x3 0 0 h x y K hs).1 rfl)
theorem zX12_trueMinute {b0 : Nat} : ∀ (f lbl : Nat) (x1 : Int32) (x2 : Int32) (x3 : Int32) (x4 : Int32) (x5 : Int32) (h : ea_H) (r : Int32) (h' : ea_H), gX12_trueMinute b0 f lbl x1 x2 x3 x4 x5 h = some (r, h') → ShM b0 h → ShM b0 h' := by
  intro f
  induction f with
  | zero => intro lbl x1 x2 x3 x4 x5 h r h' E; cases E
  | succ f ih =>
    intro lbl x1 x2 x3 x4 x5 h r h' E hs
    unfold gX12_trueMinute at E
    by_cases el0 : lbl = 0
    · have E := (if_pos el0).symm.trans E
      by_cases c7 : (vX12_isTrain b0 (x1 : Int32) h) = (0 : Int32)
      · have E := (if_pos c7).symm.trans E
        cases E
        exact hs
      have E := (if_neg c7).symm.trans E
      by_cases c6 : (vX12_isMinute (x2 : Int32) h) = (0 : Int32)
      · have E := (if_pos c6).symm.trans E
        cases E
        exact hs
      have E := (if_neg c6).symm.trans E
      by_cases c5 : (vX12_isIn (x3 : Int32) (0 : Int32) (1 : Int32) h) = (0 : Int32)
      · have E := (if_pos c5).symm.trans E
        cases E
        exact hs
      have E := (if_neg c5).symm.trans E
      obtain ⟨z4, E⟩ := gd_some E
      exact ih 37 (x1 : Int32) (x2 : Int32) (x3 : Int32) ((-1) : Int32) ((ea_i h (b0 + 80) (Int32.toNatClampNeg x1)) : Int32) h _ _ E hs
    have E := (if_neg el0).symm.trans E
    by_cases el1 : lbl = 37
    · have E := (if_pos el1).symm.trans E
      by_cases c10 : (10079 : Int32) < x5
      · have E := (if_pos c10).symm.trans E
        cases E
        exact hs
      have E := (if_neg c10).symm.trans E
      by_cases c9 : x3 = (1 : Int32)
      · have E := (if_pos c9).symm.trans E
        exact ih 56 (x1 : Int32) (x2 : Int32) (x3 : Int32) (x4 : Int32) (x5 : Int32) h _ _ E hs
      have E := (if_neg c9).symm.trans E
      by_cases c8 : x4 = ((-1) : Int32)
      · have E := (if_pos c8).symm.trans E
        exact ih 56 (x1 : Int32) (x2 : Int32) (x3 : Int32) (x4 : Int32) (x5 : Int32) h _ _ E hs
      have E := (if_neg c8).symm.trans E
      cases E
      exact hs
    have E := (if_neg el1).symm.trans E
    by_cases el2 : lbl = 56
    · have E := (if_pos el2).symm.trans E
      obtain ⟨z11, E⟩ := gd_some E
      by_cases c13 : (vX12_mayShow b0 (x1 : Int32) (x2 : Int32) (x5 : Int32) h) = (0 : Int32)
      · have E := (if_pos c13).symm.trans E
        exact ih 37 (x1 : Int32) (x2 : Int32) (x3 : Int32) (x4 : Int32) ((x5 + (1 : Int32)) : Int32) (wX12_mayShow b0 (x1 : Int32) (x2 : Int32) (x5 : Int32) h) _ _ E (shX12_mayShow hs)
      have E := (if_neg c13).symm.trans E
      exact ih 37 (x1 : Int32) (x2 : Int32) (x3 : Int32) (x5 : Int32) ((x5 + (1 : Int32)) : Int32) (wX12_mayShow b0 (x1 : Int32) (x2 : Int32) (x5 : Int32) h) _ _ E (shX12_mayShow hs)
    have E := (if_neg el2).symm.trans E
    cases E
theorem shX12_trueMinute {b0 : Nat} {x1 : Int32} {x2 : Int32} {x3 : Int32} {h : ea_H} (hs : ShM b0 h) : ShM b0 (wX12_trueMinute b0 x1 x2 x3 h) := by
  unfold wX12_trueMinute
  cases K : qX12_trueMinute b0 x1 x2 x3 h with
  | none => exact hs
  | some x => obtain ⟨x, y⟩ := x; unfold qX12_trueMinute at K; exact zX12_trueMinute _ _ _ _ _ _ _ _ _ _ K hs
noncomputable def gX12_tried (b0 : Nat) : Nat → Nat → Int32 → Int32 → Int64 → ea_H → Option (Int64 × ea_H)
  | 0, _, _, _, _, _ => none
  | f + 1, lbl, x1, x4, y2, h =>
    if lbl = 0 then (if (vX12_isIn (x1 : Int32) (0 : Int32) (((ea_i h (b0 + 0) 25) - (1 : Int32)) : Int32) h) = (0 : Int32) then (some (((-1) : Int64), h)) else (gX12_tried b0 f 23 (x1 : Int32) (0 : Int32) (0 : Int64) h)) else
    if lbl = 23 then (if (ea_i h (b0 + 0) 63) ≤ x4 then (some (y2, h)) else (gd ((okX12_chargeBy b0 (x4 : Int32) (x1 : Int32) h)) (gX12_tried b0 f 23 (x1 : Int32) ((x4 + (1 : Int32)) : Int32) ((y2 + (Int32.toInt64 (vX12_chargeBy b0 (x4 : Int32) (x1 : Int32) h))) : Int64) (wX12_chargeBy b0 (x4 : Int32) (x1 : Int32) h)))) else none
theorem tX12_tried {d : Nat} {b0 : Nat} {h0 : ea_H} (hd : 5 ≤ d) : ∀ (f lbl : Nat) (x1 : Int32) (x4 : Int32) (y2 : Int64) (h : ea_H) (r : Int64) (h' : ea_H), gX12_tried b0 f lbl x1 x4 y2 h = some (r, h') → ShM b0 h → (lbl = 0 → ea_W mX12_tried d h0 (some (vJ r)) h' 0 [(0, vR (some (b0 + 0))), (1, vI x1)] [] h) ∧ (lbl = 23 → ea_W mX12_tried d h0 (some (vJ r)) h' 23 [(0, vR (some (b0 + 0))), (1, vI x1), (2, vJ y2), (4, vI x4)] [] h) := by
  intro f
  induction f with
  | zero => intro lbl x1 x4 y2 h r h' E; cases E
  | succ f ih =>
    intro lbl x1 x4 y2 h r h' E hs
    unfold gX12_tried at E
    refine ⟨?_, ?_⟩
    · intro el
      subst el
      have E := (if_pos rfl).symm.trans E
      refine ea_iload_n (pc := 0) dX12_tried_0 rfl 1 rfl ?_
      refine ea_iconst (pc := 1) dX12_tried_1 (v := 0) rfl ?_
      refine ea_aload_n (pc := 2) dX12_tried_2 rfl 0 rfl ?_
      refine ea_getI (pc := 3) dX12_tried_3 ec_12 (k := 25) (Nat.le_of_ble_eq_true rfl) rfl (Or.inl ew_1370) (hs.1 0 (by decide)).1 (hs.1 0 (by decide)).2.1 ?_
      refine ea_iconst (pc := 6) dX12_tried_6 (v := 1) rfl ?_
      refine ea_isub (pc := 7) dX12_tried_7 ?_
      refine ea_callS (pc := 8) (d' := d - 1) (As := [vI x1, vI 0, vI ((ea_i h (b0 + 0) 25) - (1 : Int32))]) (st := []) dX12_tried_8 kX12_isIn (sX12_isIn (d := d - 1) (by omega)) (by omega) rfl (Nat.le_of_ble_eq_true rfl) ew_1712 ew_1713 ?_
      refine ea_if_ne (pc := 11) (tgt := 18) dX12_tried_11 rfl (fun c2 => ?_) (fun c2 => ?_)
      · have E := (if_neg c2).symm.trans E
        refine ea_lconst (pc := 18) dX12_tried_18 (v := 0) rfl ?_
        refine ea_lstore_n (pc := 19) (lv' := [(0, vR (some (b0 + 0))), (1, vI x1), (2, vJ 0)]) dX12_tried_19 rfl (Nat.le_of_ble_eq_true rfl) [1, 2, 0] rfl ?_
        refine ea_iconst (pc := 20) dX12_tried_20 (v := 0) rfl ?_
        refine ea_istore (pc := 21) (lv' := [(0, vR (some (b0 + 0))), (1, vI x1), (2, vJ 0), (4, vI 0)]) dX12_tried_21 (Nat.le_of_ble_eq_true rfl) [1, 2, 3, 0] rfl ?_
        exact ((ih 23 (x1 : Int32) (0 : Int32) (0 : Int64) h _ _ E hs).2 rfl)
      · have E := (if_pos c2).symm.trans E
        refine ea_ldc2 (pc := 14) dX12_tried_14 ew_2118 ?_
        cases E
        exact ea_lreturn (pc := 17) dX12_tried_17 rfl
    intro el
    subst el
    have E := (if_neg (by decide)).symm.trans E
    have E := (if_pos rfl).symm.trans E
    refine ea_iload (pc := 23) dX12_tried_23 3 rfl ?_
    refine ea_aload_n (pc := 25) dX12_tried_25 rfl 0 rfl ?_
    refine ea_getI (pc := 26) dX12_tried_26 ec_12 (k := 63) (Nat.le_of_ble_eq_true rfl) rfl (Or.inl ew_1408) (hs.1 0 (by decide)).1 (hs.1 0 (by decide)).2.1 ?_
    refine ea_icmp_ge (pc := 29) (tgt := 49) dX12_tried_29 rfl (fun c5 => ?_) (fun c5 => ?_)
    · have E := (if_pos c5).symm.trans E
      refine ea_lload_n (pc := 49) dX12_tried_49 rfl 2 rfl ?_
      cases E
      exact ea_lreturn (pc := 50) dX12_tried_50 rfl
    · have E := (if_neg c5).symm.trans E
      refine ea_lload_n (pc := 32) dX12_tried_32 rfl 2 rfl ?_
      refine ea_aload_n (pc := 33) dX12_tried_33 rfl 0 rfl ?_
      refine ea_iload (pc := 34) dX12_tried_34 3 rfl ?_
      refine ea_iload_n (pc := 36) dX12_tried_36 rfl 1 rfl ?_
      obtain ⟨z3, E⟩ := gd_some E
      refine ea_callV (pc := 37) (d' := d - 1) (As := [vI x4, vI x1]) (st := [vJ y2]) dX12_tried_37 kX12_chargeBy (sX12_chargeBy (d := d - 1) (by omega) hs z3) (by omega) rfl (Nat.le_of_ble_eq_true rfl) ew_1991 ew_1993 ew_84 (ci := 12) rfl (by decide) (hs.1 0 (by decide)).1 (hs.1 0 (by decide)).2.1 ?_
      have hs4 : ShM b0 (wX12_chargeBy b0 (x4 : Int32) (x1 : Int32) h) := shX12_chargeBy hs
      refine ea_i2l (pc := 40) dX12_tried_40 ?_
      refine ea_ladd (pc := 41) dX12_tried_41 ?_
      refine ea_lstore_n (pc := 42) (lv' := [(0, vR (some (b0 + 0))), (1, vI x1), (2, vJ (y2 + (Int32.toInt64 (vX12_chargeBy b0 (x4 : Int32) (x1 : Int32) h)))), (4, vI x4)]) dX12_tried_42 rfl (Nat.le_of_ble_eq_true rfl) [1, 2, 0, 3] rfl ?_
      refine ea_iinc (pc := 43) (v := 1) (lv' := [(0, vR (some (b0 + 0))), (1, vI x1), (2, vJ (y2 + (Int32.toInt64 (vX12_chargeBy b0 (x4 : Int32) (x1 : Int32) h)))), (4, vI (x4 + (1 : Int32)))]) dX12_tried_43 3 rfl rfl (Nat.le_of_ble_eq_true rfl) [1, 2, 3, 0] rfl ?_
      refine ea_goto (pc := 46) (tgt := 23) dX12_tried_46 rfl ?_
      exact ((ih 23 (x1 : Int32) ((x4 + (1 : Int32)) : Int32) ((y2 + (Int32.toInt64 (vX12_chargeBy b0 (x4 : Int32) (x1 : Int32) h))) : Int64) (wX12_chargeBy b0 (x4 : Int32) (x1 : Int32) h) _ _ E hs4).2 rfl)
noncomputable def qX12_tried (b0 : Nat) (x1 : Int32) (h : ea_H) : Option (Int64 × ea_H) := gX12_tried b0 1000000000 0 x1 0 0 h
def okX12_tried (b0 : Nat) (x1 : Int32) (h : ea_H) : Prop := ∃ x, qX12_tried b0 x1 h = some x
noncomputable def vX12_tried (b0 : Nat) (x1 : Int32) (h : ea_H) : Int64 := ((qX12_tried b0 x1 h).getD (0, h)).1
noncomputable def wX12_tried (b0 : Nat) (x1 : Int32) (h : ea_H) : ea_H := ((qX12_tried b0 x1 h).getD (0, h)).2
theorem sX12_tried {d : Nat} {b0 : Nat} {x1 : Int32} {h : ea_H} (hd : 5 ≤ d) (hs : ShM b0 h) (K : okX12_tried b0 x1 h) : ea_Met mX12_tried d [vR (some (b0 + 0)), vI x1] h (some (vJ (vX12_tried b0 x1 h))) (wX12_tried b0 x1 h) := by
  obtain ⟨⟨x, y⟩, K⟩ := K
  unfold wX12_tried vX12_tried
  rw [K]
  unfold qX12_tried at K
  exact ea_enter rfl (Nat.le_of_ble_eq_true rfl) ((tX12_tried hd 1000000000 0 x1 0 0 h x y K hs).1 rfl)
theorem zX12_tried {b0 : Nat} : ∀ (f lbl : Nat) (x1 : Int32) (x4 : Int32) (y2 : Int64) (h : ea_H) (r : Int64) (h' : ea_H), gX12_tried b0 f lbl x1 x4 y2 h = some (r, h') → ShM b0 h → ShM b0 h' := by
  intro f
  induction f with
  | zero => intro lbl x1 x4 y2 h r h' E; cases E
  | succ f ih =>
    intro lbl x1 x4 y2 h r h' E hs
    unfold gX12_tried at E
    by_cases el0 : lbl = 0
    · have E := (if_pos el0).symm.trans E
      by_cases c2 : (vX12_isIn (x1 : Int32) (0 : Int32) (((ea_i h (b0 + 0) 25) - (1 : Int32)) : Int32) h) = (0 : Int32)
      · have E := (if_pos c2).symm.trans E
        cases E
        exact hs
      have E := (if_neg c2).symm.trans E
      exact ih 23 (x1 : Int32) (0 : Int32) (0 : Int64) h _ _ E hs
    have E := (if_neg el0).symm.trans E
    by_cases el1 : lbl = 23
    · have E := (if_pos el1).symm.trans E
      by_cases c5 : (ea_i h (b0 + 0) 63) ≤ x4
      · have E := (if_pos c5).symm.trans E
        cases E
        exact hs
      have E := (if_neg c5).symm.trans E
      obtain ⟨z3, E⟩ := gd_some E
      exact ih 23 (x1 : Int32) ((x4 + (1 : Int32)) : Int32) ((y2 + (Int32.toInt64 (vX12_chargeBy b0 (x4 : Int32) (x1 : Int32) h))) : Int64) (wX12_chargeBy b0 (x4 : Int32) (x1 : Int32) h) _ _ E (shX12_chargeBy hs)
    have E := (if_neg el1).symm.trans E
    cases E
theorem shX12_tried {b0 : Nat} {x1 : Int32} {h : ea_H} (hs : ShM b0 h) : ShM b0 (wX12_tried b0 x1 h) := by
  unfold wX12_tried
  cases K : qX12_tried b0 x1 h with
  | none => exact hs
  | some x => obtain ⟨x, y⟩ := x; unfold qX12_tried at K; exact zX12_tried _ _ _ _ _ _ _ _ K hs
noncomputable def gX12_keeps (b0 : Nat) : Nat → Nat → Int32 → ea_H → Option (Unit × ea_H)
  | 0, _, _, _ => none
  | f + 1, lbl, x1, h =>
    if lbl = 0 then (gX12_keeps b0 f 2 (0 : Int32) h) else
    if lbl = 2 then (if (ea_i h (b0 + 0) 63) ≤ x1 then (gX12_keeps b0 f 114 (0 : Int32) h) else (gd (vp_in x1 120) (gd (vp_in x1 120) (gd (vp_in x1 120) (gd (vp_in x1 120) (gd (vp_in x1 120) (gd (vp_in x1 120) (gd (vp_in x1 120) (gd (vp_in x1 120) (gd (vp_in x1 120) (gd (vp_in x1 120) (gd (vp_in x1 120) (gd (vp_in x1 120) (gd (vp_in x1 120) (gd (vp_in x1 120) (gd (vp_in x1 120) (gd (vp_in x1 120) (gd (((ea_i (ea_wi (ea_wi (ea_wi (ea_wi (ea_wi (ea_wi (ea_wi h (b0 + 81) (Int32.toNatClampNeg x1) (ea_i h (b0 + 55) (Int32.toNatClampNeg x1))) (b0 + 82) (Int32.toNatClampNeg x1) (ea_i (ea_wi h (b0 + 81) (Int32.toNatClampNeg x1) (ea_i h (b0 + 55) (Int32.toNatClampNeg x1))) (b0 + 56) (Int32.toNatClampNeg x1))) (b0 + 83) (Int32.toNatClampNeg x1) (ea_i (ea_wi (ea_wi h (b0 + 81) (Int32.toNatClampNeg x1) (ea_i h (b0 + 55) (Int32.toNatClampNeg x1))) (b0 + 82) (Int32.toNatClampNeg x1) (ea_i (ea_wi h (b0 + 81) (Int32.toNatClampNeg x1) (ea_i h (b0 + 55) (Int32.toNatClampNeg x1))) (b0 + 56) (Int32.toNatClampNeg x1))) (b0 + 57) (Int32.toNatClampNeg x1))) (b0 + 84) (Int32.toNatClampNeg x1) (ea_i (ea_wi (ea_wi (ea_wi h (b0 + 81) (Int32.toNatClampNeg x1) (ea_i h (b0 + 55) (Int32.toNatClampNeg x1))) (b0 + 82) (Int32.toNatClampNeg x1) (ea_i (ea_wi h (b0 + 81) (Int32.toNatClampNeg x1) (ea_i h (b0 + 55) (Int32.toNatClampNeg x1))) (b0 + 56) (Int32.toNatClampNeg x1))) (b0 + 83) (Int32.toNatClampNeg x1) (ea_i (ea_wi (ea_wi h (b0 + 81) (Int32.toNatClampNeg x1) (ea_i h (b0 + 55) (Int32.toNatClampNeg x1))) (b0 + 82) (Int32.toNatClampNeg x1) (ea_i (ea_wi h (b0 + 81) (Int32.toNatClampNeg x1) (ea_i h (b0 + 55) (Int32.toNatClampNeg x1))) (b0 + 56) (Int32.toNatClampNeg x1))) (b0 + 57) (Int32.toNatClampNeg x1))) (b0 + 58) (Int32.toNatClampNeg x1))) (b0 + 85) (Int32.toNatClampNeg x1) (ea_i (ea_wi (ea_wi (ea_wi (ea_wi h (b0 + 81) (Int32.toNatClampNeg x1) (ea_i h (b0 + 55) (Int32.toNatClampNeg x1))) (b0 + 82) (Int32.toNatClampNeg x1) (ea_i (ea_wi h (b0 + 81) (Int32.toNatClampNeg x1) (ea_i h (b0 + 55) (Int32.toNatClampNeg x1))) (b0 + 56) (Int32.toNatClampNeg x1))) (b0 + 83) (Int32.toNatClampNeg x1) (ea_i (ea_wi (ea_wi h (b0 + 81) (Int32.toNatClampNeg x1) (ea_i h (b0 + 55) (Int32.toNatClampNeg x1))) (b0 + 82) (Int32.toNatClampNeg x1) (ea_i (ea_wi h (b0 + 81) (Int32.toNatClampNeg x1) (ea_i h (b0 + 55) (Int32.toNatClampNeg x1))) (b0 + 56) (Int32.toNatClampNeg x1))) (b0 + 57) (Int32.toNatClampNeg x1))) (b0 + 84) (Int32.toNatClampNeg x1) (ea_i (ea_wi (ea_wi (ea_wi h (b0 + 81) (Int32.toNatClampNeg x1) (ea_i h (b0 + 55) (Int32.toNatClampNeg x1))) (b0 + 82) (Int32.toNatClampNeg x1) (ea_i (ea_wi h (b0 + 81) (Int32.toNatClampNeg x1) (ea_i h (b0 + 55) (Int32.toNatClampNeg x1))) (b0 + 56) (Int32.toNatClampNeg x1))) (b0 + 83) (Int32.toNatClampNeg x1) (ea_i (ea_wi (ea_wi h (b0 + 81) (Int32.toNatClampNeg x1) (ea_i h (b0 + 55) (Int32.toNatClampNeg x1))) (b0 + 82) (Int32.toNatClampNeg x1) (ea_i (ea_wi h (b0 + 81) (Int32.toNatClampNeg x1) (ea_i h (b0 + 55) (Int32.toNatClampNeg x1))) (b0 + 56) (Int32.toNatClampNeg x1))) (b0 + 57) (Int32.toNatClampNeg x1))) (b0 + 58) (Int32.toNatClampNeg x1))) (b0 + 59) (Int32.toNatClampNeg x1))) (b0 + 86) (Int32.toNatClampNeg x1) (ea_i (ea_wi (ea_wi (ea_wi (ea_wi (ea_wi h (b0 + 81) (Int32.toNatClampNeg x1) (ea_i h (b0 + 55) (Int32.toNatClampNeg x1))) (b0 + 82) (Int32.toNatClampNeg x1) (ea_i (ea_wi h (b0 + 81) (Int32.toNatClampNeg x1) (ea_i h (b0 + 55) (Int32.toNatClampNeg x1))) (b0 + 56) (Int32.toNatClampNeg x1))) (b0 + 83) (Int32.toNatClampNeg x1) (ea_i (ea_wi (ea_wi h (b0 + 81) (Int32.toNatClampNeg x1) (ea_i h (b0 + 55) (Int32.toNatClampNeg x1))) (b0 + 82) (Int32.toNatClampNeg x1) (ea_i (ea_wi h (b0 + 81) (Int32.toNatClampNeg x1) (ea_i h (b0 + 55) (Int32.toNatClampNeg x1))) (b0 + 56) (Int32.toNatClampNeg x1))) (b0 + 57) (Int32.toNatClampNeg x1))) (b0 + 84) (Int32.toNatClampNeg x1) (ea_i (ea_wi (ea_wi (ea_wi h (b0 + 81) (Int32.toNatClampNeg x1) (ea_i h (b0 + 55) (Int32.toNatClampNeg x1))) (b0 + 82) (Int32.toNatClampNeg x1) (ea_i (ea_wi h (b0 + 81) (Int32.toNatClampNeg x1) (ea_i h (b0 + 55) (Int32.toNatClampNeg x1))) (b0 + 56) (Int32.toNatClampNeg x1))) (b0 + 83) (Int32.toNatClampNeg x1) (ea_i (ea_wi (ea_wi h (b0 + 81) (Int32.toNatClampNeg x1) (ea_i h (b0 + 55) (Int32.toNatClampNeg x1))) (b0 + 82) (Int32.toNatClampNeg x1) (ea_i (ea_wi h (b0 + 81) (Int32.toNatClampNeg x1) (ea_i h (b0 + 55) (Int32.toNatClampNeg x1))) (b0 + 56) (Int32.toNatClampNeg x1))) (b0 + 57) (Int32.toNatClampNeg x1))) (b0 + 58) (Int32.toNatClampNeg x1))) (b0 + 85) (Int32.toNatClampNeg x1) (ea_i (ea_wi (ea_wi (ea_wi (ea_wi h (b0 + 81) (Int32.toNatClampNeg x1) (ea_i h (b0 + 55) (Int32.toNatClampNeg x1))) (b0 + 82) (Int32.toNatClampNeg x1) (ea_i (ea_wi h (b0 + 81) (Int32.toNatClampNeg x1) (ea_i h (b0 + 55) (Int32.toNatClampNeg x1))) (b0 + 56) (Int32.toNatClampNeg x1))) (b0 + 83) (Int32.toNatClampNeg x1) (ea_i (ea_wi (ea_wi h (b0 + 81) (Int32.toNatClampNeg x1) (ea_i h (b0 + 55) (Int32.toNatClampNeg x1))) (b0 + 82) (Int32.toNatClampNeg x1) (ea_i (ea_wi h (b0 + 81) (Int32.toNatClampNeg x1) (ea_i h (b0 + 55) (Int32.toNatClampNeg x1))) (b0 + 56) (Int32.toNatClampNeg x1))) (b0 + 57) (Int32.toNatClampNeg x1))) (b0 + 84) (Int32.toNatClampNeg x1) (ea_i (ea_wi (ea_wi (ea_wi h (b0 + 81) (Int32.toNatClampNeg x1) (ea_i h (b0 + 55) (Int32.toNatClampNeg x1))) (b0 + 82) (Int32.toNatClampNeg x1) (ea_i (ea_wi h (b0 + 81) (Int32.toNatClampNeg x1) (ea_i h (b0 + 55) (Int32.toNatClampNeg x1))) (b0 + 56) (Int32.toNatClampNeg x1))) (b0 + 83) (Int32.toNatClampNeg x1) (ea_i (ea_wi (ea_wi h (b0 + 81) (Int32.toNatClampNeg x1) (ea_i h (b0 + 55) (Int32.toNatClampNeg x1))) (b0 + 82) (Int32.toNatClampNeg x1) (ea_i (ea_wi h (b0 + 81) (Int32.toNatClampNeg x1) (ea_i h (b0 + 55) (Int32.toNatClampNeg x1))) (b0 + 56) (Int32.toNatClampNeg x1))) (b0 + 57) (Int32.toNatClampNeg x1))) (b0 + 58) (Int32.toNatClampNeg x1))) (b0 + 59) (Int32.toNatClampNeg x1))) (b0 + 50) (Int32.toNatClampNeg x1))) (b0 + 87) (Int32.toNatClampNeg x1) (ea_i (ea_wi (ea_wi (ea_wi (ea_wi (ea_wi (ea_wi h (b0 + 81) (Int32.toNatClampNeg x1) (ea_i h (b0 + 55) (Int32.toNatClampNeg x1))) (b0 + 82) (Int32.toNatClampNeg x1) (ea_i (ea_wi h (b0 + 81) (Int32.toNatClampNeg x1) (ea_i h (b0 + 55) (Int32.toNatClampNeg x1))) (b0 + 56) (Int32.toNatClampNeg x1))) (b0 + 83) (Int32.toNatClampNeg x1) (ea_i (ea_wi (ea_wi h (b0 + 81) (Int32.toNatClampNeg x1) (ea_i h (b0 + 55) (Int32.toNatClampNeg x1))) (b0 + 82) (Int32.toNatClampNeg x1) (ea_i (ea_wi h (b0 + 81) (Int32.toNatClampNeg x1) (ea_i h (b0 + 55) (Int32.toNatClampNeg x1))) (b0 + 56) (Int32.toNatClampNeg x1))) (b0 + 57) (Int32.toNatClampNeg x1))) (b0 + 84) (Int32.toNatClampNeg x1) (ea_i (ea_wi (ea_wi (ea_wi h (b0 + 81) (Int32.toNatClampNeg x1) (ea_i h (b0 + 55) (Int32.toNatClampNeg x1))) (b0 + 82) (Int32.toNatClampNeg x1) (ea_i (ea_wi h (b0 + 81) (Int32.toNatClampNeg x1) (ea_i h (b0 + 55) (Int32.toNatClampNeg x1))) (b0 + 56) (Int32.toNatClampNeg x1))) (b0 + 83) (Int32.toNatClampNeg x1) (ea_i (ea_wi (ea_wi h (b0 + 81) (Int32.toNatClampNeg x1) (ea_i h (b0 + 55) (Int32.toNatClampNeg x1))) (b0 + 82) (Int32.toNatClampNeg x1) (ea_i (ea_wi h (b0 + 81) (Int32.toNatClampNeg x1) (ea_i h (b0 + 55) (Int32.toNatClampNeg x1))) (b0 + 56) (Int32.toNatClampNeg x1))) (b0 + 57) (Int32.toNatClampNeg x1))) (b0 + 58) (Int32.toNatClampNeg x1))) (b0 + 85) (Int32.toNatClampNeg x1) (ea_i (ea_wi (ea_wi (ea_wi (ea_wi h (b0 + 81) (Int32.toNatClampNeg x1) (ea_i h (b0 + 55) (Int32.toNatClampNeg x1))) (b0 + 82) (Int32.toNatClampNeg x1) (ea_i (ea_wi h (b0 + 81) (Int32.toNatClampNeg x1) (ea_i h (b0 + 55) (Int32.toNatClampNeg x1))) (b0 + 56) (Int32.toNatClampNeg x1))) (b0 + 83) (Int32.toNatClampNeg x1) (ea_i (ea_wi (ea_wi h (b0 + 81) (Int32.toNatClampNeg x1) (ea_i h (b0 + 55) (Int32.toNatClampNeg x1))) (b0 + 82) (Int32.toNatClampNeg x1) (ea_i (ea_wi h (b0 + 81) (Int32.toNatClampNeg x1) (ea_i h (b0 + 55) (Int32.toNatClampNeg x1))) (b0 + 56) (Int32.toNatClampNeg x1))) (b0 + 57) (Int32.toNatClampNeg x1))) (b0 + 84) (Int32.toNatClampNeg x1) (ea_i (ea_wi (ea_wi (ea_wi h (b0 + 81) (Int32.toNatClampNeg x1) (ea_i h (b0 + 55) (Int32.toNatClampNeg x1))) (b0 + 82) (Int32.toNatClampNeg x1) (ea_i (ea_wi h (b0 + 81) (Int32.toNatClampNeg x1) (ea_i h (b0 + 55) (Int32.toNatClampNeg x1))) (b0 + 56) (Int32.toNatClampNeg x1))) (b0 + 83) (Int32.toNatClampNeg x1) (ea_i (ea_wi (ea_wi h (b0 + 81) (Int32.toNatClampNeg x1) (ea_i h (b0 + 55) (Int32.toNatClampNeg x1))) (b0 + 82) (Int32.toNatClampNeg x1) (ea_i (ea_wi h (b0 + 81) (Int32.toNatClampNeg x1) (ea_i h (b0 + 55) (Int32.toNatClampNeg x1))) (b0 + 56) (Int32.toNatClampNeg x1))) (b0 + 57) (Int32.toNatClampNeg x1))) (b0 + 58) (Int32.toNatClampNeg x1))) (b0 + 59) (Int32.toNatClampNeg x1))) (b0 + 86) (Int32.toNatClampNeg x1) (ea_i (ea_wi (ea_wi (ea_wi (ea_wi (ea_wi h (b0 + 81) (Int32.toNatClampNeg x1) (ea_i h (b0 + 55) (Int32.toNatClampNeg x1))) (b0 + 82) (Int32.toNatClampNeg x1) (ea_i (ea_wi h (b0 + 81) (Int32.toNatClampNeg x1) (ea_i h (b0 + 55) (Int32.toNatClampNeg x1))) (b0 + 56) (Int32.toNatClampNeg x1))) (b0 + 83) (Int32.toNatClampNeg x1) (ea_i (ea_wi (ea_wi h (b0 + 81) (Int32.toNatClampNeg x1) (ea_i h (b0 + 55) (Int32.toNatClampNeg x1))) (b0 + 82) (Int32.toNatClampNeg x1) (ea_i (ea_wi h (b0 + 81) (Int32.toNatClampNeg x1) (ea_i h (b0 + 55) (Int32.toNatClampNeg x1))) (b0 + 56) (Int32.toNatClampNeg x1))) (b0 + 57) (Int32.toNatClampNeg x1))) (b0 + 84) (Int32.toNatClampNeg x1) (ea_i (ea_wi (ea_wi (ea_wi h (b0 + 81) (Int32.toNatClampNeg x1) (ea_i h (b0 + 55) (Int32.toNatClampNeg x1))) (b0 + 82) (Int32.toNatClampNeg x1) (ea_i (ea_wi h (b0 + 81) (Int32.toNatClampNeg x1) (ea_i h (b0 + 55) (Int32.toNatClampNeg x1))) (b0 + 56) (Int32.toNatClampNeg x1))) (b0 + 83) (Int32.toNatClampNeg x1) (ea_i (ea_wi (ea_wi h (b0 + 81) (Int32.toNatClampNeg x1) (ea_i h (b0 + 55) (Int32.toNatClampNeg x1))) (b0 + 82) (Int32.toNatClampNeg x1) (ea_i (ea_wi h (b0 + 81) (Int32.toNatClampNeg x1) (ea_i h (b0 + 55) (Int32.toNatClampNeg x1))) (b0 + 56) (Int32.toNatClampNeg x1))) (b0 + 57) (Int32.toNatClampNeg x1))) (b0 + 58) (Int32.toNatClampNeg x1))) (b0 + 85) (Int32.toNatClampNeg x1) (ea_i (ea_wi (ea_wi (ea_wi (ea_wi h (b0 + 81) (Int32.toNatClampNeg x1) (ea_i h (b0 + 55) (Int32.toNatClampNeg x1))) (b0 + 82) (Int32.toNatClampNeg x1) (ea_i (ea_wi h (b0 + 81) (Int32.toNatClampNeg x1) (ea_i h (b0 + 55) (Int32.toNatClampNeg x1))) (b0 + 56) (Int32.toNatClampNeg x1))) (b0 + 83) (Int32.toNatClampNeg x1) (ea_i (ea_wi (ea_wi h (b0 + 81) (Int32.toNatClampNeg x1) (ea_i h (b0 + 55) (Int32.toNatClampNeg x1))) (b0 + 82) (Int32.toNatClampNeg x1) (ea_i (ea_wi h (b0 + 81) (Int32.toNatClampNeg x1) (ea_i h (b0 + 55) (Int32.toNatClampNeg x1))) (b0 + 56) (Int32.toNatClampNeg x1))) (b0 + 57) (Int32.toNatClampNeg x1))) (b0 + 84) (Int32.toNatClampNeg x1) (ea_i (ea_wi (ea_wi (ea_wi h (b0 + 81) (Int32.toNatClampNeg x1) (ea_i h (b0 + 55) (Int32.toNatClampNeg x1))) (b0 + 82) (Int32.toNatClampNeg x1) (ea_i (ea_wi h (b0 + 81) (Int32.toNatClampNeg x1) (ea_i h (b0 + 55) (Int32.toNatClampNeg x1))) (b0 + 56) (Int32.toNatClampNeg x1))) (b0 + 83) (Int32.toNatClampNeg x1) (ea_i (ea_wi (ea_wi h (b0 + 81) (Int32.toNatClampNeg x1) (ea_i h (b0 + 55) (Int32.toNatClampNeg x1))) (b0 + 82) (Int32.toNatClampNeg x1) (ea_i (ea_wi h (b0 + 81) (Int32.toNatClampNeg x1) (ea_i h (b0 + 55) (Int32.toNatClampNeg x1))) (b0 + 56) (Int32.toNatClampNeg x1))) (b0 + 57) (Int32.toNatClampNeg x1))) (b0 + 58) (Int32.toNatClampNeg x1))) (b0 + 59) (Int32.toNatClampNeg x1))) (b0 + 50) (Int32.toNatClampNeg x1))) (b0 + 51) (Int32.toNatClampNeg x1))) (b0 + 61) (Int32.toNatClampNeg x1)) = 0 ∨ (ea_i (ea_wi (ea_wi (ea_wi (ea_wi (ea_wi (ea_wi (ea_wi h (b0 + 81) (Int32.toNatClampNeg x1) (ea_i h (b0 + 55) (Int32.toNatClampNeg x1))) (b0 + 82) (Int32.toNatClampNeg x1) (ea_i (ea_wi h (b0 + 81) (Int32.toNatClampNeg x1) (ea_i h (b0 + 55) (Int32.toNatClampNeg x1))) (b0 + 56) (Int32.toNatClampNeg x1))) (b0 + 83) (Int32.toNatClampNeg x1) (ea_i (ea_wi (ea_wi h (b0 + 81) (Int32.toNatClampNeg x1) (ea_i h (b0 + 55) (Int32.toNatClampNeg x1))) (b0 + 82) (Int32.toNatClampNeg x1) (ea_i (ea_wi h (b0 + 81) (Int32.toNatClampNeg x1) (ea_i h (b0 + 55) (Int32.toNatClampNeg x1))) (b0 + 56) (Int32.toNatClampNeg x1))) (b0 + 57) (Int32.toNatClampNeg x1))) (b0 + 84) (Int32.toNatClampNeg x1) (ea_i (ea_wi (ea_wi (ea_wi h (b0 + 81) (Int32.toNatClampNeg x1) (ea_i h (b0 + 55) (Int32.toNatClampNeg x1))) (b0 + 82) (Int32.toNatClampNeg x1) (ea_i (ea_wi h (b0 + 81) (Int32.toNatClampNeg x1) (ea_i h (b0 + 55) (Int32.toNatClampNeg x1))) (b0 + 56) (Int32.toNatClampNeg x1))) (b0 + 83) (Int32.toNatClampNeg x1) (ea_i (ea_wi (ea_wi h (b0 + 81) (Int32.toNatClampNeg x1) (ea_i h (b0 + 55) (Int32.toNatClampNeg x1))) (b0 + 82) (Int32.toNatClampNeg x1) (ea_i (ea_wi h (b0 + 81) (Int32.toNatClampNeg x1) (ea_i h (b0 + 55) (Int32.toNatClampNeg x1))) (b0 + 56) (Int32.toNatClampNeg x1))) (b0 + 57) (Int32.toNatClampNeg x1))) (b0 + 58) (Int32.toNatClampNeg x1))) (b0 + 85) (Int32.toNatClampNeg x1) (ea_i (ea_wi (ea_wi (ea_wi (ea_wi h (b0 + 81) (Int32.toNatClampNeg x1) (ea_i h (b0 + 55) (Int32.toNatClampNeg x1))) (b0 + 82) (Int32.toNatClampNeg x1) (ea_i (ea_wi h (b0 + 81) (Int32.toNatClampNeg x1) (ea_i h (b0 + 55) (Int32.toNatClampNeg x1))) (b0 + 56) (Int32.toNatClampNeg x1))) (b0 + 83) (Int32.toNatClampNeg x1) (ea_i (ea_wi (ea_wi h (b0 + 81) (Int32.toNatClampNeg x1) (ea_i h (b0 + 55) (Int32.toNatClampNeg x1))) (b0 + 82) (Int32.toNatClampNeg x1) (ea_i (ea_wi h (b0 + 81) (Int32.toNatClampNeg x1) (ea_i h (b0 + 55) (Int32.toNatClampNeg x1))) (b0 + 56) (Int32.toNatClampNeg x1))) (b0 + 57) (Int32.toNatClampNeg x1))) (b0 + 84) (Int32.toNatClampNeg x1) (ea_i (ea_wi (ea_wi (ea_wi h (b0 + 81) (Int32.toNatClampNeg x1) (ea_i h (b0 + 55) (Int32.toNatClampNeg x1))) (b0 + 82) (Int32.toNatClampNeg x1) (ea_i (ea_wi h (b0 + 81) (Int32.toNatClampNeg x1) (ea_i h (b0 + 55) (Int32.toNatClampNeg x1))) (b0 + 56) (Int32.toNatClampNeg x1))) (b0 + 83) (Int32.toNatClampNeg x1) (ea_i (ea_wi (ea_wi h (b0 + 81) (Int32.toNatClampNeg x1) (ea_i h (b0 + 55) (Int32.toNatClampNeg x1))) (b0 + 82) (Int32.toNatClampNeg x1) (ea_i (ea_wi h (b0 + 81) (Int32.toNatClampNeg x1) (ea_i h (b0 + 55) (Int32.toNatClampNeg x1))) (b0 + 56) (Int32.toNatClampNeg x1))) (b0 + 57) (Int32.toNatClampNeg x1))) (b0 + 58) (Int32.toNatClampNeg x1))) (b0 + 59) (Int32.toNatClampNeg x1))) (b0 + 86) (Int32.toNatClampNeg x1) (ea_i (ea_wi (ea_wi (ea_wi (ea_wi (ea_wi h (b0 + 81) (Int32.toNatClampNeg x1) (ea_i h (b0 + 55) (Int32.toNatClampNeg x1))) (b0 + 82) (Int32.toNatClampNeg x1) (ea_i (ea_wi h (b0 + 81) (Int32.toNatClampNeg x1) (ea_i h (b0 + 55) (Int32.toNatClampNeg x1))) (b0 + 56) (Int32.toNatClampNeg x1))) (b0 + 83) (Int32.toNatClampNeg x1) (ea_i (ea_wi (ea_wi h (b0 + 81) (Int32.toNatClampNeg x1) (ea_i h (b0 + 55) (Int32.toNatClampNeg x1))) (b0 + 82) (Int32.toNatClampNeg x1) (ea_i (ea_wi h (b0 + 81) (Int32.toNatClampNeg x1) (ea_i h (b0 + 55) (Int32.toNatClampNeg x1))) (b0 + 56) (Int32.toNatClampNeg x1))) (b0 + 57) (Int32.toNatClampNeg x1))) (b0 + 84) (Int32.toNatClampNeg x1) (ea_i (ea_wi (ea_wi (ea_wi h (b0 + 81) (Int32.toNatClampNeg x1) (ea_i h (b0 + 55) (Int32.toNatClampNeg x1))) (b0 + 82) (Int32.toNatClampNeg x1) (ea_i (ea_wi h (b0 + 81) (Int32.toNatClampNeg x1) (ea_i h (b0 + 55) (Int32.toNatClampNeg x1))) (b0 + 56) (Int32.toNatClampNeg x1))) (b0 + 83) (Int32.toNatClampNeg x1) (ea_i (ea_wi (ea_wi h (b0 + 81) (Int32.toNatClampNeg x1) (ea_i h (b0 + 55) (Int32.toNatClampNeg x1))) (b0 + 82) (Int32.toNatClampNeg x1) (ea_i (ea_wi h (b0 + 81) (Int32.toNatClampNeg x1) (ea_i h (b0 + 55) (Int32.toNatClampNeg x1))) (b0 + 56) (Int32.toNatClampNeg x1))) (b0 + 57) (Int32.toNatClampNeg x1))) (b0 + 58) (Int32.toNatClampNeg x1))) (b0 + 85) (Int32.toNatClampNeg x1) (ea_i (ea_wi (ea_wi (ea_wi (ea_wi h (b0 + 81) (Int32.toNatClampNeg x1) (ea_i h (b0 + 55) (Int32.toNatClampNeg x1))) (b0 + 82) (Int32.toNatClampNeg x1) (ea_i (ea_wi h (b0 + 81) (Int32.toNatClampNeg x1) (ea_i h (b0 + 55) (Int32.toNatClampNeg x1))) (b0 + 56) (Int32.toNatClampNeg x1))) (b0 + 83) (Int32.toNatClampNeg x1) (ea_i (ea_wi (ea_wi h (b0 + 81) (Int32.toNatClampNeg x1) (ea_i h (b0 + 55) (Int32.toNatClampNeg x1))) (b0 + 82) (Int32.toNatClampNeg x1) (ea_i (ea_wi h (b0 + 81) (Int32.toNatClampNeg x1) (ea_i h (b0 + 55) (Int32.toNatClampNeg x1))) (b0 + 56) (Int32.toNatClampNeg x1))) (b0 + 57) (Int32.toNatClampNeg x1))) (b0 + 84) (Int32.toNatClampNeg x1) (ea_i (ea_wi (ea_wi (ea_wi h (b0 + 81) (Int32.toNatClampNeg x1) (ea_i h (b0 + 55) (Int32.toNatClampNeg x1))) (b0 + 82) (Int32.toNatClampNeg x1) (ea_i (ea_wi h (b0 + 81) (Int32.toNatClampNeg x1) (ea_i h (b0 + 55) (Int32.toNatClampNeg x1))) (b0 + 56) (Int32.toNatClampNeg x1))) (b0 + 83) (Int32.toNatClampNeg x1) (ea_i (ea_wi (ea_wi h (b0 + 81) (Int32.toNatClampNeg x1) (ea_i h (b0 + 55) (Int32.toNatClampNeg x1))) (b0 + 82) (Int32.toNatClampNeg x1) (ea_i (ea_wi h (b0 + 81) (Int32.toNatClampNeg x1) (ea_i h (b0 + 55) (Int32.toNatClampNeg x1))) (b0 + 56) (Int32.toNatClampNeg x1))) (b0 + 57) (Int32.toNatClampNeg x1))) (b0 + 58) (Int32.toNatClampNeg x1))) (b0 + 59) (Int32.toNatClampNeg x1))) (b0 + 50) (Int32.toNatClampNeg x1))) (b0 + 87) (Int32.toNatClampNeg x1) (ea_i (ea_wi (ea_wi (ea_wi (ea_wi (ea_wi (ea_wi h (b0 + 81) (Int32.toNatClampNeg x1) (ea_i h (b0 + 55) (Int32.toNatClampNeg x1))) (b0 + 82) (Int32.toNatClampNeg x1) (ea_i (ea_wi h (b0 + 81) (Int32.toNatClampNeg x1) (ea_i h (b0 + 55) (Int32.toNatClampNeg x1))) (b0 + 56) (Int32.toNatClampNeg x1))) (b0 + 83) (Int32.toNatClampNeg x1) (ea_i (ea_wi (ea_wi h (b0 + 81) (Int32.toNatClampNeg x1) (ea_i h (b0 + 55) (Int32.toNatClampNeg x1))) (b0 + 82) (Int32.toNatClampNeg x1) (ea_i (ea_wi h (b0 + 81) (Int32.toNatClampNeg x1) (ea_i h (b0 + 55) (Int32.toNatClampNeg x1))) (b0 + 56) (Int32.toNatClampNeg x1))) (b0 + 57) (Int32.toNatClampNeg x1))) (b0 + 84) (Int32.toNatClampNeg x1) (ea_i (ea_wi (ea_wi (ea_wi h (b0 + 81) (Int32.toNatClampNeg x1) (ea_i h (b0 + 55) (Int32.toNatClampNeg x1))) (b0 + 82) (Int32.toNatClampNeg x1) (ea_i (ea_wi h (b0 + 81) (Int32.toNatClampNeg x1) (ea_i h (b0 + 55) (Int32.toNatClampNeg x1))) (b0 + 56) (Int32.toNatClampNeg x1))) (b0 + 83) (Int32.toNatClampNeg x1) (ea_i (ea_wi (ea_wi h (b0 + 81) (Int32.toNatClampNeg x1) (ea_i h (b0 + 55) (Int32.toNatClampNeg x1))) (b0 + 82) (Int32.toNatClampNeg x1) (ea_i (ea_wi h (b0 + 81) (Int32.toNatClampNeg x1) (ea_i h (b0 + 55) (Int32.toNatClampNeg x1))) (b0 + 56) (Int32.toNatClampNeg x1))) (b0 + 57) (Int32.toNatClampNeg x1))) (b0 + 58) (Int32.toNatClampNeg x1))) (b0 + 85) (Int32.toNatClampNeg x1) (ea_i (ea_wi (ea_wi (ea_wi (ea_wi h (b0 + 81) (Int32.toNatClampNeg x1) (ea_i h (b0 + 55) (Int32.toNatClampNeg x1))) (b0 + 82) (Int32.toNatClampNeg x1) (ea_i (ea_wi h (b0 + 81) (Int32.toNatClampNeg x1) (ea_i h (b0 + 55) (Int32.toNatClampNeg x1))) (b0 + 56) (Int32.toNatClampNeg x1))) (b0 + 83) (Int32.toNatClampNeg x1) (ea_i (ea_wi (ea_wi h (b0 + 81) (Int32.toNatClampNeg x1) (ea_i h (b0 + 55) (Int32.toNatClampNeg x1))) (b0 + 82) (Int32.toNatClampNeg x1) (ea_i (ea_wi h (b0 + 81) (Int32.toNatClampNeg x1) (ea_i h (b0 + 55) (Int32.toNatClampNeg x1))) (b0 + 56) (Int32.toNatClampNeg x1))) (b0 + 57) (Int32.toNatClampNeg x1))) (b0 + 84) (Int32.toNatClampNeg x1) (ea_i (ea_wi (ea_wi (ea_wi h (b0 + 81) (Int32.toNatClampNeg x1) (ea_i h (b0 + 55) (Int32.toNatClampNeg x1))) (b0 + 82) (Int32.toNatClampNeg x1) (ea_i (ea_wi h (b0 + 81) (Int32.toNatClampNeg x1) (ea_i h (b0 + 55) (Int32.toNatClampNeg x1))) (b0 + 56) (Int32.toNatClampNeg x1))) (b0 + 83) (Int32.toNatClampNeg x1) (ea_i (ea_wi (ea_wi h (b0 + 81) (Int32.toNatClampNeg x1) (ea_i h (b0 + 55) (Int32.toNatClampNeg x1))) (b0 + 82) (Int32.toNatClampNeg x1) (ea_i (ea_wi h (b0 + 81) (Int32.toNatClampNeg x1) (ea_i h (b0 + 55) (Int32.toNatClampNeg x1))) (b0 + 56) (Int32.toNatClampNeg x1))) (b0 + 57) (Int32.toNatClampNeg x1))) (b0 + 58) (Int32.toNatClampNeg x1))) (b0 + 59) (Int32.toNatClampNeg x1))) (b0 + 86) (Int32.toNatClampNeg x1) (ea_i (ea_wi (ea_wi (ea_wi (ea_wi (ea_wi h (b0 + 81) (Int32.toNatClampNeg x1) (ea_i h (b0 + 55) (Int32.toNatClampNeg x1))) (b0 + 82) (Int32.toNatClampNeg x1) (ea_i (ea_wi h (b0 + 81) (Int32.toNatClampNeg x1) (ea_i h (b0 + 55) (Int32.toNatClampNeg x1))) (b0 + 56) (Int32.toNatClampNeg x1))) (b0 + 83) (Int32.toNatClampNeg x1) (ea_i (ea_wi (ea_wi h (b0 + 81) (Int32.toNatClampNeg x1) (ea_i h (b0 + 55) (Int32.toNatClampNeg x1))) (b0 + 82) (Int32.toNatClampNeg x1) (ea_i (ea_wi h (b0 + 81) (Int32.toNatClampNeg x1) (ea_i h (b0 + 55) (Int32.toNatClampNeg x1))) (b0 + 56) (Int32.toNatClampNeg x1))) (b0 + 57) (Int32.toNatClampNeg x1))) (b0 + 84) (Int32.toNatClampNeg x1) (ea_i (ea_wi (ea_wi (ea_wi h (b0 + 81) (Int32.toNatClampNeg x1) (ea_i h (b0 + 55) (Int32.toNatClampNeg x1))) (b0 + 82) (Int32.toNatClampNeg x1) (ea_i (ea_wi h (b0 + 81) (Int32.toNatClampNeg x1) (ea_i h (b0 + 55) (Int32.toNatClampNeg x1))) (b0 + 56) (Int32.toNatClampNeg x1))) (b0 + 83) (Int32.toNatClampNeg x1) (ea_i (ea_wi (ea_wi h (b0 + 81) (Int32.toNatClampNeg x1) (ea_i h (b0 + 55) (Int32.toNatClampNeg x1))) (b0 + 82) (Int32.toNatClampNeg x1) (ea_i (ea_wi h (b0 + 81) (Int32.toNatClampNeg x1) (ea_i h (b0 + 55) (Int32.toNatClampNeg x1))) (b0 + 56) (Int32.toNatClampNeg x1))) (b0 + 57) (Int32.toNatClampNeg x1))) (b0 + 58) (Int32.toNatClampNeg x1))) (b0 + 85) (Int32.toNatClampNeg x1) (ea_i (ea_wi (ea_wi (ea_wi (ea_wi h (b0 + 81) (Int32.toNatClampNeg x1) (ea_i h (b0 + 55) (Int32.toNatClampNeg x1))) (b0 + 82) (Int32.toNatClampNeg x1) (ea_i (ea_wi h (b0 + 81) (Int32.toNatClampNeg x1) (ea_i h (b0 + 55) (Int32.toNatClampNeg x1))) (b0 + 56) (Int32.toNatClampNeg x1))) (b0 + 83) (Int32.toNatClampNeg x1) (ea_i (ea_wi (ea_wi h (b0 + 81) (Int32.toNatClampNeg x1) (ea_i h (b0 + 55) (Int32.toNatClampNeg x1))) (b0 + 82) (Int32.toNatClampNeg x1) (ea_i (ea_wi h (b0 + 81) (Int32.toNatClampNeg x1) (ea_i h (b0 + 55) (Int32.toNatClampNeg x1))) (b0 + 56) (Int32.toNatClampNeg x1))) (b0 + 57) (Int32.toNatClampNeg x1))) (b0 + 84) (Int32.toNatClampNeg x1) (ea_i (ea_wi (ea_wi (ea_wi h (b0 + 81) (Int32.toNatClampNeg x1) (ea_i h (b0 + 55) (Int32.toNatClampNeg x1))) (b0 + 82) (Int32.toNatClampNeg x1) (ea_i (ea_wi h (b0 + 81) (Int32.toNatClampNeg x1) (ea_i h (b0 + 55) (Int32.toNatClampNeg x1))) (b0 + 56) (Int32.toNatClampNeg x1))) (b0 + 83) (Int32.toNatClampNeg x1) (ea_i (ea_wi (ea_wi h (b0 + 81) (Int32.toNatClampNeg x1) (ea_i h (b0 + 55) (Int32.toNatClampNeg x1))) (b0 + 82) (Int32.toNatClampNeg x1) (ea_i (ea_wi h (b0 + 81) (Int32.toNatClampNeg x1) (ea_i h (b0 + 55) (Int32.toNatClampNeg x1))) (b0 + 56) (Int32.toNatClampNeg x1))) (b0 + 57) (Int32.toNatClampNeg x1))) (b0 + 58) (Int32.toNatClampNeg x1))) (b0 + 59) (Int32.toNatClampNeg x1))) (b0 + 50) (Int32.toNatClampNeg x1))) (b0 + 51) (Int32.toNatClampNeg x1))) (b0 + 61) (Int32.toNatClampNeg x1)) = 1)) (gX12_keeps b0 f 2 ((x1 + (1 : Int32)) : Int32) (ea_wi (ea_wi (ea_wi (ea_wi (ea_wi (ea_wi (ea_wi (ea_wi h (b0 + 81) (Int32.toNatClampNeg x1) (ea_i h (b0 + 55) (Int32.toNatClampNeg x1))) (b0 + 82) (Int32.toNatClampNeg x1) (ea_i (ea_wi h (b0 + 81) (Int32.toNatClampNeg x1) (ea_i h (b0 + 55) (Int32.toNatClampNeg x1))) (b0 + 56) (Int32.toNatClampNeg x1))) (b0 + 83) (Int32.toNatClampNeg x1) (ea_i (ea_wi (ea_wi h (b0 + 81) (Int32.toNatClampNeg x1) (ea_i h (b0 + 55) (Int32.toNatClampNeg x1))) (b0 + 82) (Int32.toNatClampNeg x1) (ea_i (ea_wi h (b0 + 81) (Int32.toNatClampNeg x1) (ea_i h (b0 + 55) (Int32.toNatClampNeg x1))) (b0 + 56) (Int32.toNatClampNeg x1))) (b0 + 57) (Int32.toNatClampNeg x1))) (b0 + 84) (Int32.toNatClampNeg x1) (ea_i (ea_wi (ea_wi (ea_wi h (b0 + 81) (Int32.toNatClampNeg x1) (ea_i h (b0 + 55) (Int32.toNatClampNeg x1))) (b0 + 82) (Int32.toNatClampNeg x1) (ea_i (ea_wi h (b0 + 81) (Int32.toNatClampNeg x1) (ea_i h (b0 + 55) (Int32.toNatClampNeg x1))) (b0 + 56) (Int32.toNatClampNeg x1))) (b0 + 83) (Int32.toNatClampNeg x1) (ea_i (ea_wi (ea_wi h (b0 + 81) (Int32.toNatClampNeg x1) (ea_i h (b0 + 55) (Int32.toNatClampNeg x1))) (b0 + 82) (Int32.toNatClampNeg x1) (ea_i (ea_wi h (b0 + 81) (Int32.toNatClampNeg x1) (ea_i h (b0 + 55) (Int32.toNatClampNeg x1))) (b0 + 56) (Int32.toNatClampNeg x1))) (b0 + 57) (Int32.toNatClampNeg x1))) (b0 + 58) (Int32.toNatClampNeg x1))) (b0 + 85) (Int32.toNatClampNeg x1) (ea_i (ea_wi (ea_wi (ea_wi (ea_wi h (b0 + 81) (Int32.toNatClampNeg x1) (ea_i h (b0 + 55) (Int32.toNatClampNeg x1))) (b0 + 82) (Int32.toNatClampNeg x1) (ea_i (ea_wi h (b0 + 81) (Int32.toNatClampNeg x1) (ea_i h (b0 + 55) (Int32.toNatClampNeg x1))) (b0 + 56) (Int32.toNatClampNeg x1))) (b0 + 83) (Int32.toNatClampNeg x1) (ea_i (ea_wi (ea_wi h (b0 + 81) (Int32.toNatClampNeg x1) (ea_i h (b0 + 55) (Int32.toNatClampNeg x1))) (b0 + 82) (Int32.toNatClampNeg x1) (ea_i (ea_wi h (b0 + 81) (Int32.toNatClampNeg x1) (ea_i h (b0 + 55) (Int32.toNatClampNeg x1))) (b0 + 56) (Int32.toNatClampNeg x1))) (b0 + 57) (Int32.toNatClampNeg x1))) (b0 + 84) (Int32.toNatClampNeg x1) (ea_i (ea_wi (ea_wi (ea_wi h (b0 + 81) (Int32.toNatClampNeg x1) (ea_i h (b0 + 55) (Int32.toNatClampNeg x1))) (b0 + 82) (Int32.toNatClampNeg x1) (ea_i (ea_wi h (b0 + 81) (Int32.toNatClampNeg x1) (ea_i h (b0 + 55) (Int32.toNatClampNeg x1))) (b0 + 56) (Int32.toNatClampNeg x1))) (b0 + 83) (Int32.toNatClampNeg x1) (ea_i (ea_wi (ea_wi h (b0 + 81) (Int32.toNatClampNeg x1) (ea_i h (b0 + 55) (Int32.toNatClampNeg x1))) (b0 + 82) (Int32.toNatClampNeg x1) (ea_i (ea_wi h (b0 + 81) (Int32.toNatClampNeg x1) (ea_i h (b0 + 55) (Int32.toNatClampNeg x1))) (b0 + 56) (Int32.toNatClampNeg x1))) (b0 + 57) (Int32.toNatClampNeg x1))) (b0 + 58) (Int32.toNatClampNeg x1))) (b0 + 59) (Int32.toNatClampNeg x1))) (b0 + 86) (Int32.toNatClampNeg x1) (ea_i (ea_wi (ea_wi (ea_wi (ea_wi (ea_wi h (b0 + 81) (Int32.toNatClampNeg x1) (ea_i h (b0 + 55) (Int32.toNatClampNeg x1))) (b0 + 82) (Int32.toNatClampNeg x1) (ea_i (ea_wi h (b0 + 81) (Int32.toNatClampNeg x1) (ea_i h (b0 + 55) (Int32.toNatClampNeg x1))) (b0 + 56) (Int32.toNatClampNeg x1))) (b0 + 83) (Int32.toNatClampNeg x1) (ea_i (ea_wi (ea_wi h (b0 + 81) (Int32.toNatClampNeg x1) (ea_i h (b0 + 55) (Int32.toNatClampNeg x1))) (b0 + 82) (Int32.toNatClampNeg x1) (ea_i (ea_wi h (b0 + 81) (Int32.toNatClampNeg x1) (ea_i h (b0 + 55) (Int32.toNatClampNeg x1))) (b0 + 56) (Int32.toNatClampNeg x1))) (b0 + 57) (Int32.toNatClampNeg x1))) (b0 + 84) (Int32.toNatClampNeg x1) (ea_i (ea_wi (ea_wi (ea_wi h (b0 + 81) (Int32.toNatClampNeg x1) (ea_i h (b0 + 55) (Int32.toNatClampNeg x1))) (b0 + 82) (Int32.toNatClampNeg x1) (ea_i (ea_wi h (b0 + 81) (Int32.toNatClampNeg x1) (ea_i h (b0 + 55) (Int32.toNatClampNeg x1))) (b0 + 56) (Int32.toNatClampNeg x1))) (b0 + 83) (Int32.toNatClampNeg x1) (ea_i (ea_wi (ea_wi h (b0 + 81) (Int32.toNatClampNeg x1) (ea_i h (b0 + 55) (Int32.toNatClampNeg x1))) (b0 + 82) (Int32.toNatClampNeg x1) (ea_i (ea_wi h (b0 + 81) (Int32.toNatClampNeg x1) (ea_i h (b0 + 55) (Int32.toNatClampNeg x1))) (b0 + 56) (Int32.toNatClampNeg x1))) (b0 + 57) (Int32.toNatClampNeg x1))) (b0 + 58) (Int32.toNatClampNeg x1))) (b0 + 85) (Int32.toNatClampNeg x1) (ea_i (ea_wi (ea_wi (ea_wi (ea_wi h (b0 + 81) (Int32.toNatClampNeg x1) (ea_i h (b0 + 55) (Int32.toNatClampNeg x1))) (b0 + 82) (Int32.toNatClampNeg x1) (ea_i (ea_wi h (b0 + 81) (Int32.toNatClampNeg x1) (ea_i h (b0 + 55) (Int32.toNatClampNeg x1))) (b0 + 56) (Int32.toNatClampNeg x1))) (b0 + 83) (Int32.toNatClampNeg x1) (ea_i (ea_wi (ea_wi h (b0 + 81) (Int32.toNatClampNeg x1) (ea_i h (b0 + 55) (Int32.toNatClampNeg x1))) (b0 + 82) (Int32.toNatClampNeg x1) (ea_i (ea_wi h (b0 + 81) (Int32.toNatClampNeg x1) (ea_i h (b0 + 55) (Int32.toNatClampNeg x1))) (b0 + 56) (Int32.toNatClampNeg x1))) (b0 + 57) (Int32.toNatClampNeg x1))) (b0 + 84) (Int32.toNatClampNeg x1) (ea_i (ea_wi (ea_wi (ea_wi h (b0 + 81) (Int32.toNatClampNeg x1) (ea_i h (b0 + 55) (Int32.toNatClampNeg x1))) (b0 + 82) (Int32.toNatClampNeg x1) (ea_i (ea_wi h (b0 + 81) (Int32.toNatClampNeg x1) (ea_i h (b0 + 55) (Int32.toNatClampNeg x1))) (b0 + 56) (Int32.toNatClampNeg x1))) (b0 + 83) (Int32.toNatClampNeg x1) (ea_i (ea_wi (ea_wi h (b0 + 81) (Int32.toNatClampNeg x1) (ea_i h (b0 + 55) (Int32.toNatClampNeg x1))) (b0 + 82) (Int32.toNatClampNeg x1) (ea_i (ea_wi h (b0 + 81) (Int32.toNatClampNeg x1) (ea_i h (b0 + 55) (Int32.toNatClampNeg x1))) (b0 + 56) (Int32.toNatClampNeg x1))) (b0 + 57) (Int32.toNatClampNeg x1))) (b0 + 58) (Int32.toNatClampNeg x1))) (b0 + 59) (Int32.toNatClampNeg x1))) (b0 + 50) (Int32.toNatClampNeg x1))) (b0 + 87) (Int32.toNatClampNeg x1) (ea_i (ea_wi (ea_wi (ea_wi (ea_wi (ea_wi (ea_wi h (b0 + 81) (Int32.toNatClampNeg x1) (ea_i h (b0 + 55) (Int32.toNatClampNeg x1))) (b0 + 82) (Int32.toNatClampNeg x1) (ea_i (ea_wi h (b0 + 81) (Int32.toNatClampNeg x1) (ea_i h (b0 + 55) (Int32.toNatClampNeg x1))) (b0 + 56) (Int32.toNatClampNeg x1))) (b0 + 83) (Int32.toNatClampNeg x1) (ea_i (ea_wi (ea_wi h (b0 + 81) (Int32.toNatClampNeg x1) (ea_i h (b0 + 55) (Int32.toNatClampNeg x1))) (b0 + 82) (Int32.toNatClampNeg x1) (ea_i (ea_wi h (b0 + 81) (Int32.toNatClampNeg x1) (ea_i h (b0 + 55) (Int32.toNatClampNeg x1))) (b0 + 56) (Int32.toNatClampNeg x1))) (b0 + 57) (Int32.toNatClampNeg x1))) (b0 + 84) (Int32.toNatClampNeg x1) (ea_i (ea_wi (ea_wi (ea_wi h (b0 + 81) (Int32.toNatClampNeg x1) (ea_i h (b0 + 55) (Int32.toNatClampNeg x1))) (b0 + 82) (Int32.toNatClampNeg x1) (ea_i (ea_wi h (b0 + 81) (Int32.toNatClampNeg x1) (ea_i h (b0 + 55) (Int32.toNatClampNeg x1))) (b0 + 56) (Int32.toNatClampNeg x1))) (b0 + 83) (Int32.toNatClampNeg x1) (ea_i (ea_wi (ea_wi h (b0 + 81) (Int32.toNatClampNeg x1) (ea_i h (b0 + 55) (Int32.toNatClampNeg x1))) (b0 + 82) (Int32.toNatClampNeg x1) (ea_i (ea_wi h (b0 + 81) (Int32.toNatClampNeg x1) (ea_i h (b0 + 55) (Int32.toNatClampNeg x1))) (b0 + 56) (Int32.toNatClampNeg x1))) (b0 + 57) (Int32.toNatClampNeg x1))) (b0 + 58) (Int32.toNatClampNeg x1))) (b0 + 85) (Int32.toNatClampNeg x1) (ea_i (ea_wi (ea_wi (ea_wi (ea_wi h (b0 + 81) (Int32.toNatClampNeg x1) (ea_i h (b0 + 55) (Int32.toNatClampNeg x1))) (b0 + 82) (Int32.toNatClampNeg x1) (ea_i (ea_wi h (b0 + 81) (Int32.toNatClampNeg x1) (ea_i h (b0 + 55) (Int32.toNatClampNeg x1))) (b0 + 56) (Int32.toNatClampNeg x1))) (b0 + 83) (Int32.toNatClampNeg x1) (ea_i (ea_wi (ea_wi h (b0 + 81) (Int32.toNatClampNeg x1) (ea_i h (b0 + 55) (Int32.toNatClampNeg x1))) (b0 + 82) (Int32.toNatClampNeg x1) (ea_i (ea_wi h (b0 + 81) (Int32.toNatClampNeg x1) (ea_i h (b0 + 55) (Int32.toNatClampNeg x1))) (b0 + 56) (Int32.toNatClampNeg x1))) (b0 + 57) (Int32.toNatClampNeg x1))) (b0 + 84) (Int32.toNatClampNeg x1) (ea_i (ea_wi (ea_wi (ea_wi h (b0 + 81) (Int32.toNatClampNeg x1) (ea_i h (b0 + 55) (Int32.toNatClampNeg x1))) (b0 + 82) (Int32.toNatClampNeg x1) (ea_i (ea_wi h (b0 + 81) (Int32.toNatClampNeg x1) (ea_i h (b0 + 55) (Int32.toNatClampNeg x1))) (b0 + 56) (Int32.toNatClampNeg x1))) (b0 + 83) (Int32.toNatClampNeg x1) (ea_i (ea_wi (ea_wi h (b0 + 81) (Int32.toNatClampNeg x1) (ea_i h (b0 + 55) (Int32.toNatClampNeg x1))) (b0 + 82) (Int32.toNatClampNeg x1) (ea_i (ea_wi h (b0 + 81) (Int32.toNatClampNeg x1) (ea_i h (b0 + 55) (Int32.toNatClampNeg x1))) (b0 + 56) (Int32.toNatClampNeg x1))) (b0 + 57) (Int32.toNatClampNeg x1))) (b0 + 58) (Int32.toNatClampNeg x1))) (b0 + 59) (Int32.toNatClampNeg x1))) (b0 + 86) (Int32.toNatClampNeg x1) (ea_i (ea_wi (ea_wi (ea_wi (ea_wi (ea_wi h (b0 + 81) (Int32.toNatClampNeg x1) (ea_i h (b0 + 55) (Int32.toNatClampNeg x1))) (b0 + 82) (Int32.toNatClampNeg x1) (ea_i (ea_wi h (b0 + 81) (Int32.toNatClampNeg x1) (ea_i h (b0 + 55) (Int32.toNatClampNeg x1))) (b0 + 56) (Int32.toNatClampNeg x1))) (b0 + 83) (Int32.toNatClampNeg x1) (ea_i (ea_wi (ea_wi h (b0 + 81) (Int32.toNatClampNeg x1) (ea_i h (b0 + 55) (Int32.toNatClampNeg x1))) (b0 + 82) (Int32.toNatClampNeg x1) (ea_i (ea_wi h (b0 + 81) (Int32.toNatClampNeg x1) (ea_i h (b0 + 55) (Int32.toNatClampNeg x1))) (b0 + 56) (Int32.toNatClampNeg x1))) (b0 + 57) (Int32.toNatClampNeg x1))) (b0 + 84) (Int32.toNatClampNeg x1) (ea_i (ea_wi (ea_wi (ea_wi h (b0 + 81) (Int32.toNatClampNeg x1) (ea_i h (b0 + 55) (Int32.toNatClampNeg x1))) (b0 + 82) (Int32.toNatClampNeg x1) (ea_i (ea_wi h (b0 + 81) (Int32.toNatClampNeg x1) (ea_i h (b0 + 55) (Int32.toNatClampNeg x1))) (b0 + 56) (Int32.toNatClampNeg x1))) (b0 + 83) (Int32.toNatClampNeg x1) (ea_i (ea_wi (ea_wi h (b0 + 81) (Int32.toNatClampNeg x1) (ea_i h (b0 + 55) (Int32.toNatClampNeg x1))) (b0 + 82) (Int32.toNatClampNeg x1) (ea_i (ea_wi h (b0 + 81) (Int32.toNatClampNeg x1) (ea_i h (b0 + 55) (Int32.toNatClampNeg x1))) (b0 + 56) (Int32.toNatClampNeg x1))) (b0 + 57) (Int32.toNatClampNeg x1))) (b0 + 58) (Int32.toNatClampNeg x1))) (b0 + 85) (Int32.toNatClampNeg x1) (ea_i (ea_wi (ea_wi (ea_wi (ea_wi h (b0 + 81) (Int32.toNatClampNeg x1) (ea_i h (b0 + 55) (Int32.toNatClampNeg x1))) (b0 + 82) (Int32.toNatClampNeg x1) (ea_i (ea_wi h (b0 + 81) (Int32.toNatClampNeg x1) (ea_i h (b0 + 55) (Int32.toNatClampNeg x1))) (b0 + 56) (Int32.toNatClampNeg x1))) (b0 + 83) (Int32.toNatClampNeg x1) (ea_i (ea_wi (ea_wi h (b0 + 81) (Int32.toNatClampNeg x1) (ea_i h (b0 + 55) (Int32.toNatClampNeg x1))) (b0 + 82) (Int32.toNatClampNeg x1) (ea_i (ea_wi h (b0 + 81) (Int32.toNatClampNeg x1) (ea_i h (b0 + 55) (Int32.toNatClampNeg x1))) (b0 + 56) (Int32.toNatClampNeg x1))) (b0 + 57) (Int32.toNatClampNeg x1))) (b0 + 84) (Int32.toNatClampNeg x1) (ea_i (ea_wi (ea_wi (ea_wi h (b0 + 81) (Int32.toNatClampNeg x1) (ea_i h (b0 + 55) (Int32.toNatClampNeg x1))) (b0 + 82) (Int32.toNatClampNeg x1) (ea_i (ea_wi h (b0 + 81) (Int32.toNatClampNeg x1) (ea_i h (b0 + 55) (Int32.toNatClampNeg x1))) (b0 + 56) (Int32.toNatClampNeg x1))) (b0 + 83) (Int32.toNatClampNeg x1) (ea_i (ea_wi (ea_wi h (b0 + 81) (Int32.toNatClampNeg x1) (ea_i h (b0 + 55) (Int32.toNatClampNeg x1))) (b0 + 82) (Int32.toNatClampNeg x1) (ea_i (ea_wi h (b0 + 81) (Int32.toNatClampNeg x1) (ea_i h (b0 + 55) (Int32.toNatClampNeg x1))) (b0 + 56) (Int32.toNatClampNeg x1))) (b0 + 57) (Int32.toNatClampNeg x1))) (b0 + 58) (Int32.toNatClampNeg x1))) (b0 + 59) (Int32.toNatClampNeg x1))) (b0 + 50) (Int32.toNatClampNeg x1))) (b0 + 51) (Int32.toNatClampNeg x1))) (b0 + 89) (Int32.toNatClampNeg x1) (ea_i (ea_wi (ea_wi (ea_wi (ea_wi (ea_wi (ea_wi (ea_wi h (b0 + 81) (Int32.toNatClampNeg x1) (ea_i h (b0 + 55) (Int32.toNatClampNeg x1))) (b0 + 82) (Int32.toNatClampNeg x1) (ea_i (ea_wi h (b0 + 81) (Int32.toNatClampNeg x1) (ea_i h (b0 + 55) (Int32.toNatClampNeg x1))) (b0 + 56) (Int32.toNatClampNeg x1))) (b0 + 83) (Int32.toNatClampNeg x1) (ea_i (ea_wi (ea_wi h (b0 + 81) (Int32.toNatClampNeg x1) (ea_i h (b0 + 55) (Int32.toNatClampNeg x1))) (b0 + 82) (Int32.toNatClampNeg x1) (ea_i (ea_wi h (b0 + 81) (Int32.toNatClampNeg x1) (ea_i h (b0 + 55) (Int32.toNatClampNeg x1))) (b0 + 56) (Int32.toNatClampNeg x1))) (b0 + 57) (Int32.toNatClampNeg x1))) (b0 + 84) (Int32.toNatClampNeg x1) (ea_i (ea_wi (ea_wi (ea_wi h (b0 + 81) (Int32.toNatClampNeg x1) (ea_i h (b0 + 55) (Int32.toNatClampNeg x1))) (b0 + 82) (Int32.toNatClampNeg x1) (ea_i (ea_wi h (b0 + 81) (Int32.toNatClampNeg x1) (ea_i h (b0 + 55) (Int32.toNatClampNeg x1))) (b0 + 56) (Int32.toNatClampNeg x1))) (b0 + 83) (Int32.toNatClampNeg x1) (ea_i (ea_wi (ea_wi h (b0 + 81) (Int32.toNatClampNeg x1) (ea_i h (b0 + 55) (Int32.toNatClampNeg x1))) (b0 + 82) (Int32.toNatClampNeg x1) (ea_i (ea_wi h (b0 + 81) (Int32.toNatClampNeg x1) (ea_i h (b0 + 55) (Int32.toNatClampNeg x1))) (b0 + 56) (Int32.toNatClampNeg x1))) (b0 + 57) (Int32.toNatClampNeg x1))) (b0 + 58) (Int32.toNatClampNeg x1))) (b0 + 85) (Int32.toNatClampNeg x1) (ea_i (ea_wi (ea_wi (ea_wi (ea_wi h (b0 + 81) (Int32.toNatClampNeg x1) (ea_i h (b0 + 55) (Int32.toNatClampNeg x1))) (b0 + 82) (Int32.toNatClampNeg x1) (ea_i (ea_wi h (b0 + 81) (Int32.toNatClampNeg x1) (ea_i h (b0 + 55) (Int32.toNatClampNeg x1))) (b0 + 56) (Int32.toNatClampNeg x1))) (b0 + 83) (Int32.toNatClampNeg x1) (ea_i (ea_wi (ea_wi h (b0 + 81) (Int32.toNatClampNeg x1) (ea_i h (b0 + 55) (Int32.toNatClampNeg x1))) (b0 + 82) (Int32.toNatClampNeg x1) (ea_i (ea_wi h (b0 + 81) (Int32.toNatClampNeg x1) (ea_i h (b0 + 55) (Int32.toNatClampNeg x1))) (b0 + 56) (Int32.toNatClampNeg x1))) (b0 + 57) (Int32.toNatClampNeg x1))) (b0 + 84) (Int32.toNatClampNeg x1) (ea_i (ea_wi (ea_wi (ea_wi h (b0 + 81) (Int32.toNatClampNeg x1) (ea_i h (b0 + 55) (Int32.toNatClampNeg x1))) (b0 + 82) (Int32.toNatClampNeg x1) (ea_i (ea_wi h (b0 + 81) (Int32.toNatClampNeg x1) (ea_i h (b0 + 55) (Int32.toNatClampNeg x1))) (b0 + 56) (Int32.toNatClampNeg x1))) (b0 + 83) (Int32.toNatClampNeg x1) (ea_i (ea_wi (ea_wi h (b0 + 81) (Int32.toNatClampNeg x1) (ea_i h (b0 + 55) (Int32.toNatClampNeg x1))) (b0 + 82) (Int32.toNatClampNeg x1) (ea_i (ea_wi h (b0 + 81) (Int32.toNatClampNeg x1) (ea_i h (b0 + 55) (Int32.toNatClampNeg x1))) (b0 + 56) (Int32.toNatClampNeg x1))) (b0 + 57) (Int32.toNatClampNeg x1))) (b0 + 58) (Int32.toNatClampNeg x1))) (b0 + 59) (Int32.toNatClampNeg x1))) (b0 + 86) (Int32.toNatClampNeg x1) (ea_i (ea_wi (ea_wi (ea_wi (ea_wi (ea_wi h (b0 + 81) (Int32.toNatClampNeg x1) (ea_i h (b0 + 55) (Int32.toNatClampNeg x1))) (b0 + 82) (Int32.toNatClampNeg x1) (ea_i (ea_wi h (b0 + 81) (Int32.toNatClampNeg x1) (ea_i h (b0 + 55) (Int32.toNatClampNeg x1))) (b0 + 56) (Int32.toNatClampNeg x1))) (b0 + 83) (Int32.toNatClampNeg x1) (ea_i (ea_wi (ea_wi h (b0 + 81) (Int32.toNatClampNeg x1) (ea_i h (b0 + 55) (Int32.toNatClampNeg x1))) (b0 + 82) (Int32.toNatClampNeg x1) (ea_i (ea_wi h (b0 + 81) (Int32.toNatClampNeg x1) (ea_i h (b0 + 55) (Int32.toNatClampNeg x1))) (b0 + 56) (Int32.toNatClampNeg x1))) (b0 + 57) (Int32.toNatClampNeg x1))) (b0 + 84) (Int32.toNatClampNeg x1) (ea_i (ea_wi (ea_wi (ea_wi h (b0 + 81) (Int32.toNatClampNeg x1) (ea_i h (b0 + 55) (Int32.toNatClampNeg x1))) (b0 + 82) (Int32.toNatClampNeg x1) (ea_i (ea_wi h (b0 + 81) (Int32.toNatClampNeg x1) (ea_i h (b0 + 55) (Int32.toNatClampNeg x1))) (b0 + 56) (Int32.toNatClampNeg x1))) (b0 + 83) (Int32.toNatClampNeg x1) (ea_i (ea_wi (ea_wi h (b0 + 81) (Int32.toNatClampNeg x1) (ea_i h (b0 + 55) (Int32.toNatClampNeg x1))) (b0 + 82) (Int32.toNatClampNeg x1) (ea_i (ea_wi h (b0 + 81) (Int32.toNatClampNeg x1) (ea_i h (b0 + 55) (Int32.toNatClampNeg x1))) (b0 + 56) (Int32.toNatClampNeg x1))) (b0 + 57) (Int32.toNatClampNeg x1))) (b0 + 58) (Int32.toNatClampNeg x1))) (b0 + 85) (Int32.toNatClampNeg x1) (ea_i (ea_wi (ea_wi (ea_wi (ea_wi h (b0 + 81) (Int32.toNatClampNeg x1) (ea_i h (b0 + 55) (Int32.toNatClampNeg x1))) (b0 + 82) (Int32.toNatClampNeg x1) (ea_i (ea_wi h (b0 + 81) (Int32.toNatClampNeg x1) (ea_i h (b0 + 55) (Int32.toNatClampNeg x1))) (b0 + 56) (Int32.toNatClampNeg x1))) (b0 + 83) (Int32.toNatClampNeg x1) (ea_i (ea_wi (ea_wi h (b0 + 81) (Int32.toNatClampNeg x1) (ea_i h (b0 + 55) (Int32.toNatClampNeg x1))) (b0 + 82) (Int32.toNatClampNeg x1) (ea_i (ea_wi h (b0 + 81) (Int32.toNatClampNeg x1) (ea_i h (b0 + 55) (Int32.toNatClampNeg x1))) (b0 + 56) (Int32.toNatClampNeg x1))) (b0 + 57) (Int32.toNatClampNeg x1))) (b0 + 84) (Int32.toNatClampNeg x1) (ea_i (ea_wi (ea_wi (ea_wi h (b0 + 81) (Int32.toNatClampNeg x1) (ea_i h (b0 + 55) (Int32.toNatClampNeg x1))) (b0 + 82) (Int32.toNatClampNeg x1) (ea_i (ea_wi h (b0 + 81) (Int32.toNatClampNeg x1) (ea_i h (b0 + 55) (Int32.toNatClampNeg x1))) (b0 + 56) (Int32.toNatClampNeg x1))) (b0 + 83) (Int32.toNatClampNeg x1) (ea_i (ea_wi (ea_wi h (b0 + 81) (Int32.toNatClampNeg x1) (ea_i h (b0 + 55) (Int32.toNatClampNeg x1))) (b0 + 82) (Int32.toNatClampNeg x1) (ea_i (ea_wi h (b0 + 81) (Int32.toNatClampNeg x1) (ea_i h (b0 + 55) (Int32.toNatClampNeg x1))) (b0 + 56) (Int32.toNatClampNeg x1))) (b0 + 57) (Int32.toNatClampNeg x1))) (b0 + 58) (Int32.toNatClampNeg x1))) (b0 + 59) (Int32.toNatClampNeg x1))) (b0 + 50) (Int32.toNatClampNeg x1))) (b0 + 87) (Int32.toNatClampNeg x1) (ea_i (ea_wi (ea_wi (ea_wi (ea_wi (ea_wi (ea_wi h (b0 + 81) (Int32.toNatClampNeg x1) (ea_i h (b0 + 55) (Int32.toNatClampNeg x1))) (b0 + 82) (Int32.toNatClampNeg x1) (ea_i (ea_wi h (b0 + 81) (Int32.toNatClampNeg x1) (ea_i h (b0 + 55) (Int32.toNatClampNeg x1))) (b0 + 56) (Int32.toNatClampNeg x1))) (b0 + 83) (Int32.toNatClampNeg x1) (ea_i (ea_wi (ea_wi h (b0 + 81) (Int32.toNatClampNeg x1) (ea_i h (b0 + 55) (Int32.toNatClampNeg x1))) (b0 + 82) (Int32.toNatClampNeg x1) (ea_i (ea_wi h (b0 + 81) (Int32.toNatClampNeg x1) (ea_i h (b0 + 55) (Int32.toNatClampNeg x1))) (b0 + 56) (Int32.toNatClampNeg x1))) (b0 + 57) (Int32.toNatClampNeg x1))) (b0 + 84) (Int32.toNatClampNeg x1) (ea_i (ea_wi (ea_wi (ea_wi h (b0 + 81) (Int32.toNatClampNeg x1) (ea_i h (b0 + 55) (Int32.toNatClampNeg x1))) (b0 + 82) (Int32.toNatClampNeg x1) (ea_i (ea_wi h (b0 + 81) (Int32.toNatClampNeg x1) (ea_i h (b0 + 55) (Int32.toNatClampNeg x1))) (b0 + 56) (Int32.toNatClampNeg x1))) (b0 + 83) (Int32.toNatClampNeg x1) (ea_i (ea_wi (ea_wi h (b0 + 81) (Int32.toNatClampNeg x1) (ea_i h (b0 + 55) (Int32.toNatClampNeg x1))) (b0 + 82) (Int32.toNatClampNeg x1) (ea_i (ea_wi h (b0 + 81) (Int32.toNatClampNeg x1) (ea_i h (b0 + 55) (Int32.toNatClampNeg x1))) (b0 + 56) (Int32.toNatClampNeg x1))) (b0 + 57) (Int32.toNatClampNeg x1))) (b0 + 58) (Int32.toNatClampNeg x1))) (b0 + 85) (Int32.toNatClampNeg x1) (ea_i (ea_wi (ea_wi (ea_wi (ea_wi h (b0 + 81) (Int32.toNatClampNeg x1) (ea_i h (b0 + 55) (Int32.toNatClampNeg x1))) (b0 + 82) (Int32.toNatClampNeg x1) (ea_i (ea_wi h (b0 + 81) (Int32.toNatClampNeg x1) (ea_i h (b0 + 55) (Int32.toNatClampNeg x1))) (b0 + 56) (Int32.toNatClampNeg x1))) (b0 + 83) (Int32.toNatClampNeg x1) (ea_i (ea_wi (ea_wi h (b0 + 81) (Int32.toNatClampNeg x1) (ea_i h (b0 + 55) (Int32.toNatClampNeg x1))) (b0 + 82) (Int32.toNatClampNeg x1) (ea_i (ea_wi h (b0 + 81) (Int32.toNatClampNeg x1) (ea_i h (b0 + 55) (Int32.toNatClampNeg x1))) (b0 + 56) (Int32.toNatClampNeg x1))) (b0 + 57) (Int32.toNatClampNeg x1))) (b0 + 84) (Int32.toNatClampNeg x1) (ea_i (ea_wi (ea_wi (ea_wi h (b0 + 81) (Int32.toNatClampNeg x1) (ea_i h (b0 + 55) (Int32.toNatClampNeg x1))) (b0 + 82) (Int32.toNatClampNeg x1) (ea_i (ea_wi h (b0 + 81) (Int32.toNatClampNeg x1) (ea_i h (b0 + 55) (Int32.toNatClampNeg x1))) (b0 + 56) (Int32.toNatClampNeg x1))) (b0 + 83) (Int32.toNatClampNeg x1) (ea_i (ea_wi (ea_wi h (b0 + 81) (Int32.toNatClampNeg x1) (ea_i h (b0 + 55) (Int32.toNatClampNeg x1))) (b0 + 82) (Int32.toNatClampNeg x1) (ea_i (ea_wi h (b0 + 81) (Int32.toNatClampNeg x1) (ea_i h (b0 + 55) (Int32.toNatClampNeg x1))) (b0 + 56) (Int32.toNatClampNeg x1))) (b0 + 57) (Int32.toNatClampNeg x1))) (b0 + 58) (Int32.toNatClampNeg x1))) (b0 + 59) (Int32.toNatClampNeg x1))) (b0 + 86) (Int32.toNatClampNeg x1) (ea_i (ea_wi (ea_wi (ea_wi (ea_wi (ea_wi h (b0 + 81) (Int32.toNatClampNeg x1) (ea_i h (b0 + 55) (Int32.toNatClampNeg x1))) (b0 + 82) (Int32.toNatClampNeg x1) (ea_i (ea_wi h (b0 + 81) (Int32.toNatClampNeg x1) (ea_i h (b0 + 55) (Int32.toNatClampNeg x1))) (b0 + 56) (Int32.toNatClampNeg x1))) (b0 + 83) (Int32.toNatClampNeg x1) (ea_i (ea_wi (ea_wi h (b0 + 81) (Int32.toNatClampNeg x1) (ea_i h (b0 + 55) (Int32.toNatClampNeg x1))) (b0 + 82) (Int32.toNatClampNeg x1) (ea_i (ea_wi h (b0 + 81) (Int32.toNatClampNeg x1) (ea_i h (b0 + 55) (Int32.toNatClampNeg x1))) (b0 + 56) (Int32.toNatClampNeg x1))) (b0 + 57) (Int32.toNatClampNeg x1))) (b0 + 84) (Int32.toNatClampNeg x1) (ea_i (ea_wi (ea_wi (ea_wi h (b0 + 81) (Int32.toNatClampNeg x1) (ea_i h (b0 + 55) (Int32.toNatClampNeg x1))) (b0 + 82) (Int32.toNatClampNeg x1) (ea_i (ea_wi h (b0 + 81) (Int32.toNatClampNeg x1) (ea_i h (b0 + 55) (Int32.toNatClampNeg x1))) (b0 + 56) (Int32.toNatClampNeg x1))) (b0 + 83) (Int32.toNatClampNeg x1) (ea_i (ea_wi (ea_wi h (b0 + 81) (Int32.toNatClampNeg x1) (ea_i h (b0 + 55) (Int32.toNatClampNeg x1))) (b0 + 82) (Int32.toNatClampNeg x1) (ea_i (ea_wi h (b0 + 81) (Int32.toNatClampNeg x1) (ea_i h (b0 + 55) (Int32.toNatClampNeg x1))) (b0 + 56) (Int32.toNatClampNeg x1))) (b0 + 57) (Int32.toNatClampNeg x1))) (b0 + 58) (Int32.toNatClampNeg x1))) (b0 + 85) (Int32.toNatClampNeg x1) (ea_i (ea_wi (ea_wi (ea_wi (ea_wi h (b0 + 81) (Int32.toNatClampNeg x1) (ea_i h (b0 + 55) (Int32.toNatClampNeg x1))) (b0 + 82) (Int32.toNatClampNeg x1) (ea_i (ea_wi h (b0 + 81) (Int32.toNatClampNeg x1) (ea_i h (b0 + 55) (Int32.toNatClampNeg x1))) (b0 + 56) (Int32.toNatClampNeg x1))) (b0 + 83) (Int32.toNatClampNeg x1) (ea_i (ea_wi (ea_wi h (b0 + 81) (Int32.toNatClampNeg x1) (ea_i h (b0 + 55) (Int32.toNatClampNeg x1))) (b0 + 82) (Int32.toNatClampNeg x1) (ea_i (ea_wi h (b0 + 81) (Int32.toNatClampNeg x1) (ea_i h (b0 + 55) (Int32.toNatClampNeg x1))) (b0 + 56) (Int32.toNatClampNeg x1))) (b0 + 57) (Int32.toNatClampNeg x1))) (b0 + 84) (Int32.toNatClampNeg x1) (ea_i (ea_wi (ea_wi (ea_wi h (b0 + 81) (Int32.toNatClampNeg x1) (ea_i h (b0 + 55) (Int32.toNatClampNeg x1))) (b0 + 82) (Int32.toNatClampNeg x1) (ea_i (ea_wi h (b0 + 81) (Int32.toNatClampNeg x1) (ea_i h (b0 + 55) (Int32.toNatClampNeg x1))) (b0 + 56) (Int32.toNatClampNeg x1))) (b0 + 83) (Int32.toNatClampNeg x1) (ea_i (ea_wi (ea_wi h (b0 + 81) (Int32.toNatClampNeg x1) (ea_i h (b0 + 55) (Int32.toNatClampNeg x1))) (b0 + 82) (Int32.toNatClampNeg x1) (ea_i (ea_wi h (b0 + 81) (Int32.toNatClampNeg x1) (ea_i h (b0 + 55) (Int32.toNatClampNeg x1))) (b0 + 56) (Int32.toNatClampNeg x1))) (b0 + 57) (Int32.toNatClampNeg x1))) (b0 + 58) (Int32.toNatClampNeg x1))) (b0 + 59) (Int32.toNatClampNeg x1))) (b0 + 50) (Int32.toNatClampNeg x1))) (b0 + 51) (Int32.toNatClampNeg x1))) (b0 + 61) (Int32.toNatClampNeg x1)))))))))))))))))))))) else
    if lbl = 114 then (if (70 : Int32) ≤ x1 then (some ((), h)) else (gd (vp_in x1 70) (gd (vp_in x1 70) (gX12_keeps b0 f 114 ((x1 + (1 : Int32)) : Int32) (ea_wi h (b0 + 88) (Int32.toNatClampNeg x1) (ea_i h (b0 + 60) (Int32.toNatClampNeg x1))))))) else none
theorem tX12_keeps {d : Nat} {b0 : Nat} {h0 : ea_H} (hd : 1 ≤ d) : ∀ (f lbl : Nat) (x1 : Int32) (h : ea_H) (r : Unit) (h' : ea_H), gX12_keeps b0 f lbl x1 h = some (r, h') → ShM b0 h → (lbl = 0 → ea_W mX12_keeps d h0 none h' 0 [(0, vR (some (b0 + 0)))] [] h) ∧ (lbl = 2 → ea_W mX12_keeps d h0 none h' 2 [(0, vR (some (b0 + 0))), (1, vI x1)] [] h) ∧ (lbl = 114 → ea_W mX12_keeps d h0 none h' 114 [(0, vR (some (b0 + 0))), (1, vI x1)] [] h) := by
  intro f
  induction f with
  | zero => intro lbl x1 h r h' E; cases E
  | succ f ih =>
    intro lbl x1 h r h' E hs
    unfold gX12_keeps at E
    refine ⟨?_, ?_⟩
    · intro el
      subst el
      have E := (if_pos rfl).symm.trans E
      refine ea_iconst (pc := 0) dX12_keeps_0 (v := 0) rfl ?_
      refine ea_istore_n (pc := 1) (lv' := [(0, vR (some (b0 + 0))), (1, vI 0)]) dX12_keeps_1 rfl (Nat.le_of_ble_eq_true rfl) [1, 0] rfl ?_
      exact ((ih 2 (0 : Int32) h _ _ E hs).2.1 rfl)
    refine ⟨?_, ?_⟩
    · intro el
      subst el
      have E := (if_neg (by decide)).symm.trans E
      have E := (if_pos rfl).symm.trans E
      refine ea_iload_n (pc := 2) dX12_keeps_2 rfl 1 rfl ?_
      refine ea_aload_n (pc := 3) dX12_keeps_3 rfl 0 rfl ?_
      refine ea_getI (pc := 4) dX12_keeps_4 ec_12 (k := 63) (Nat.le_of_ble_eq_true rfl) rfl (Or.inl ew_1408) (hs.1 0 (by decide)).1 (hs.1 0 (by decide)).2.1 ?_
      refine ea_icmp_ge (pc := 7) (tgt := 112) dX12_keeps_7 rfl (fun c26 => ?_) (fun c26 => ?_)
      · have E := (if_pos c26).symm.trans E
        refine ea_iconst (pc := 112) dX12_keeps_112 (v := 0) rfl ?_
        refine ea_istore_n (pc := 113) (lv' := [(0, vR (some (b0 + 0))), (1, vI 0)]) dX12_keeps_113 rfl (Nat.le_of_ble_eq_true rfl) [1, 0] rfl ?_
        exact ((ih 114 (0 : Int32) h _ _ E hs).2.2 rfl)
      · have E := (if_neg c26).symm.trans E
        refine ea_aload_n (pc := 10) dX12_keeps_10 rfl 0 rfl ?_
        refine ea_getR (pc := 11) dX12_keeps_11 ec_12 (k := 109) (Nat.le_of_ble_eq_true rfl) rfl (Or.inl ew_1454) (hs.1 0 (by decide)).1 (hs.1 0 (by decide)).2.1 (hs.2 0 109 rfl) ?_
        refine ea_iload_n (pc := 14) dX12_keeps_14 rfl 1 rfl ?_
        refine ea_aload_n (pc := 15) dX12_keeps_15 rfl 0 rfl ?_
        refine ea_getR (pc := 16) dX12_keeps_16 ec_12 (k := 81) (Nat.le_of_ble_eq_true rfl) rfl (Or.inl ew_1426) (hs.1 0 (by decide)).1 (hs.1 0 (by decide)).2.1 (hs.2 0 81 rfl) ?_
        refine ea_iload_n (pc := 19) dX12_keeps_19 rfl 1 rfl ?_
        obtain ⟨z1, E⟩ := gd_some E
        refine ea_iald (pc := 20) dX12_keeps_20 (hs.1 55 (by decide)).1 (hs.1 55 (by decide)).2.1 (ea_vpl (hs.1 55 (by decide)).2.2 z1) ?_
        obtain ⟨z2, E⟩ := gd_some E
        refine ea_iast (pc := 21) dX12_keeps_21 (hs.1 81 (by decide)).1 (hs.1 81 (by decide)).2.1 (ea_vpl (hs.1 81 (by decide)).2.2 z2) ?_
        have hs3 : ShM b0 (ea_wi h (b0 + 81) (Int32.toNatClampNeg x1) (ea_i h (b0 + 55) (Int32.toNatClampNeg x1))) := ShM_wi hs
        refine ea_aload_n (pc := 22) dX12_keeps_22 rfl 0 rfl ?_
        refine ea_getR (pc := 23) dX12_keeps_23 ec_12 (k := 110) (Nat.le_of_ble_eq_true rfl) rfl (Or.inl ew_1455) (hs3.1 0 (by decide)).1 (hs3.1 0 (by decide)).2.1 (hs3.2 0 110 rfl) ?_
        refine ea_iload_n (pc := 26) dX12_keeps_26 rfl 1 rfl ?_
        refine ea_aload_n (pc := 27) dX12_keeps_27 rfl 0 rfl ?_
        refine ea_getR (pc := 28) dX12_keeps_28 ec_12 (k := 82) (Nat.le_of_ble_eq_true rfl) rfl (Or.inl ew_1427) (hs3.1 0 (by decide)).1 (hs3.1 0 (by decide)).2.1 (hs3.2 0 82 rfl) ?_
        refine ea_iload_n (pc := 31) dX12_keeps_31 rfl 1 rfl ?_
        obtain ⟨z4, E⟩ := gd_some E
        refine ea_iald (pc := 32) dX12_keeps_32 (hs3.1 56 (by decide)).1 (hs3.1 56 (by decide)).2.1 (ea_vpl (hs3.1 56 (by decide)).2.2 z4) ?_
        obtain ⟨z5, E⟩ := gd_some E
        refine ea_iast (pc := 33) dX12_keeps_33 (hs3.1 82 (by decide)).1 (hs3.1 82 (by decide)).2.1 (ea_vpl (hs3.1 82 (by decide)).2.2 z5) ?_
        have hs6 : ShM b0 (ea_wi (ea_wi h (b0 + 81) (Int32.toNatClampNeg x1) (ea_i h (b0 + 55) (Int32.toNatClampNeg x1))) (b0 + 82) (Int32.toNatClampNeg x1) (ea_i (ea_wi h (b0 + 81) (Int32.toNatClampNeg x1) (ea_i h (b0 + 55) (Int32.toNatClampNeg x1))) (b0 + 56) (Int32.toNatClampNeg x1))) := ShM_wi hs3
        refine ea_aload_n (pc := 34) dX12_keeps_34 rfl 0 rfl ?_
        refine ea_getR (pc := 35) dX12_keeps_35 ec_12 (k := 111) (Nat.le_of_ble_eq_true rfl) rfl (Or.inl ew_1456) (hs6.1 0 (by decide)).1 (hs6.1 0 (by decide)).2.1 (hs6.2 0 111 rfl) ?_
        refine ea_iload_n (pc := 38) dX12_keeps_38 rfl 1 rfl ?_
        refine ea_aload_n (pc := 39) dX12_keeps_39 rfl 0 rfl ?_
        refine ea_getR (pc := 40) dX12_keeps_40 ec_12 (k := 83) (Nat.le_of_ble_eq_true rfl) rfl (Or.inl ew_1428) (hs6.1 0 (by decide)).1 (hs6.1 0 (by decide)).2.1 (hs6.2 0 83 rfl) ?_
        refine ea_iload_n (pc := 43) dX12_keeps_43 rfl 1 rfl ?_
        obtain ⟨z7, E⟩ := gd_some E
        refine ea_iald (pc := 44) dX12_keeps_44 (hs6.1 57 (by decide)).1 (hs6.1 57 (by decide)).2.1 (ea_vpl (hs6.1 57 (by decide)).2.2 z7) ?_
        obtain ⟨z8, E⟩ := gd_some E
        refine ea_iast (pc := 45) dX12_keeps_45 (hs6.1 83 (by decide)).1 (hs6.1 83 (by decide)).2.1 (ea_vpl (hs6.1 83 (by decide)).2.2 z8) ?_
        have hs9 : ShM b0 (ea_wi (ea_wi (ea_wi h (b0 + 81) (Int32.toNatClampNeg x1) (ea_i h (b0 + 55) (Int32.toNatClampNeg x1))) (b0 + 82) (Int32.toNatClampNeg x1) (ea_i (ea_wi h (b0 + 81) (Int32.toNatClampNeg x1) (ea_i h (b0 + 55) (Int32.toNatClampNeg x1))) (b0 + 56) (Int32.toNatClampNeg x1))) (b0 + 83) (Int32.toNatClampNeg x1) (ea_i (ea_wi (ea_wi h (b0 + 81) (Int32.toNatClampNeg x1) (ea_i h (b0 + 55) (Int32.toNatClampNeg x1))) (b0 + 82) (Int32.toNatClampNeg x1) (ea_i (ea_wi h (b0 + 81) (Int32.toNatClampNeg x1) (ea_i h (b0 + 55) (Int32.toNatClampNeg x1))) (b0 + 56) (Int32.toNatClampNeg x1))) (b0 + 57) (Int32.toNatClampNeg x1))) := ShM_wi hs6
        refine ea_aload_n (pc := 46) dX12_keeps_46 rfl 0 rfl ?_
        refine ea_getR (pc := 47) dX12_keeps_47 ec_12 (k := 112) (Nat.le_of_ble_eq_true rfl) rfl (Or.inl ew_1457) (hs9.1 0 (by decide)).1 (hs9.1 0 (by decide)).2.1 (hs9.2 0 112 rfl) ?_
        refine ea_iload_n (pc := 50) dX12_keeps_50 rfl 1 rfl ?_
        refine ea_aload_n (pc := 51) dX12_keeps_51 rfl 0 rfl ?_
        refine ea_getR (pc := 52) dX12_keeps_52 ec_12 (k := 84) (Nat.le_of_ble_eq_true rfl) rfl (Or.inl ew_1429) (hs9.1 0 (by decide)).1 (hs9.1 0 (by decide)).2.1 (hs9.2 0 84 rfl) ?_
        refine ea_iload_n (pc := 55) dX12_keeps_55 rfl 1 rfl ?_
        obtain ⟨z10, E⟩ := gd_some E
        refine ea_iald (pc := 56) dX12_keeps_56 (hs9.1 58 (by decide)).1 (hs9.1 58 (by decide)).2.1 (ea_vpl (hs9.1 58 (by decide)).2.2 z10) ?_
        obtain ⟨z11, E⟩ := gd_some E
        refine ea_iast (pc := 57) dX12_keeps_57 (hs9.1 84 (by decide)).1 (hs9.1 84 (by decide)).2.1 (ea_vpl (hs9.1 84 (by decide)).2.2 z11) ?_
        have hs12 : ShM b0 (ea_wi (ea_wi (ea_wi (ea_wi h (b0 + 81) (Int32.toNatClampNeg x1) (ea_i h (b0 + 55) (Int32.toNatClampNeg x1))) (b0 + 82) (Int32.toNatClampNeg x1) (ea_i (ea_wi h (b0 + 81) (Int32.toNatClampNeg x1) (ea_i h (b0 + 55) (Int32.toNatClampNeg x1))) (b0 + 56) (Int32.toNatClampNeg x1))) (b0 + 83) (Int32.toNatClampNeg x1) (ea_i (ea_wi (ea_wi h (b0 + 81) (Int32.toNatClampNeg x1) (ea_i h (b0 + 55) (Int32.toNatClampNeg x1))) (b0 + 82) (Int32.toNatClampNeg x1) (ea_i (ea_wi h (b0 + 81) (Int32.toNatClampNeg x1) (ea_i h (b0 + 55) (Int32.toNatClampNeg x1))) (b0 + 56) (Int32.toNatClampNeg x1))) (b0 + 57) (Int32.toNatClampNeg x1))) (b0 + 84) (Int32.toNatClampNeg x1) (ea_i (ea_wi (ea_wi (ea_wi h (b0 + 81) (Int32.toNatClampNeg x1) (ea_i h (b0 + 55) (Int32.toNatClampNeg x1))) (b0 + 82) (Int32.toNatClampNeg x1) (ea_i (ea_wi h (b0 + 81) (Int32.toNatClampNeg x1) (ea_i h (b0 + 55) (Int32.toNatClampNeg x1))) (b0 + 56) (Int32.toNatClampNeg x1))) (b0 + 83) (Int32.toNatClampNeg x1) (ea_i (ea_wi (ea_wi h (b0 + 81) (Int32.toNatClampNeg x1) (ea_i h (b0 + 55) (Int32.toNatClampNeg x1))) (b0 + 82) (Int32.toNatClampNeg x1) (ea_i (ea_wi h (b0 + 81) (Int32.toNatClampNeg x1) (ea_i h (b0 + 55) (Int32.toNatClampNeg x1))) (b0 + 56) (Int32.toNatClampNeg x1))) (b0 + 57) (Int32.toNatClampNeg x1))) (b0 + 58) (Int32.toNatClampNeg x1))) := ShM_wi hs9
        refine ea_aload_n (pc := 58) dX12_keeps_58 rfl 0 rfl ?_
        refine ea_getR (pc := 59) dX12_keeps_59 ec_12 (k := 113) (Nat.le_of_ble_eq_true rfl) rfl (Or.inl ew_1458) (hs12.1 0 (by decide)).1 (hs12.1 0 (by decide)).2.1 (hs12.2 0 113 rfl) ?_
        refine ea_iload_n (pc := 62) dX12_keeps_62 rfl 1 rfl ?_
        refine ea_aload_n (pc := 63) dX12_keeps_63 rfl 0 rfl ?_
        refine ea_getR (pc := 64) dX12_keeps_64 ec_12 (k := 85) (Nat.le_of_ble_eq_true rfl) rfl (Or.inl ew_1430) (hs12.1 0 (by decide)).1 (hs12.1 0 (by decide)).2.1 (hs12.2 0 85 rfl) ?_
        refine ea_iload_n (pc := 67) dX12_keeps_67 rfl 1 rfl ?_
        obtain ⟨z13, E⟩ := gd_some E
        refine ea_iald (pc := 68) dX12_keeps_68 (hs12.1 59 (by decide)).1 (hs12.1 59 (by decide)).2.1 (ea_vpl (hs12.1 59 (by decide)).2.2 z13) ?_
        obtain ⟨z14, E⟩ := gd_some E
        refine ea_iast (pc := 69) dX12_keeps_69 (hs12.1 85 (by decide)).1 (hs12.1 85 (by decide)).2.1 (ea_vpl (hs12.1 85 (by decide)).2.2 z14) ?_
        have hs15 : ShM b0 (ea_wi (ea_wi (ea_wi (ea_wi (ea_wi h (b0 + 81) (Int32.toNatClampNeg x1) (ea_i h (b0 + 55) (Int32.toNatClampNeg x1))) (b0 + 82) (Int32.toNatClampNeg x1) (ea_i (ea_wi h (b0 + 81) (Int32.toNatClampNeg x1) (ea_i h (b0 + 55) (Int32.toNatClampNeg x1))) (b0 + 56) (Int32.toNatClampNeg x1))) (b0 + 83) (Int32.toNatClampNeg x1) (ea_i (ea_wi (ea_wi h (b0 + 81) (Int32.toNatClampNeg x1) (ea_i h (b0 + 55) (Int32.toNatClampNeg x1))) (b0 + 82) (Int32.toNatClampNeg x1) (ea_i (ea_wi h (b0 + 81) (Int32.toNatClampNeg x1) (ea_i h (b0 + 55) (Int32.toNatClampNeg x1))) (b0 + 56) (Int32.toNatClampNeg x1))) (b0 + 57) (Int32.toNatClampNeg x1))) (b0 + 84) (Int32.toNatClampNeg x1) (ea_i (ea_wi (ea_wi (ea_wi h (b0 + 81) (Int32.toNatClampNeg x1) (ea_i h (b0 + 55) (Int32.toNatClampNeg x1))) (b0 + 82) (Int32.toNatClampNeg x1) (ea_i (ea_wi h (b0 + 81) (Int32.toNatClampNeg x1) (ea_i h (b0 + 55) (Int32.toNatClampNeg x1))) (b0 + 56) (Int32.toNatClampNeg x1))) (b0 + 83) (Int32.toNatClampNeg x1) (ea_i (ea_wi (ea_wi h (b0 + 81) (Int32.toNatClampNeg x1) (ea_i h (b0 + 55) (Int32.toNatClampNeg x1))) (b0 + 82) (Int32.toNatClampNeg x1) (ea_i (ea_wi h (b0 + 81) (Int32.toNatClampNeg x1) (ea_i h (b0 + 55) (Int32.toNatClampNeg x1))) (b0 + 56) (Int32.toNatClampNeg x1))) (b0 + 57) (Int32.toNatClampNeg x1))) (b0 + 58) (Int32.toNatClampNeg x1))) (b0 + 85) (Int32.toNatClampNeg x1) (ea_i (ea_wi (ea_wi (ea_wi (ea_wi h (b0 + 81) (Int32.toNatClampNeg x1) (ea_i h (b0 + 55) (Int32.toNatClampNeg x1))) (b0 + 82) (Int32.toNatClampNeg x1) (ea_i (ea_wi h (b0 + 81) (Int32.toNatClampNeg x1) (ea_i h (b0 + 55) (Int32.toNatClampNeg x1))) (b0 + 56) (Int32.toNatClampNeg x1))) (b0 + 83) (Int32.toNatClampNeg x1) (ea_i (ea_wi (ea_wi h (b0 + 81) (Int32.toNatClampNeg x1) (ea_i h (b0 + 55) (Int32.toNatClampNeg x1))) (b0 + 82) (Int32.toNatClampNeg x1) (ea_i (ea_wi h (b0 + 81) (Int32.toNatClampNeg x1) (ea_i h (b0 + 55) (Int32.toNatClampNeg x1))) (b0 + 56) (Int32.toNatClampNeg x1))) (b0 + 57) (Int32.toNatClampNeg x1))) (b0 + 84) (Int32.toNatClampNeg x1) (ea_i (ea_wi (ea_wi (ea_wi h (b0 + 81) (Int32.toNatClampNeg x1) (ea_i h (b0 + 55) (Int32.toNatClampNeg x1))) (b0 + 82) (Int32.toNatClampNeg x1) (ea_i (ea_wi h (b0 + 81) (Int32.toNatClampNeg x1) (ea_i h (b0 + 55) (Int32.toNatClampNeg x1))) (b0 + 56) (Int32.toNatClampNeg x1))) (b0 + 83) (Int32.toNatClampNeg x1) (ea_i (ea_wi (ea_wi h (b0 + 81) (Int32.toNatClampNeg x1) (ea_i h (b0 + 55) (Int32.toNatClampNeg x1))) (b0 + 82) (Int32.toNatClampNeg x1) (ea_i (ea_wi h (b0 + 81) (Int32.toNatClampNeg x1) (ea_i h (b0 + 55) (Int32.toNatClampNeg x1))) (b0 + 56) (Int32.toNatClampNeg x1))) (b0 + 57) (Int32.toNatClampNeg x1))) (b0 + 58) (Int32.toNatClampNeg x1))) (b0 + 59) (Int32.toNatClampNeg x1))) := ShM_wi hs12
        refine ea_aload_n (pc := 70) dX12_keeps_70 rfl 0 rfl ?_
        refine ea_getR (pc := 71) dX12_keeps_71 ec_12 (k := 114) (Nat.le_of_ble_eq_true rfl) rfl (Or.inl ew_1459) (hs15.1 0 (by decide)).1 (hs15.1 0 (by decide)).2.1 (hs15.2 0 114 rfl) ?_
        refine ea_iload_n (pc := 74) dX12_keeps_74 rfl 1 rfl ?_
        refine ea_aload_n (pc := 75) dX12_keeps_75 rfl 0 rfl ?_
        refine ea_getR (pc := 76) dX12_keeps_76 ec_12 (k := 76) (Nat.le_of_ble_eq_true rfl) rfl (Or.inl ew_1421) (hs15.1 0 (by decide)).1 (hs15.1 0 (by decide)).2.1 (hs15.2 0 76 rfl) ?_
        refine ea_iload_n (pc := 79) dX12_keeps_79 rfl 1 rfl ?_
        obtain ⟨z16, E⟩ := gd_some E
        refine ea_iald (pc := 80) dX12_keeps_80 (hs15.1 50 (by decide)).1 (hs15.1 50 (by decide)).2.1 (ea_vpl (hs15.1 50 (by decide)).2.2 z16) ?_
        obtain ⟨z17, E⟩ := gd_some E
        refine ea_iast (pc := 81) dX12_keeps_81 (hs15.1 86 (by decide)).1 (hs15.1 86 (by decide)).2.1 (ea_vpl (hs15.1 86 (by decide)).2.2 z17) ?_
        have hs18 : ShM b0 (ea_wi (ea_wi (ea_wi (ea_wi (ea_wi (ea_wi h (b0 + 81) (Int32.toNatClampNeg x1) (ea_i h (b0 + 55) (Int32.toNatClampNeg x1))) (b0 + 82) (Int32.toNatClampNeg x1) (ea_i (ea_wi h (b0 + 81) (Int32.toNatClampNeg x1) (ea_i h (b0 + 55) (Int32.toNatClampNeg x1))) (b0 + 56) (Int32.toNatClampNeg x1))) (b0 + 83) (Int32.toNatClampNeg x1) (ea_i (ea_wi (ea_wi h (b0 + 81) (Int32.toNatClampNeg x1) (ea_i h (b0 + 55) (Int32.toNatClampNeg x1))) (b0 + 82) (Int32.toNatClampNeg x1) (ea_i (ea_wi h (b0 + 81) (Int32.toNatClampNeg x1) (ea_i h (b0 + 55) (Int32.toNatClampNeg x1))) (b0 + 56) (Int32.toNatClampNeg x1))) (b0 + 57) (Int32.toNatClampNeg x1))) (b0 + 84) (Int32.toNatClampNeg x1) (ea_i (ea_wi (ea_wi (ea_wi h (b0 + 81) (Int32.toNatClampNeg x1) (ea_i h (b0 + 55) (Int32.toNatClampNeg x1))) (b0 + 82) (Int32.toNatClampNeg x1) (ea_i (ea_wi h (b0 + 81) (Int32.toNatClampNeg x1) (ea_i h (b0 + 55) (Int32.toNatClampNeg x1))) (b0 + 56) (Int32.toNatClampNeg x1))) (b0 + 83) (Int32.toNatClampNeg x1) (ea_i (ea_wi (ea_wi h (b0 + 81) (Int32.toNatClampNeg x1) (ea_i h (b0 + 55) (Int32.toNatClampNeg x1))) (b0 + 82) (Int32.toNatClampNeg x1) (ea_i (ea_wi h (b0 + 81) (Int32.toNatClampNeg x1) (ea_i h (b0 + 55) (Int32.toNatClampNeg x1))) (b0 + 56) (Int32.toNatClampNeg x1))) (b0 + 57) (Int32.toNatClampNeg x1))) (b0 + 58) (Int32.toNatClampNeg x1))) (b0 + 85) (Int32.toNatClampNeg x1) (ea_i (ea_wi (ea_wi (ea_wi (ea_wi h (b0 + 81) (Int32.toNatClampNeg x1) (ea_i h (b0 + 55) (Int32.toNatClampNeg x1))) (b0 + 82) (Int32.toNatClampNeg x1) (ea_i (ea_wi h (b0 + 81) (Int32.toNatClampNeg x1) (ea_i h (b0 + 55) (Int32.toNatClampNeg x1))) (b0 + 56) (Int32.toNatClampNeg x1))) (b0 + 83) (Int32.toNatClampNeg x1) (ea_i (ea_wi (ea_wi h (b0 + 81) (Int32.toNatClampNeg x1) (ea_i h (b0 + 55) (Int32.toNatClampNeg x1))) (b0 + 82) (Int32.toNatClampNeg x1) (ea_i (ea_wi h (b0 + 81) (Int32.toNatClampNeg x1) (ea_i h (b0 + 55) (Int32.toNatClampNeg x1))) (b0 + 56) (Int32.toNatClampNeg x1))) (b0 + 57) (Int32.toNatClampNeg x1))) (b0 + 84) (Int32.toNatClampNeg x1) (ea_i (ea_wi (ea_wi (ea_wi h (b0 + 81) (Int32.toNatClampNeg x1) (ea_i h (b0 + 55) (Int32.toNatClampNeg x1))) (b0 + 82) (Int32.toNatClampNeg x1) (ea_i (ea_wi h (b0 + 81) (Int32.toNatClampNeg x1) (ea_i h (b0 + 55) (Int32.toNatClampNeg x1))) (b0 + 56) (Int32.toNatClampNeg x1))) (b0 + 83) (Int32.toNatClampNeg x1) (ea_i (ea_wi (ea_wi h (b0 + 81) (Int32.toNatClampNeg x1) (ea_i h (b0 + 55) (Int32.toNatClampNeg x1))) (b0 + 82) (Int32.toNatClampNeg x1) (ea_i (ea_wi h (b0 + 81) (Int32.toNatClampNeg x1) (ea_i h (b0 + 55) (Int32.toNatClampNeg x1))) (b0 + 56) (Int32.toNatClampNeg x1))) (b0 + 57) (Int32.toNatClampNeg x1))) (b0 + 58) (Int32.toNatClampNeg x1))) (b0 + 59) (Int32.toNatClampNeg x1))) (b0 + 86) (Int32.toNatClampNeg x1) (ea_i (ea_wi (ea_wi (ea_wi (ea_wi (ea_wi h (b0 + 81) (Int32.toNatClampNeg x1) (ea_i h (b0 + 55) (Int32.toNatClampNeg x1))) (b0 + 82) (Int32.toNatClampNeg x1) (ea_i (ea_wi h (b0 + 81) (Int32.toNatClampNeg x1) (ea_i h (b0 + 55) (Int32.toNatClampNeg x1))) (b0 + 56) (Int32.toNatClampNeg x1))) (b0 + 83) (Int32.toNatClampNeg x1) (ea_i (ea_wi (ea_wi h (b0 + 81) (Int32.toNatClampNeg x1) (ea_i h (b0 + 55) (Int32.toNatClampNeg x1))) (b0 + 82) (Int32.toNatClampNeg x1) (ea_i (ea_wi h (b0 + 81) (Int32.toNatClampNeg x1) (ea_i h (b0 + 55) (Int32.toNatClampNeg x1))) (b0 + 56) (Int32.toNatClampNeg x1))) (b0 + 57) (Int32.toNatClampNeg x1))) (b0 + 84) (Int32.toNatClampNeg x1) (ea_i (ea_wi (ea_wi (ea_wi h (b0 + 81) (Int32.toNatClampNeg x1) (ea_i h (b0 + 55) (Int32.toNatClampNeg x1))) (b0 + 82) (Int32.toNatClampNeg x1) (ea_i (ea_wi h (b0 + 81) (Int32.toNatClampNeg x1) (ea_i h (b0 + 55) (Int32.toNatClampNeg x1))) (b0 + 56) (Int32.toNatClampNeg x1))) (b0 + 83) (Int32.toNatClampNeg x1) (ea_i (ea_wi (ea_wi h (b0 + 81) (Int32.toNatClampNeg x1) (ea_i h (b0 + 55) (Int32.toNatClampNeg x1))) (b0 + 82) (Int32.toNatClampNeg x1) (ea_i (ea_wi h (b0 + 81) (Int32.toNatClampNeg x1) (ea_i h (b0 + 55) (Int32.toNatClampNeg x1))) (b0 + 56) (Int32.toNatClampNeg x1))) (b0 + 57) (Int32.toNatClampNeg x1))) (b0 + 58) (Int32.toNatClampNeg x1))) (b0 + 85) (Int32.toNatClampNeg x1) (ea_i (ea_wi (ea_wi (ea_wi (ea_wi h (b0 + 81) (Int32.toNatClampNeg x1) (ea_i h (b0 + 55) (Int32.toNatClampNeg x1))) (b0 + 82) (Int32.toNatClampNeg x1) (ea_i (ea_wi h (b0 + 81) (Int32.toNatClampNeg x1) (ea_i h (b0 + 55) (Int32.toNatClampNeg x1))) (b0 + 56) (Int32.toNatClampNeg x1))) (b0 + 83) (Int32.toNatClampNeg x1) (ea_i (ea_wi (ea_wi h (b0 + 81) (Int32.toNatClampNeg x1) (ea_i h (b0 + 55) (Int32.toNatClampNeg x1))) (b0 + 82) (Int32.toNatClampNeg x1) (ea_i (ea_wi h (b0 + 81) (Int32.toNatClampNeg x1) (ea_i h (b0 + 55) (Int32.toNatClampNeg x1))) (b0 + 56) (Int32.toNatClampNeg x1))) (b0 + 57) (Int32.toNatClampNeg x1))) (b0 + 84) (Int32.toNatClampNeg x1) (ea_i (ea_wi (ea_wi (ea_wi h (b0 + 81) (Int32.toNatClampNeg x1) (ea_i h (b0 + 55) (Int32.toNatClampNeg x1))) (b0 + 82) (Int32.toNatClampNeg x1) (ea_i (ea_wi h (b0 + 81) (Int32.toNatClampNeg x1) (ea_i h (b0 + 55) (Int32.toNatClampNeg x1))) (b0 + 56) (Int32.toNatClampNeg x1))) (b0 + 83) (Int32.toNatClampNeg x1) (ea_i (ea_wi (ea_wi h (b0 + 81) (Int32.toNatClampNeg x1) (ea_i h (b0 + 55) (Int32.toNatClampNeg x1))) (b0 + 82) (Int32.toNatClampNeg x1) (ea_i (ea_wi h (b0 + 81) (Int32.toNatClampNeg x1) (ea_i h (b0 + 55) (Int32.toNatClampNeg x1))) (b0 + 56) (Int32.toNatClampNeg x1))) (b0 + 57) (Int32.toNatClampNeg x1))) (b0 + 58) (Int32.toNatClampNeg x1))) (b0 + 59) (Int32.toNatClampNeg x1))) (b0 + 50) (Int32.toNatClampNeg x1))) := ShM_wi hs15
        refine ea_aload_n (pc := 82) dX12_keeps_82 rfl 0 rfl ?_
        refine ea_getR (pc := 83) dX12_keeps_83 ec_12 (k := 115) (Nat.le_of_ble_eq_true rfl) rfl (Or.inl ew_1460) (hs18.1 0 (by decide)).1 (hs18.1 0 (by decide)).2.1 (hs18.2 0 115 rfl) ?_
        refine ea_iload_n (pc := 86) dX12_keeps_86 rfl 1 rfl ?_
        refine ea_aload_n (pc := 87) dX12_keeps_87 rfl 0 rfl ?_
        refine ea_getR (pc := 88) dX12_keeps_88 ec_12 (k := 77) (Nat.le_of_ble_eq_true rfl) rfl (Or.inl ew_1422) (hs18.1 0 (by decide)).1 (hs18.1 0 (by decide)).2.1 (hs18.2 0 77 rfl) ?_
        refine ea_iload_n (pc := 91) dX12_keeps_91 rfl 1 rfl ?_
        obtain ⟨z19, E⟩ := gd_some E
        refine ea_iald (pc := 92) dX12_keeps_92 (hs18.1 51 (by decide)).1 (hs18.1 51 (by decide)).2.1 (ea_vpl (hs18.1 51 (by decide)).2.2 z19) ?_
        obtain ⟨z20, E⟩ := gd_some E
        refine ea_iast (pc := 93) dX12_keeps_93 (hs18.1 87 (by decide)).1 (hs18.1 87 (by decide)).2.1 (ea_vpl (hs18.1 87 (by decide)).2.2 z20) ?_
        have hs21 : ShM b0 (ea_wi (ea_wi (ea_wi (ea_wi (ea_wi (ea_wi (ea_wi h (b0 + 81) (Int32.toNatClampNeg x1) (ea_i h (b0 + 55) (Int32.toNatClampNeg x1))) (b0 + 82) (Int32.toNatClampNeg x1) (ea_i (ea_wi h (b0 + 81) (Int32.toNatClampNeg x1) (ea_i h (b0 + 55) (Int32.toNatClampNeg x1))) (b0 + 56) (Int32.toNatClampNeg x1))) (b0 + 83) (Int32.toNatClampNeg x1) (ea_i (ea_wi (ea_wi h (b0 + 81) (Int32.toNatClampNeg x1) (ea_i h (b0 + 55) (Int32.toNatClampNeg x1))) (b0 + 82) (Int32.toNatClampNeg x1) (ea_i (ea_wi h (b0 + 81) (Int32.toNatClampNeg x1) (ea_i h (b0 + 55) (Int32.toNatClampNeg x1))) (b0 + 56) (Int32.toNatClampNeg x1))) (b0 + 57) (Int32.toNatClampNeg x1))) (b0 + 84) (Int32.toNatClampNeg x1) (ea_i (ea_wi (ea_wi (ea_wi h (b0 + 81) (Int32.toNatClampNeg x1) (ea_i h (b0 + 55) (Int32.toNatClampNeg x1))) (b0 + 82) (Int32.toNatClampNeg x1) (ea_i (ea_wi h (b0 + 81) (Int32.toNatClampNeg x1) (ea_i h (b0 + 55) (Int32.toNatClampNeg x1))) (b0 + 56) (Int32.toNatClampNeg x1))) (b0 + 83) (Int32.toNatClampNeg x1) (ea_i (ea_wi (ea_wi h (b0 + 81) (Int32.toNatClampNeg x1) (ea_i h (b0 + 55) (Int32.toNatClampNeg x1))) (b0 + 82) (Int32.toNatClampNeg x1) (ea_i (ea_wi h (b0 + 81) (Int32.toNatClampNeg x1) (ea_i h (b0 + 55) (Int32.toNatClampNeg x1))) (b0 + 56) (Int32.toNatClampNeg x1))) (b0 + 57) (Int32.toNatClampNeg x1))) (b0 + 58) (Int32.toNatClampNeg x1))) (b0 + 85) (Int32.toNatClampNeg x1) (ea_i (ea_wi (ea_wi (ea_wi (ea_wi h (b0 + 81) (Int32.toNatClampNeg x1) (ea_i h (b0 + 55) (Int32.toNatClampNeg x1))) (b0 + 82) (Int32.toNatClampNeg x1) (ea_i (ea_wi h (b0 + 81) (Int32.toNatClampNeg x1) (ea_i h (b0 + 55) (Int32.toNatClampNeg x1))) (b0 + 56) (Int32.toNatClampNeg x1))) (b0 + 83) (Int32.toNatClampNeg x1) (ea_i (ea_wi (ea_wi h (b0 + 81) (Int32.toNatClampNeg x1) (ea_i h (b0 + 55) (Int32.toNatClampNeg x1))) (b0 + 82) (Int32.toNatClampNeg x1) (ea_i (ea_wi h (b0 + 81) (Int32.toNatClampNeg x1) (ea_i h (b0 + 55) (Int32.toNatClampNeg x1))) (b0 + 56) (Int32.toNatClampNeg x1))) (b0 + 57) (Int32.toNatClampNeg x1))) (b0 + 84) (Int32.toNatClampNeg x1) (ea_i (ea_wi (ea_wi (ea_wi h (b0 + 81) (Int32.toNatClampNeg x1) (ea_i h (b0 + 55) (Int32.toNatClampNeg x1))) (b0 + 82) (Int32.toNatClampNeg x1) (ea_i (ea_wi h (b0 + 81) (Int32.toNatClampNeg x1) (ea_i h (b0 + 55) (Int32.toNatClampNeg x1))) (b0 + 56) (Int32.toNatClampNeg x1))) (b0 + 83) (Int32.toNatClampNeg x1) (ea_i (ea_wi (ea_wi h (b0 + 81) (Int32.toNatClampNeg x1) (ea_i h (b0 + 55) (Int32.toNatClampNeg x1))) (b0 + 82) (Int32.toNatClampNeg x1) (ea_i (ea_wi h (b0 + 81) (Int32.toNatClampNeg x1) (ea_i h (b0 + 55) (Int32.toNatClampNeg x1))) (b0 + 56) (Int32.toNatClampNeg x1))) (b0 + 57) (Int32.toNatClampNeg x1))) (b0 + 58) (Int32.toNatClampNeg x1))) (b0 + 59) (Int32.toNatClampNeg x1))) (b0 + 86) (Int32.toNatClampNeg x1) (ea_i (ea_wi (ea_wi (ea_wi (ea_wi (ea_wi h (b0 + 81) (Int32.toNatClampNeg x1) (ea_i h (b0 + 55) (Int32.toNatClampNeg x1))) (b0 + 82) (Int32.toNatClampNeg x1) (ea_i (ea_wi h (b0 + 81) (Int32.toNatClampNeg x1) (ea_i h (b0 + 55) (Int32.toNatClampNeg x1))) (b0 + 56) (Int32.toNatClampNeg x1))) (b0 + 83) (Int32.toNatClampNeg x1) (ea_i (ea_wi (ea_wi h (b0 + 81) (Int32.toNatClampNeg x1) (ea_i h (b0 + 55) (Int32.toNatClampNeg x1))) (b0 + 82) (Int32.toNatClampNeg x1) (ea_i (ea_wi h (b0 + 81) (Int32.toNatClampNeg x1) (ea_i h (b0 + 55) (Int32.toNatClampNeg x1))) (b0 + 56) (Int32.toNatClampNeg x1))) (b0 + 57) (Int32.toNatClampNeg x1))) (b0 + 84) (Int32.toNatClampNeg x1) (ea_i (ea_wi (ea_wi (ea_wi h (b0 + 81) (Int32.toNatClampNeg x1) (ea_i h (b0 + 55) (Int32.toNatClampNeg x1))) (b0 + 82) (Int32.toNatClampNeg x1) (ea_i (ea_wi h (b0 + 81) (Int32.toNatClampNeg x1) (ea_i h (b0 + 55) (Int32.toNatClampNeg x1))) (b0 + 56) (Int32.toNatClampNeg x1))) (b0 + 83) (Int32.toNatClampNeg x1) (ea_i (ea_wi (ea_wi h (b0 + 81) (Int32.toNatClampNeg x1) (ea_i h (b0 + 55) (Int32.toNatClampNeg x1))) (b0 + 82) (Int32.toNatClampNeg x1) (ea_i (ea_wi h (b0 + 81) (Int32.toNatClampNeg x1) (ea_i h (b0 + 55) (Int32.toNatClampNeg x1))) (b0 + 56) (Int32.toNatClampNeg x1))) (b0 + 57) (Int32.toNatClampNeg x1))) (b0 + 58) (Int32.toNatClampNeg x1))) (b0 + 85) (Int32.toNatClampNeg x1) (ea_i (ea_wi (ea_wi (ea_wi (ea_wi h (b0 + 81) (Int32.toNatClampNeg x1) (ea_i h (b0 + 55) (Int32.toNatClampNeg x1))) (b0 + 82) (Int32.toNatClampNeg x1) (ea_i (ea_wi h (b0 + 81) (Int32.toNatClampNeg x1) (ea_i h (b0 + 55) (Int32.toNatClampNeg x1))) (b0 + 56) (Int32.toNatClampNeg x1))) (b0 + 83) (Int32.toNatClampNeg x1) (ea_i (ea_wi (ea_wi h (b0 + 81) (Int32.toNatClampNeg x1) (ea_i h (b0 + 55) (Int32.toNatClampNeg x1))) (b0 + 82) (Int32.toNatClampNeg x1) (ea_i (ea_wi h (b0 + 81) (Int32.toNatClampNeg x1) (ea_i h (b0 + 55) (Int32.toNatClampNeg x1))) (b0 + 56) (Int32.toNatClampNeg x1))) (b0 + 57) (Int32.toNatClampNeg x1))) (b0 + 84) (Int32.toNatClampNeg x1) (ea_i (ea_wi (ea_wi (ea_wi h (b0 + 81) (Int32.toNatClampNeg x1) (ea_i h (b0 + 55) (Int32.toNatClampNeg x1))) (b0 + 82) (Int32.toNatClampNeg x1) (ea_i (ea_wi h (b0 + 81) (Int32.toNatClampNeg x1) (ea_i h (b0 + 55) (Int32.toNatClampNeg x1))) (b0 + 56) (Int32.toNatClampNeg x1))) (b0 + 83) (Int32.toNatClampNeg x1) (ea_i (ea_wi (ea_wi h (b0 + 81) (Int32.toNatClampNeg x1) (ea_i h (b0 + 55) (Int32.toNatClampNeg x1))) (b0 + 82) (Int32.toNatClampNeg x1) (ea_i (ea_wi h (b0 + 81) (Int32.toNatClampNeg x1) (ea_i h (b0 + 55) (Int32.toNatClampNeg x1))) (b0 + 56) (Int32.toNatClampNeg x1))) (b0 + 57) (Int32.toNatClampNeg x1))) (b0 + 58) (Int32.toNatClampNeg x1))) (b0 + 59) (Int32.toNatClampNeg x1))) (b0 + 50) (Int32.toNatClampNeg x1))) (b0 + 87) (Int32.toNatClampNeg x1) (ea_i (ea_wi (ea_wi (ea_wi (ea_wi (ea_wi (ea_wi h (b0 + 81) (Int32.toNatClampNeg x1) (ea_i h (b0 + 55) (Int32.toNatClampNeg x1))) (b0 + 82) (Int32.toNatClampNeg x1) (ea_i (ea_wi h (b0 + 81) (Int32.toNatClampNeg x1) (ea_i h (b0 + 55) (Int32.toNatClampNeg x1))) (b0 + 56) (Int32.toNatClampNeg x1))) (b0 + 83) (Int32.toNatClampNeg x1) (ea_i (ea_wi (ea_wi h (b0 + 81) (Int32.toNatClampNeg x1) (ea_i h (b0 + 55) (Int32.toNatClampNeg x1))) (b0 + 82) (Int32.toNatClampNeg x1) (ea_i (ea_wi h (b0 + 81) (Int32.toNatClampNeg x1) (ea_i h (b0 + 55) (Int32.toNatClampNeg x1))) (b0 + 56) (Int32.toNatClampNeg x1))) (b0 + 57) (Int32.toNatClampNeg x1))) (b0 + 84) (Int32.toNatClampNeg x1) (ea_i (ea_wi (ea_wi (ea_wi h (b0 + 81) (Int32.toNatClampNeg x1) (ea_i h (b0 + 55) (Int32.toNatClampNeg x1))) (b0 + 82) (Int32.toNatClampNeg x1) (ea_i (ea_wi h (b0 + 81) (Int32.toNatClampNeg x1) (ea_i h (b0 + 55) (Int32.toNatClampNeg x1))) (b0 + 56) (Int32.toNatClampNeg x1))) (b0 + 83) (Int32.toNatClampNeg x1) (ea_i (ea_wi (ea_wi h (b0 + 81) (Int32.toNatClampNeg x1) (ea_i h (b0 + 55) (Int32.toNatClampNeg x1))) (b0 + 82) (Int32.toNatClampNeg x1) (ea_i (ea_wi h (b0 + 81) (Int32.toNatClampNeg x1) (ea_i h (b0 + 55) (Int32.toNatClampNeg x1))) (b0 + 56) (Int32.toNatClampNeg x1))) (b0 + 57) (Int32.toNatClampNeg x1))) (b0 + 58) (Int32.toNatClampNeg x1))) (b0 + 85) (Int32.toNatClampNeg x1) (ea_i (ea_wi (ea_wi (ea_wi (ea_wi h (b0 + 81) (Int32.toNatClampNeg x1) (ea_i h (b0 + 55) (Int32.toNatClampNeg x1))) (b0 + 82) (Int32.toNatClampNeg x1) (ea_i (ea_wi h (b0 + 81) (Int32.toNatClampNeg x1) (ea_i h (b0 + 55) (Int32.toNatClampNeg x1))) (b0 + 56) (Int32.toNatClampNeg x1))) (b0 + 83) (Int32.toNatClampNeg x1) (ea_i (ea_wi (ea_wi h (b0 + 81) (Int32.toNatClampNeg x1) (ea_i h (b0 + 55) (Int32.toNatClampNeg x1))) (b0 + 82) (Int32.toNatClampNeg x1) (ea_i (ea_wi h (b0 + 81) (Int32.toNatClampNeg x1) (ea_i h (b0 + 55) (Int32.toNatClampNeg x1))) (b0 + 56) (Int32.toNatClampNeg x1))) (b0 + 57) (Int32.toNatClampNeg x1))) (b0 + 84) (Int32.toNatClampNeg x1) (ea_i (ea_wi (ea_wi (ea_wi h (b0 + 81) (Int32.toNatClampNeg x1) (ea_i h (b0 + 55) (Int32.toNatClampNeg x1))) (b0 + 82) (Int32.toNatClampNeg x1) (ea_i (ea_wi h (b0 + 81) (Int32.toNatClampNeg x1) (ea_i h (b0 + 55) (Int32.toNatClampNeg x1))) (b0 + 56) (Int32.toNatClampNeg x1))) (b0 + 83) (Int32.toNatClampNeg x1) (ea_i (ea_wi (ea_wi h (b0 + 81) (Int32.toNatClampNeg x1) (ea_i h (b0 + 55) (Int32.toNatClampNeg x1))) (b0 + 82) (Int32.toNatClampNeg x1) (ea_i (ea_wi h (b0 + 81) (Int32.toNatClampNeg x1) (ea_i h (b0 + 55) (Int32.toNatClampNeg x1))) (b0 + 56) (Int32.toNatClampNeg x1))) (b0 + 57) (Int32.toNatClampNeg x1))) (b0 + 58) (Int32.toNatClampNeg x1))) (b0 + 59) (Int32.toNatClampNeg x1))) (b0 + 86) (Int32.toNatClampNeg x1) (ea_i (ea_wi (ea_wi (ea_wi (ea_wi (ea_wi h (b0 + 81) (Int32.toNatClampNeg x1) (ea_i h (b0 + 55) (Int32.toNatClampNeg x1))) (b0 + 82) (Int32.toNatClampNeg x1) (ea_i (ea_wi h (b0 + 81) (Int32.toNatClampNeg x1) (ea_i h (b0 + 55) (Int32.toNatClampNeg x1))) (b0 + 56) (Int32.toNatClampNeg x1))) (b0 + 83) (Int32.toNatClampNeg x1) (ea_i (ea_wi (ea_wi h (b0 + 81) (Int32.toNatClampNeg x1) (ea_i h (b0 + 55) (Int32.toNatClampNeg x1))) (b0 + 82) (Int32.toNatClampNeg x1) (ea_i (ea_wi h (b0 + 81) (Int32.toNatClampNeg x1) (ea_i h (b0 + 55) (Int32.toNatClampNeg x1))) (b0 + 56) (Int32.toNatClampNeg x1))) (b0 + 57) (Int32.toNatClampNeg x1))) (b0 + 84) (Int32.toNatClampNeg x1) (ea_i (ea_wi (ea_wi (ea_wi h (b0 + 81) (Int32.toNatClampNeg x1) (ea_i h (b0 + 55) (Int32.toNatClampNeg x1))) (b0 + 82) (Int32.toNatClampNeg x1) (ea_i (ea_wi h (b0 + 81) (Int32.toNatClampNeg x1) (ea_i h (b0 + 55) (Int32.toNatClampNeg x1))) (b0 + 56) (Int32.toNatClampNeg x1))) (b0 + 83) (Int32.toNatClampNeg x1) (ea_i (ea_wi (ea_wi h (b0 + 81) (Int32.toNatClampNeg x1) (ea_i h (b0 + 55) (Int32.toNatClampNeg x1))) (b0 + 82) (Int32.toNatClampNeg x1) (ea_i (ea_wi h (b0 + 81) (Int32.toNatClampNeg x1) (ea_i h (b0 + 55) (Int32.toNatClampNeg x1))) (b0 + 56) (Int32.toNatClampNeg x1))) (b0 + 57) (Int32.toNatClampNeg x1))) (b0 + 58) (Int32.toNatClampNeg x1))) (b0 + 85) (Int32.toNatClampNeg x1) (ea_i (ea_wi (ea_wi (ea_wi (ea_wi h (b0 + 81) (Int32.toNatClampNeg x1) (ea_i h (b0 + 55) (Int32.toNatClampNeg x1))) (b0 + 82) (Int32.toNatClampNeg x1) (ea_i (ea_wi h (b0 + 81) (Int32.toNatClampNeg x1) (ea_i h (b0 + 55) (Int32.toNatClampNeg x1))) (b0 + 56) (Int32.toNatClampNeg x1))) (b0 + 83) (Int32.toNatClampNeg x1) (ea_i (ea_wi (ea_wi h (b0 + 81) (Int32.toNatClampNeg x1) (ea_i h (b0 + 55) (Int32.toNatClampNeg x1))) (b0 + 82) (Int32.toNatClampNeg x1) (ea_i (ea_wi h (b0 + 81) (Int32.toNatClampNeg x1) (ea_i h (b0 + 55) (Int32.toNatClampNeg x1))) (b0 + 56) (Int32.toNatClampNeg x1))) (b0 + 57) (Int32.toNatClampNeg x1))) (b0 + 84) (Int32.toNatClampNeg x1) (ea_i (ea_wi (ea_wi (ea_wi h (b0 + 81) (Int32.toNatClampNeg x1) (ea_i h (b0 + 55) (Int32.toNatClampNeg x1))) (b0 + 82) (Int32.toNatClampNeg x1) (ea_i (ea_wi h (b0 + 81) (Int32.toNatClampNeg x1) (ea_i h (b0 + 55) (Int32.toNatClampNeg x1))) (b0 + 56) (Int32.toNatClampNeg x1))) (b0 + 83) (Int32.toNatClampNeg x1) (ea_i (ea_wi (ea_wi h (b0 + 81) (Int32.toNatClampNeg x1) (ea_i h (b0 + 55) (Int32.toNatClampNeg x1))) (b0 + 82) (Int32.toNatClampNeg x1) (ea_i (ea_wi h (b0 + 81) (Int32.toNatClampNeg x1) (ea_i h (b0 + 55) (Int32.toNatClampNeg x1))) (b0 + 56) (Int32.toNatClampNeg x1))) (b0 + 57) (Int32.toNatClampNeg x1))) (b0 + 58) (Int32.toNatClampNeg x1))) (b0 + 59) (Int32.toNatClampNeg x1))) (b0 + 50) (Int32.toNatClampNeg x1))) (b0 + 51) (Int32.toNatClampNeg x1))) := ShM_wi hs18
        refine ea_aload_n (pc := 94) dX12_keeps_94 rfl 0 rfl ?_
        refine ea_getR (pc := 95) dX12_keeps_95 ec_12 (k := 117) (Nat.le_of_ble_eq_true rfl) rfl (Or.inl ew_1462) (hs21.1 0 (by decide)).1 (hs21.1 0 (by decide)).2.1 (hs21.2 0 117 rfl) ?_
        refine ea_iload_n (pc := 98) dX12_keeps_98 rfl 1 rfl ?_
        refine ea_aload_n (pc := 99) dX12_keeps_99 rfl 0 rfl ?_
        refine ea_getR (pc := 100) dX12_keeps_100 ec_12 (k := 87) (Nat.le_of_ble_eq_true rfl) rfl (Or.inl ew_1432) (hs21.1 0 (by decide)).1 (hs21.1 0 (by decide)).2.1 (hs21.2 0 87 rfl) ?_
        refine ea_iload_n (pc := 103) dX12_keeps_103 rfl 1 rfl ?_
        obtain ⟨z22, E⟩ := gd_some E
        refine ea_zald (pc := 104) dX12_keeps_104 (hs21.1 61 (by decide)).1 (hs21.1 61 (by decide)).2.1 (ea_vpl (hs21.1 61 (by decide)).2.2 z22) ?_
        obtain ⟨z23, E⟩ := gd_some E
        obtain ⟨z25, E⟩ := gd_some E
        refine ea_zast (pc := 105) dX12_keeps_105 (y := (ea_i (ea_wi (ea_wi (ea_wi (ea_wi (ea_wi (ea_wi (ea_wi h (b0 + 81) (Int32.toNatClampNeg x1) (ea_i h (b0 + 55) (Int32.toNatClampNeg x1))) (b0 + 82) (Int32.toNatClampNeg x1) (ea_i (ea_wi h (b0 + 81) (Int32.toNatClampNeg x1) (ea_i h (b0 + 55) (Int32.toNatClampNeg x1))) (b0 + 56) (Int32.toNatClampNeg x1))) (b0 + 83) (Int32.toNatClampNeg x1) (ea_i (ea_wi (ea_wi h (b0 + 81) (Int32.toNatClampNeg x1) (ea_i h (b0 + 55) (Int32.toNatClampNeg x1))) (b0 + 82) (Int32.toNatClampNeg x1) (ea_i (ea_wi h (b0 + 81) (Int32.toNatClampNeg x1) (ea_i h (b0 + 55) (Int32.toNatClampNeg x1))) (b0 + 56) (Int32.toNatClampNeg x1))) (b0 + 57) (Int32.toNatClampNeg x1))) (b0 + 84) (Int32.toNatClampNeg x1) (ea_i (ea_wi (ea_wi (ea_wi h (b0 + 81) (Int32.toNatClampNeg x1) (ea_i h (b0 + 55) (Int32.toNatClampNeg x1))) (b0 + 82) (Int32.toNatClampNeg x1) (ea_i (ea_wi h (b0 + 81) (Int32.toNatClampNeg x1) (ea_i h (b0 + 55) (Int32.toNatClampNeg x1))) (b0 + 56) (Int32.toNatClampNeg x1))) (b0 + 83) (Int32.toNatClampNeg x1) (ea_i (ea_wi (ea_wi h (b0 + 81) (Int32.toNatClampNeg x1) (ea_i h (b0 + 55) (Int32.toNatClampNeg x1))) (b0 + 82) (Int32.toNatClampNeg x1) (ea_i (ea_wi h (b0 + 81) (Int32.toNatClampNeg x1) (ea_i h (b0 + 55) (Int32.toNatClampNeg x1))) (b0 + 56) (Int32.toNatClampNeg x1))) (b0 + 57) (Int32.toNatClampNeg x1))) (b0 + 58) (Int32.toNatClampNeg x1))) (b0 + 85) (Int32.toNatClampNeg x1) (ea_i (ea_wi (ea_wi (ea_wi (ea_wi h (b0 + 81) (Int32.toNatClampNeg x1) (ea_i h (b0 + 55) (Int32.toNatClampNeg x1))) (b0 + 82) (Int32.toNatClampNeg x1) (ea_i (ea_wi h (b0 + 81) (Int32.toNatClampNeg x1) (ea_i h (b0 + 55) (Int32.toNatClampNeg x1))) (b0 + 56) (Int32.toNatClampNeg x1))) (b0 + 83) (Int32.toNatClampNeg x1) (ea_i (ea_wi (ea_wi h (b0 + 81) (Int32.toNatClampNeg x1) (ea_i h (b0 + 55) (Int32.toNatClampNeg x1))) (b0 + 82) (Int32.toNatClampNeg x1) (ea_i (ea_wi h (b0 + 81) (Int32.toNatClampNeg x1) (ea_i h (b0 + 55) (Int32.toNatClampNeg x1))) (b0 + 56) (Int32.toNatClampNeg x1))) (b0 + 57) (Int32.toNatClampNeg x1))) (b0 + 84) (Int32.toNatClampNeg x1) (ea_i (ea_wi (ea_wi (ea_wi h (b0 + 81) (Int32.toNatClampNeg x1) (ea_i h (b0 + 55) (Int32.toNatClampNeg x1))) (b0 + 82) (Int32.toNatClampNeg x1) (ea_i (ea_wi h (b0 + 81) (Int32.toNatClampNeg x1) (ea_i h (b0 + 55) (Int32.toNatClampNeg x1))) (b0 + 56) (Int32.toNatClampNeg x1))) (b0 + 83) (Int32.toNatClampNeg x1) (ea_i (ea_wi (ea_wi h (b0 + 81) (Int32.toNatClampNeg x1) (ea_i h (b0 + 55) (Int32.toNatClampNeg x1))) (b0 + 82) (Int32.toNatClampNeg x1) (ea_i (ea_wi h (b0 + 81) (Int32.toNatClampNeg x1) (ea_i h (b0 + 55) (Int32.toNatClampNeg x1))) (b0 + 56) (Int32.toNatClampNeg x1))) (b0 + 57) (Int32.toNatClampNeg x1))) (b0 + 58) (Int32.toNatClampNeg x1))) (b0 + 59) (Int32.toNatClampNeg x1))) (b0 + 86) (Int32.toNatClampNeg x1) (ea_i (ea_wi (ea_wi (ea_wi (ea_wi (ea_wi h (b0 + 81) (Int32.toNatClampNeg x1) (ea_i h (b0 + 55) (Int32.toNatClampNeg x1))) (b0 + 82) (Int32.toNatClampNeg x1) (ea_i (ea_wi h (b0 + 81) (Int32.toNatClampNeg x1) (ea_i h (b0 + 55) (Int32.toNatClampNeg x1))) (b0 + 56) (Int32.toNatClampNeg x1))) (b0 + 83) (Int32.toNatClampNeg x1) (ea_i (ea_wi (ea_wi h (b0 + 81) (Int32.toNatClampNeg x1) (ea_i h (b0 + 55) (Int32.toNatClampNeg x1))) (b0 + 82) (Int32.toNatClampNeg x1) (ea_i (ea_wi h (b0 + 81) (Int32.toNatClampNeg x1) (ea_i h (b0 + 55) (Int32.toNatClampNeg x1))) (b0 + 56) (Int32.toNatClampNeg x1))) (b0 + 57) (Int32.toNatClampNeg x1))) (b0 + 84) (Int32.toNatClampNeg x1) (ea_i (ea_wi (ea_wi (ea_wi h (b0 + 81) (Int32.toNatClampNeg x1) (ea_i h (b0 + 55) (Int32.toNatClampNeg x1))) (b0 + 82) (Int32.toNatClampNeg x1) (ea_i (ea_wi h (b0 + 81) (Int32.toNatClampNeg x1) (ea_i h (b0 + 55) (Int32.toNatClampNeg x1))) (b0 + 56) (Int32.toNatClampNeg x1))) (b0 + 83) (Int32.toNatClampNeg x1) (ea_i (ea_wi (ea_wi h (b0 + 81) (Int32.toNatClampNeg x1) (ea_i h (b0 + 55) (Int32.toNatClampNeg x1))) (b0 + 82) (Int32.toNatClampNeg x1) (ea_i (ea_wi h (b0 + 81) (Int32.toNatClampNeg x1) (ea_i h (b0 + 55) (Int32.toNatClampNeg x1))) (b0 + 56) (Int32.toNatClampNeg x1))) (b0 + 57) (Int32.toNatClampNeg x1))) (b0 + 58) (Int32.toNatClampNeg x1))) (b0 + 85) (Int32.toNatClampNeg x1) (ea_i (ea_wi (ea_wi (ea_wi (ea_wi h (b0 + 81) (Int32.toNatClampNeg x1) (ea_i h (b0 + 55) (Int32.toNatClampNeg x1))) (b0 + 82) (Int32.toNatClampNeg x1) (ea_i (ea_wi h (b0 + 81) (Int32.toNatClampNeg x1) (ea_i h (b0 + 55) (Int32.toNatClampNeg x1))) (b0 + 56) (Int32.toNatClampNeg x1))) (b0 + 83) (Int32.toNatClampNeg x1) (ea_i (ea_wi (ea_wi h (b0 + 81) (Int32.toNatClampNeg x1) (ea_i h (b0 + 55) (Int32.toNatClampNeg x1))) (b0 + 82) (Int32.toNatClampNeg x1) (ea_i (ea_wi h (b0 + 81) (Int32.toNatClampNeg x1) (ea_i h (b0 + 55) (Int32.toNatClampNeg x1))) (b0 + 56) (Int32.toNatClampNeg x1))) (b0 + 57) (Int32.toNatClampNeg x1))) (b0 + 84) (Int32.toNatClampNeg x1) (ea_i (ea_wi (ea_wi (ea_wi h (b0 + 81) (Int32.toNatClampNeg x1) (ea_i h (b0 + 55) (Int32.toNatClampNeg x1))) (b0 + 82) (Int32.toNatClampNeg x1) (ea_i (ea_wi h (b0 + 81) (Int32.toNatClampNeg x1) (ea_i h (b0 + 55) (Int32.toNatClampNeg x1))) (b0 + 56) (Int32.toNatClampNeg x1))) (b0 + 83) (Int32.toNatClampNeg x1) (ea_i (ea_wi (ea_wi h (b0 + 81) (Int32.toNatClampNeg x1) (ea_i h (b0 + 55) (Int32.toNatClampNeg x1))) (b0 + 82) (Int32.toNatClampNeg x1) (ea_i (ea_wi h (b0 + 81) (Int32.toNatClampNeg x1) (ea_i h (b0 + 55) (Int32.toNatClampNeg x1))) (b0 + 56) (Int32.toNatClampNeg x1))) (b0 + 57) (Int32.toNatClampNeg x1))) (b0 + 58) (Int32.toNatClampNeg x1))) (b0 + 59) (Int32.toNatClampNeg x1))) (b0 + 50) (Int32.toNatClampNeg x1))) (b0 + 87) (Int32.toNatClampNeg x1) (ea_i (ea_wi (ea_wi (ea_wi (ea_wi (ea_wi (ea_wi h (b0 + 81) (Int32.toNatClampNeg x1) (ea_i h (b0 + 55) (Int32.toNatClampNeg x1))) (b0 + 82) (Int32.toNatClampNeg x1) (ea_i (ea_wi h (b0 + 81) (Int32.toNatClampNeg x1) (ea_i h (b0 + 55) (Int32.toNatClampNeg x1))) (b0 + 56) (Int32.toNatClampNeg x1))) (b0 + 83) (Int32.toNatClampNeg x1) (ea_i (ea_wi (ea_wi h (b0 + 81) (Int32.toNatClampNeg x1) (ea_i h (b0 + 55) (Int32.toNatClampNeg x1))) (b0 + 82) (Int32.toNatClampNeg x1) (ea_i (ea_wi h (b0 + 81) (Int32.toNatClampNeg x1) (ea_i h (b0 + 55) (Int32.toNatClampNeg x1))) (b0 + 56) (Int32.toNatClampNeg x1))) (b0 + 57) (Int32.toNatClampNeg x1))) (b0 + 84) (Int32.toNatClampNeg x1) (ea_i (ea_wi (ea_wi (ea_wi h (b0 + 81) (Int32.toNatClampNeg x1) (ea_i h (b0 + 55) (Int32.toNatClampNeg x1))) (b0 + 82) (Int32.toNatClampNeg x1) (ea_i (ea_wi h (b0 + 81) (Int32.toNatClampNeg x1) (ea_i h (b0 + 55) (Int32.toNatClampNeg x1))) (b0 + 56) (Int32.toNatClampNeg x1))) (b0 + 83) (Int32.toNatClampNeg x1) (ea_i (ea_wi (ea_wi h (b0 + 81) (Int32.toNatClampNeg x1) (ea_i h (b0 + 55) (Int32.toNatClampNeg x1))) (b0 + 82) (Int32.toNatClampNeg x1) (ea_i (ea_wi h (b0 + 81) (Int32.toNatClampNeg x1) (ea_i h (b0 + 55) (Int32.toNatClampNeg x1))) (b0 + 56) (Int32.toNatClampNeg x1))) (b0 + 57) (Int32.toNatClampNeg x1))) (b0 + 58) (Int32.toNatClampNeg x1))) (b0 + 85) (Int32.toNatClampNeg x1) (ea_i (ea_wi (ea_wi (ea_wi (ea_wi h (b0 + 81) (Int32.toNatClampNeg x1) (ea_i h (b0 + 55) (Int32.toNatClampNeg x1))) (b0 + 82) (Int32.toNatClampNeg x1) (ea_i (ea_wi h (b0 + 81) (Int32.toNatClampNeg x1) (ea_i h (b0 + 55) (Int32.toNatClampNeg x1))) (b0 + 56) (Int32.toNatClampNeg x1))) (b0 + 83) (Int32.toNatClampNeg x1) (ea_i (ea_wi (ea_wi h (b0 + 81) (Int32.toNatClampNeg x1) (ea_i h (b0 + 55) (Int32.toNatClampNeg x1))) (b0 + 82) (Int32.toNatClampNeg x1) (ea_i (ea_wi h (b0 + 81) (Int32.toNatClampNeg x1) (ea_i h (b0 + 55) (Int32.toNatClampNeg x1))) (b0 + 56) (Int32.toNatClampNeg x1))) (b0 + 57) (Int32.toNatClampNeg x1))) (b0 + 84) (Int32.toNatClampNeg x1) (ea_i (ea_wi (ea_wi (ea_wi h (b0 + 81) (Int32.toNatClampNeg x1) (ea_i h (b0 + 55) (Int32.toNatClampNeg x1))) (b0 + 82) (Int32.toNatClampNeg x1) (ea_i (ea_wi h (b0 + 81) (Int32.toNatClampNeg x1) (ea_i h (b0 + 55) (Int32.toNatClampNeg x1))) (b0 + 56) (Int32.toNatClampNeg x1))) (b0 + 83) (Int32.toNatClampNeg x1) (ea_i (ea_wi (ea_wi h (b0 + 81) (Int32.toNatClampNeg x1) (ea_i h (b0 + 55) (Int32.toNatClampNeg x1))) (b0 + 82) (Int32.toNatClampNeg x1) (ea_i (ea_wi h (b0 + 81) (Int32.toNatClampNeg x1) (ea_i h (b0 + 55) (Int32.toNatClampNeg x1))) (b0 + 56) (Int32.toNatClampNeg x1))) (b0 + 57) (Int32.toNatClampNeg x1))) (b0 + 58) (Int32.toNatClampNeg x1))) (b0 + 59) (Int32.toNatClampNeg x1))) (b0 + 86) (Int32.toNatClampNeg x1) (ea_i (ea_wi (ea_wi (ea_wi (ea_wi (ea_wi h (b0 + 81) (Int32.toNatClampNeg x1) (ea_i h (b0 + 55) (Int32.toNatClampNeg x1))) (b0 + 82) (Int32.toNatClampNeg x1) (ea_i (ea_wi h (b0 + 81) (Int32.toNatClampNeg x1) (ea_i h (b0 + 55) (Int32.toNatClampNeg x1))) (b0 + 56) (Int32.toNatClampNeg x1))) (b0 + 83) (Int32.toNatClampNeg x1) (ea_i (ea_wi (ea_wi h (b0 + 81) (Int32.toNatClampNeg x1) (ea_i h (b0 + 55) (Int32.toNatClampNeg x1))) (b0 + 82) (Int32.toNatClampNeg x1) (ea_i (ea_wi h (b0 + 81) (Int32.toNatClampNeg x1) (ea_i h (b0 + 55) (Int32.toNatClampNeg x1))) (b0 + 56) (Int32.toNatClampNeg x1))) (b0 + 57) (Int32.toNatClampNeg x1))) (b0 + 84) (Int32.toNatClampNeg x1) (ea_i (ea_wi (ea_wi (ea_wi h (b0 + 81) (Int32.toNatClampNeg x1) (ea_i h (b0 + 55) (Int32.toNatClampNeg x1))) (b0 + 82) (Int32.toNatClampNeg x1) (ea_i (ea_wi h (b0 + 81) (Int32.toNatClampNeg x1) (ea_i h (b0 + 55) (Int32.toNatClampNeg x1))) (b0 + 56) (Int32.toNatClampNeg x1))) (b0 + 83) (Int32.toNatClampNeg x1) (ea_i (ea_wi (ea_wi h (b0 + 81) (Int32.toNatClampNeg x1) (ea_i h (b0 + 55) (Int32.toNatClampNeg x1))) (b0 + 82) (Int32.toNatClampNeg x1) (ea_i (ea_wi h (b0 + 81) (Int32.toNatClampNeg x1) (ea_i h (b0 + 55) (Int32.toNatClampNeg x1))) (b0 + 56) (Int32.toNatClampNeg x1))) (b0 + 57) (Int32.toNatClampNeg x1))) (b0 + 58) (Int32.toNatClampNeg x1))) (b0 + 85) (Int32.toNatClampNeg x1) (ea_i (ea_wi (ea_wi (ea_wi (ea_wi h (b0 + 81) (Int32.toNatClampNeg x1) (ea_i h (b0 + 55) (Int32.toNatClampNeg x1))) (b0 + 82) (Int32.toNatClampNeg x1) (ea_i (ea_wi h (b0 + 81) (Int32.toNatClampNeg x1) (ea_i h (b0 + 55) (Int32.toNatClampNeg x1))) (b0 + 56) (Int32.toNatClampNeg x1))) (b0 + 83) (Int32.toNatClampNeg x1) (ea_i (ea_wi (ea_wi h (b0 + 81) (Int32.toNatClampNeg x1) (ea_i h (b0 + 55) (Int32.toNatClampNeg x1))) (b0 + 82) (Int32.toNatClampNeg x1) (ea_i (ea_wi h (b0 + 81) (Int32.toNatClampNeg x1) (ea_i h (b0 + 55) (Int32.toNatClampNeg x1))) (b0 + 56) (Int32.toNatClampNeg x1))) (b0 + 57) (Int32.toNatClampNeg x1))) (b0 + 84) (Int32.toNatClampNeg x1) (ea_i (ea_wi (ea_wi (ea_wi h (b0 + 81) (Int32.toNatClampNeg x1) (ea_i h (b0 + 55) (Int32.toNatClampNeg x1))) (b0 + 82) (Int32.toNatClampNeg x1) (ea_i (ea_wi h (b0 + 81) (Int32.toNatClampNeg x1) (ea_i h (b0 + 55) (Int32.toNatClampNeg x1))) (b0 + 56) (Int32.toNatClampNeg x1))) (b0 + 83) (Int32.toNatClampNeg x1) (ea_i (ea_wi (ea_wi h (b0 + 81) (Int32.toNatClampNeg x1) (ea_i h (b0 + 55) (Int32.toNatClampNeg x1))) (b0 + 82) (Int32.toNatClampNeg x1) (ea_i (ea_wi h (b0 + 81) (Int32.toNatClampNeg x1) (ea_i h (b0 + 55) (Int32.toNatClampNeg x1))) (b0 + 56) (Int32.toNatClampNeg x1))) (b0 + 57) (Int32.toNatClampNeg x1))) (b0 + 58) (Int32.toNatClampNeg x1))) (b0 + 59) (Int32.toNatClampNeg x1))) (b0 + 50) (Int32.toNatClampNeg x1))) (b0 + 51) (Int32.toNatClampNeg x1))) (b0 + 61) (Int32.toNatClampNeg x1))) (ea_bn z25) (hs21.1 89 (by decide)).1 (hs21.1 89 (by decide)).2.1 (ea_vpl (hs21.1 89 (by decide)).2.2 z23) ?_
        have hs24 : ShM b0 (ea_wi (ea_wi (ea_wi (ea_wi (ea_wi (ea_wi (ea_wi (ea_wi h (b0 + 81) (Int32.toNatClampNeg x1) (ea_i h (b0 + 55) (Int32.toNatClampNeg x1))) (b0 + 82) (Int32.toNatClampNeg x1) (ea_i (ea_wi h (b0 + 81) (Int32.toNatClampNeg x1) (ea_i h (b0 + 55) (Int32.toNatClampNeg x1))) (b0 + 56) (Int32.toNatClampNeg x1))) (b0 + 83) (Int32.toNatClampNeg x1) (ea_i (ea_wi (ea_wi h (b0 + 81) (Int32.toNatClampNeg x1) (ea_i h (b0 + 55) (Int32.toNatClampNeg x1))) (b0 + 82) (Int32.toNatClampNeg x1) (ea_i (ea_wi h (b0 + 81) (Int32.toNatClampNeg x1) (ea_i h (b0 + 55) (Int32.toNatClampNeg x1))) (b0 + 56) (Int32.toNatClampNeg x1))) (b0 + 57) (Int32.toNatClampNeg x1))) (b0 + 84) (Int32.toNatClampNeg x1) (ea_i (ea_wi (ea_wi (ea_wi h (b0 + 81) (Int32.toNatClampNeg x1) (ea_i h (b0 + 55) (Int32.toNatClampNeg x1))) (b0 + 82) (Int32.toNatClampNeg x1) (ea_i (ea_wi h (b0 + 81) (Int32.toNatClampNeg x1) (ea_i h (b0 + 55) (Int32.toNatClampNeg x1))) (b0 + 56) (Int32.toNatClampNeg x1))) (b0 + 83) (Int32.toNatClampNeg x1) (ea_i (ea_wi (ea_wi h (b0 + 81) (Int32.toNatClampNeg x1) (ea_i h (b0 + 55) (Int32.toNatClampNeg x1))) (b0 + 82) (Int32.toNatClampNeg x1) (ea_i (ea_wi h (b0 + 81) (Int32.toNatClampNeg x1) (ea_i h (b0 + 55) (Int32.toNatClampNeg x1))) (b0 + 56) (Int32.toNatClampNeg x1))) (b0 + 57) (Int32.toNatClampNeg x1))) (b0 + 58) (Int32.toNatClampNeg x1))) (b0 + 85) (Int32.toNatClampNeg x1) (ea_i (ea_wi (ea_wi (ea_wi (ea_wi h (b0 + 81) (Int32.toNatClampNeg x1) (ea_i h (b0 + 55) (Int32.toNatClampNeg x1))) (b0 + 82) (Int32.toNatClampNeg x1) (ea_i (ea_wi h (b0 + 81) (Int32.toNatClampNeg x1) (ea_i h (b0 + 55) (Int32.toNatClampNeg x1))) (b0 + 56) (Int32.toNatClampNeg x1))) (b0 + 83) (Int32.toNatClampNeg x1) (ea_i (ea_wi (ea_wi h (b0 + 81) (Int32.toNatClampNeg x1) (ea_i h (b0 + 55) (Int32.toNatClampNeg x1))) (b0 + 82) (Int32.toNatClampNeg x1) (ea_i (ea_wi h (b0 + 81) (Int32.toNatClampNeg x1) (ea_i h (b0 + 55) (Int32.toNatClampNeg x1))) (b0 + 56) (Int32.toNatClampNeg x1))) (b0 + 57) (Int32.toNatClampNeg x1))) (b0 + 84) (Int32.toNatClampNeg x1) (ea_i (ea_wi (ea_wi (ea_wi h (b0 + 81) (Int32.toNatClampNeg x1) (ea_i h (b0 + 55) (Int32.toNatClampNeg x1))) (b0 + 82) (Int32.toNatClampNeg x1) (ea_i (ea_wi h (b0 + 81) (Int32.toNatClampNeg x1) (ea_i h (b0 + 55) (Int32.toNatClampNeg x1))) (b0 + 56) (Int32.toNatClampNeg x1))) (b0 + 83) (Int32.toNatClampNeg x1) (ea_i (ea_wi (ea_wi h (b0 + 81) (Int32.toNatClampNeg x1) (ea_i h (b0 + 55) (Int32.toNatClampNeg x1))) (b0 + 82) (Int32.toNatClampNeg x1) (ea_i (ea_wi h (b0 + 81) (Int32.toNatClampNeg x1) (ea_i h (b0 + 55) (Int32.toNatClampNeg x1))) (b0 + 56) (Int32.toNatClampNeg x1))) (b0 + 57) (Int32.toNatClampNeg x1))) (b0 + 58) (Int32.toNatClampNeg x1))) (b0 + 59) (Int32.toNatClampNeg x1))) (b0 + 86) (Int32.toNatClampNeg x1) (ea_i (ea_wi (ea_wi (ea_wi (ea_wi (ea_wi h (b0 + 81) (Int32.toNatClampNeg x1) (ea_i h (b0 + 55) (Int32.toNatClampNeg x1))) (b0 + 82) (Int32.toNatClampNeg x1) (ea_i (ea_wi h (b0 + 81) (Int32.toNatClampNeg x1) (ea_i h (b0 + 55) (Int32.toNatClampNeg x1))) (b0 + 56) (Int32.toNatClampNeg x1))) (b0 + 83) (Int32.toNatClampNeg x1) (ea_i (ea_wi (ea_wi h (b0 + 81) (Int32.toNatClampNeg x1) (ea_i h (b0 + 55) (Int32.toNatClampNeg x1))) (b0 + 82) (Int32.toNatClampNeg x1) (ea_i (ea_wi h (b0 + 81) (Int32.toNatClampNeg x1) (ea_i h (b0 + 55) (Int32.toNatClampNeg x1))) (b0 + 56) (Int32.toNatClampNeg x1))) (b0 + 57) (Int32.toNatClampNeg x1))) (b0 + 84) (Int32.toNatClampNeg x1) (ea_i (ea_wi (ea_wi (ea_wi h (b0 + 81) (Int32.toNatClampNeg x1) (ea_i h (b0 + 55) (Int32.toNatClampNeg x1))) (b0 + 82) (Int32.toNatClampNeg x1) (ea_i (ea_wi h (b0 + 81) (Int32.toNatClampNeg x1) (ea_i h (b0 + 55) (Int32.toNatClampNeg x1))) (b0 + 56) (Int32.toNatClampNeg x1))) (b0 + 83) (Int32.toNatClampNeg x1) (ea_i (ea_wi (ea_wi h (b0 + 81) (Int32.toNatClampNeg x1) (ea_i h (b0 + 55) (Int32.toNatClampNeg x1))) (b0 + 82) (Int32.toNatClampNeg x1) (ea_i (ea_wi h (b0 + 81) (Int32.toNatClampNeg x1) (ea_i h (b0 + 55) (Int32.toNatClampNeg x1))) (b0 + 56) (Int32.toNatClampNeg x1))) (b0 + 57) (Int32.toNatClampNeg x1))) (b0 + 58) (Int32.toNatClampNeg x1))) (b0 + 85) (Int32.toNatClampNeg x1) (ea_i (ea_wi (ea_wi (ea_wi (ea_wi h (b0 + 81) (Int32.toNatClampNeg x1) (ea_i h (b0 + 55) (Int32.toNatClampNeg x1))) (b0 + 82) (Int32.toNatClampNeg x1) (ea_i (ea_wi h (b0 + 81) (Int32.toNatClampNeg x1) (ea_i h (b0 + 55) (Int32.toNatClampNeg x1))) (b0 + 56) (Int32.toNatClampNeg x1))) (b0 + 83) (Int32.toNatClampNeg x1) (ea_i (ea_wi (ea_wi h (b0 + 81) (Int32.toNatClampNeg x1) (ea_i h (b0 + 55) (Int32.toNatClampNeg x1))) (b0 + 82) (Int32.toNatClampNeg x1) (ea_i (ea_wi h (b0 + 81) (Int32.toNatClampNeg x1) (ea_i h (b0 + 55) (Int32.toNatClampNeg x1))) (b0 + 56) (Int32.toNatClampNeg x1))) (b0 + 57) (Int32.toNatClampNeg x1))) (b0 + 84) (Int32.toNatClampNeg x1) (ea_i (ea_wi (ea_wi (ea_wi h (b0 + 81) (Int32.toNatClampNeg x1) (ea_i h (b0 + 55) (Int32.toNatClampNeg x1))) (b0 + 82) (Int32.toNatClampNeg x1) (ea_i (ea_wi h (b0 + 81) (Int32.toNatClampNeg x1) (ea_i h (b0 + 55) (Int32.toNatClampNeg x1))) (b0 + 56) (Int32.toNatClampNeg x1))) (b0 + 83) (Int32.toNatClampNeg x1) (ea_i (ea_wi (ea_wi h (b0 + 81) (Int32.toNatClampNeg x1) (ea_i h (b0 + 55) (Int32.toNatClampNeg x1))) (b0 + 82) (Int32.toNatClampNeg x1) (ea_i (ea_wi h (b0 + 81) (Int32.toNatClampNeg x1) (ea_i h (b0 + 55) (Int32.toNatClampNeg x1))) (b0 + 56) (Int32.toNatClampNeg x1))) (b0 + 57) (Int32.toNatClampNeg x1))) (b0 + 58) (Int32.toNatClampNeg x1))) (b0 + 59) (Int32.toNatClampNeg x1))) (b0 + 50) (Int32.toNatClampNeg x1))) (b0 + 87) (Int32.toNatClampNeg x1) (ea_i (ea_wi (ea_wi (ea_wi (ea_wi (ea_wi (ea_wi h (b0 + 81) (Int32.toNatClampNeg x1) (ea_i h (b0 + 55) (Int32.toNatClampNeg x1))) (b0 + 82) (Int32.toNatClampNeg x1) (ea_i (ea_wi h (b0 + 81) (Int32.toNatClampNeg x1) (ea_i h (b0 + 55) (Int32.toNatClampNeg x1))) (b0 + 56) (Int32.toNatClampNeg x1))) (b0 + 83) (Int32.toNatClampNeg x1) (ea_i (ea_wi (ea_wi h (b0 + 81) (Int32.toNatClampNeg x1) (ea_i h (b0 + 55) (Int32.toNatClampNeg x1))) (b0 + 82) (Int32.toNatClampNeg x1) (ea_i (ea_wi h (b0 + 81) (Int32.toNatClampNeg x1) (ea_i h (b0 + 55) (Int32.toNatClampNeg x1))) (b0 + 56) (Int32.toNatClampNeg x1))) (b0 + 57) (Int32.toNatClampNeg x1))) (b0 + 84) (Int32.toNatClampNeg x1) (ea_i (ea_wi (ea_wi (ea_wi h (b0 + 81) (Int32.toNatClampNeg x1) (ea_i h (b0 + 55) (Int32.toNatClampNeg x1))) (b0 + 82) (Int32.toNatClampNeg x1) (ea_i (ea_wi h (b0 + 81) (Int32.toNatClampNeg x1) (ea_i h (b0 + 55) (Int32.toNatClampNeg x1))) (b0 + 56) (Int32.toNatClampNeg x1))) (b0 + 83) (Int32.toNatClampNeg x1) (ea_i (ea_wi (ea_wi h (b0 + 81) (Int32.toNatClampNeg x1) (ea_i h (b0 + 55) (Int32.toNatClampNeg x1))) (b0 + 82) (Int32.toNatClampNeg x1) (ea_i (ea_wi h (b0 + 81) (Int32.toNatClampNeg x1) (ea_i h (b0 + 55) (Int32.toNatClampNeg x1))) (b0 + 56) (Int32.toNatClampNeg x1))) (b0 + 57) (Int32.toNatClampNeg x1))) (b0 + 58) (Int32.toNatClampNeg x1))) (b0 + 85) (Int32.toNatClampNeg x1) (ea_i (ea_wi (ea_wi (ea_wi (ea_wi h (b0 + 81) (Int32.toNatClampNeg x1) (ea_i h (b0 + 55) (Int32.toNatClampNeg x1))) (b0 + 82) (Int32.toNatClampNeg x1) (ea_i (ea_wi h (b0 + 81) (Int32.toNatClampNeg x1) (ea_i h (b0 + 55) (Int32.toNatClampNeg x1))) (b0 + 56) (Int32.toNatClampNeg x1))) (b0 + 83) (Int32.toNatClampNeg x1) (ea_i (ea_wi (ea_wi h (b0 + 81) (Int32.toNatClampNeg x1) (ea_i h (b0 + 55) (Int32.toNatClampNeg x1))) (b0 + 82) (Int32.toNatClampNeg x1) (ea_i (ea_wi h (b0 + 81) (Int32.toNatClampNeg x1) (ea_i h (b0 + 55) (Int32.toNatClampNeg x1))) (b0 + 56) (Int32.toNatClampNeg x1))) (b0 + 57) (Int32.toNatClampNeg x1))) (b0 + 84) (Int32.toNatClampNeg x1) (ea_i (ea_wi (ea_wi (ea_wi h (b0 + 81) (Int32.toNatClampNeg x1) (ea_i h (b0 + 55) (Int32.toNatClampNeg x1))) (b0 + 82) (Int32.toNatClampNeg x1) (ea_i (ea_wi h (b0 + 81) (Int32.toNatClampNeg x1) (ea_i h (b0 + 55) (Int32.toNatClampNeg x1))) (b0 + 56) (Int32.toNatClampNeg x1))) (b0 + 83) (Int32.toNatClampNeg x1) (ea_i (ea_wi (ea_wi h (b0 + 81) (Int32.toNatClampNeg x1) (ea_i h (b0 + 55) (Int32.toNatClampNeg x1))) (b0 + 82) (Int32.toNatClampNeg x1) (ea_i (ea_wi h (b0 + 81) (Int32.toNatClampNeg x1) (ea_i h (b0 + 55) (Int32.toNatClampNeg x1))) (b0 + 56) (Int32.toNatClampNeg x1))) (b0 + 57) (Int32.toNatClampNeg x1))) (b0 + 58) (Int32.toNatClampNeg x1))) (b0 + 59) (Int32.toNatClampNeg x1))) (b0 + 86) (Int32.toNatClampNeg x1) (ea_i (ea_wi (ea_wi (ea_wi (ea_wi (ea_wi h (b0 + 81) (Int32.toNatClampNeg x1) (ea_i h (b0 + 55) (Int32.toNatClampNeg x1))) (b0 + 82) (Int32.toNatClampNeg x1) (ea_i (ea_wi h (b0 + 81) (Int32.toNatClampNeg x1) (ea_i h (b0 + 55) (Int32.toNatClampNeg x1))) (b0 + 56) (Int32.toNatClampNeg x1))) (b0 + 83) (Int32.toNatClampNeg x1) (ea_i (ea_wi (ea_wi h (b0 + 81) (Int32.toNatClampNeg x1) (ea_i h (b0 + 55) (Int32.toNatClampNeg x1))) (b0 + 82) (Int32.toNatClampNeg x1) (ea_i (ea_wi h (b0 + 81) (Int32.toNatClampNeg x1) (ea_i h (b0 + 55) (Int32.toNatClampNeg x1))) (b0 + 56) (Int32.toNatClampNeg x1))) (b0 + 57) (Int32.toNatClampNeg x1))) (b0 + 84) (Int32.toNatClampNeg x1) (ea_i (ea_wi (ea_wi (ea_wi h (b0 + 81) (Int32.toNatClampNeg x1) (ea_i h (b0 + 55) (Int32.toNatClampNeg x1))) (b0 + 82) (Int32.toNatClampNeg x1) (ea_i (ea_wi h (b0 + 81) (Int32.toNatClampNeg x1) (ea_i h (b0 + 55) (Int32.toNatClampNeg x1))) (b0 + 56) (Int32.toNatClampNeg x1))) (b0 + 83) (Int32.toNatClampNeg x1) (ea_i (ea_wi (ea_wi h (b0 + 81) (Int32.toNatClampNeg x1) (ea_i h (b0 + 55) (Int32.toNatClampNeg x1))) (b0 + 82) (Int32.toNatClampNeg x1) (ea_i (ea_wi h (b0 + 81) (Int32.toNatClampNeg x1) (ea_i h (b0 + 55) (Int32.toNatClampNeg x1))) (b0 + 56) (Int32.toNatClampNeg x1))) (b0 + 57) (Int32.toNatClampNeg x1))) (b0 + 58) (Int32.toNatClampNeg x1))) (b0 + 85) (Int32.toNatClampNeg x1) (ea_i (ea_wi (ea_wi (ea_wi (ea_wi h (b0 + 81) (Int32.toNatClampNeg x1) (ea_i h (b0 + 55) (Int32.toNatClampNeg x1))) (b0 + 82) (Int32.toNatClampNeg x1) (ea_i (ea_wi h (b0 + 81) (Int32.toNatClampNeg x1) (ea_i h (b0 + 55) (Int32.toNatClampNeg x1))) (b0 + 56) (Int32.toNatClampNeg x1))) (b0 + 83) (Int32.toNatClampNeg x1) (ea_i (ea_wi (ea_wi h (b0 + 81) (Int32.toNatClampNeg x1) (ea_i h (b0 + 55) (Int32.toNatClampNeg x1))) (b0 + 82) (Int32.toNatClampNeg x1) (ea_i (ea_wi h (b0 + 81) (Int32.toNatClampNeg x1) (ea_i h (b0 + 55) (Int32.toNatClampNeg x1))) (b0 + 56) (Int32.toNatClampNeg x1))) (b0 + 57) (Int32.toNatClampNeg x1))) (b0 + 84) (Int32.toNatClampNeg x1) (ea_i (ea_wi (ea_wi (ea_wi h (b0 + 81) (Int32.toNatClampNeg x1) (ea_i h (b0 + 55) (Int32.toNatClampNeg x1))) (b0 + 82) (Int32.toNatClampNeg x1) (ea_i (ea_wi h (b0 + 81) (Int32.toNatClampNeg x1) (ea_i h (b0 + 55) (Int32.toNatClampNeg x1))) (b0 + 56) (Int32.toNatClampNeg x1))) (b0 + 83) (Int32.toNatClampNeg x1) (ea_i (ea_wi (ea_wi h (b0 + 81) (Int32.toNatClampNeg x1) (ea_i h (b0 + 55) (Int32.toNatClampNeg x1))) (b0 + 82) (Int32.toNatClampNeg x1) (ea_i (ea_wi h (b0 + 81) (Int32.toNatClampNeg x1) (ea_i h (b0 + 55) (Int32.toNatClampNeg x1))) (b0 + 56) (Int32.toNatClampNeg x1))) (b0 + 57) (Int32.toNatClampNeg x1))) (b0 + 58) (Int32.toNatClampNeg x1))) (b0 + 59) (Int32.toNatClampNeg x1))) (b0 + 50) (Int32.toNatClampNeg x1))) (b0 + 51) (Int32.toNatClampNeg x1))) (b0 + 89) (Int32.toNatClampNeg x1) (ea_i (ea_wi (ea_wi (ea_wi (ea_wi (ea_wi (ea_wi (ea_wi h (b0 + 81) (Int32.toNatClampNeg x1) (ea_i h (b0 + 55) (Int32.toNatClampNeg x1))) (b0 + 82) (Int32.toNatClampNeg x1) (ea_i (ea_wi h (b0 + 81) (Int32.toNatClampNeg x1) (ea_i h (b0 + 55) (Int32.toNatClampNeg x1))) (b0 + 56) (Int32.toNatClampNeg x1))) (b0 + 83) (Int32.toNatClampNeg x1) (ea_i (ea_wi (ea_wi h (b0 + 81) (Int32.toNatClampNeg x1) (ea_i h (b0 + 55) (Int32.toNatClampNeg x1))) (b0 + 82) (Int32.toNatClampNeg x1) (ea_i (ea_wi h (b0 + 81) (Int32.toNatClampNeg x1) (ea_i h (b0 + 55) (Int32.toNatClampNeg x1))) (b0 + 56) (Int32.toNatClampNeg x1))) (b0 + 57) (Int32.toNatClampNeg x1))) (b0 + 84) (Int32.toNatClampNeg x1) (ea_i (ea_wi (ea_wi (ea_wi h (b0 + 81) (Int32.toNatClampNeg x1) (ea_i h (b0 + 55) (Int32.toNatClampNeg x1))) (b0 + 82) (Int32.toNatClampNeg x1) (ea_i (ea_wi h (b0 + 81) (Int32.toNatClampNeg x1) (ea_i h (b0 + 55) (Int32.toNatClampNeg x1))) (b0 + 56) (Int32.toNatClampNeg x1))) (b0 + 83) (Int32.toNatClampNeg x1) (ea_i (ea_wi (ea_wi h (b0 + 81) (Int32.toNatClampNeg x1) (ea_i h (b0 + 55) (Int32.toNatClampNeg x1))) (b0 + 82) (Int32.toNatClampNeg x1) (ea_i (ea_wi h (b0 + 81) (Int32.toNatClampNeg x1) (ea_i h (b0 + 55) (Int32.toNatClampNeg x1))) (b0 + 56) (Int32.toNatClampNeg x1))) (b0 + 57) (Int32.toNatClampNeg x1))) (b0 + 58) (Int32.toNatClampNeg x1))) (b0 + 85) (Int32.toNatClampNeg x1) (ea_i (ea_wi (ea_wi (ea_wi (ea_wi h (b0 + 81) (Int32.toNatClampNeg x1) (ea_i h (b0 + 55) (Int32.toNatClampNeg x1))) (b0 + 82) (Int32.toNatClampNeg x1) (ea_i (ea_wi h (b0 + 81) (Int32.toNatClampNeg x1) (ea_i h (b0 + 55) (Int32.toNatClampNeg x1))) (b0 + 56) (Int32.toNatClampNeg x1))) (b0 + 83) (Int32.toNatClampNeg x1) (ea_i (ea_wi (ea_wi h (b0 + 81) (Int32.toNatClampNeg x1) (ea_i h (b0 + 55) (Int32.toNatClampNeg x1))) (b0 + 82) (Int32.toNatClampNeg x1) (ea_i (ea_wi h (b0 + 81) (Int32.toNatClampNeg x1) (ea_i h (b0 + 55) (Int32.toNatClampNeg x1))) (b0 + 56) (Int32.toNatClampNeg x1))) (b0 + 57) (Int32.toNatClampNeg x1))) (b0 + 84) (Int32.toNatClampNeg x1) (ea_i (ea_wi (ea_wi (ea_wi h (b0 + 81) (Int32.toNatClampNeg x1) (ea_i h (b0 + 55) (Int32.toNatClampNeg x1))) (b0 + 82) (Int32.toNatClampNeg x1) (ea_i (ea_wi h (b0 + 81) (Int32.toNatClampNeg x1) (ea_i h (b0 + 55) (Int32.toNatClampNeg x1))) (b0 + 56) (Int32.toNatClampNeg x1))) (b0 + 83) (Int32.toNatClampNeg x1) (ea_i (ea_wi (ea_wi h (b0 + 81) (Int32.toNatClampNeg x1) (ea_i h (b0 + 55) (Int32.toNatClampNeg x1))) (b0 + 82) (Int32.toNatClampNeg x1) (ea_i (ea_wi h (b0 + 81) (Int32.toNatClampNeg x1) (ea_i h (b0 + 55) (Int32.toNatClampNeg x1))) (b0 + 56) (Int32.toNatClampNeg x1))) (b0 + 57) (Int32.toNatClampNeg x1))) (b0 + 58) (Int32.toNatClampNeg x1))) (b0 + 59) (Int32.toNatClampNeg x1))) (b0 + 86) (Int32.toNatClampNeg x1) (ea_i (ea_wi (ea_wi (ea_wi (ea_wi (ea_wi h (b0 + 81) (Int32.toNatClampNeg x1) (ea_i h (b0 + 55) (Int32.toNatClampNeg x1))) (b0 + 82) (Int32.toNatClampNeg x1) (ea_i (ea_wi h (b0 + 81) (Int32.toNatClampNeg x1) (ea_i h (b0 + 55) (Int32.toNatClampNeg x1))) (b0 + 56) (Int32.toNatClampNeg x1))) (b0 + 83) (Int32.toNatClampNeg x1) (ea_i (ea_wi (ea_wi h (b0 + 81) (Int32.toNatClampNeg x1) (ea_i h (b0 + 55) (Int32.toNatClampNeg x1))) (b0 + 82) (Int32.toNatClampNeg x1) (ea_i (ea_wi h (b0 + 81) (Int32.toNatClampNeg x1) (ea_i h (b0 + 55) (Int32.toNatClampNeg x1))) (b0 + 56) (Int32.toNatClampNeg x1))) (b0 + 57) (Int32.toNatClampNeg x1))) (b0 + 84) (Int32.toNatClampNeg x1) (ea_i (ea_wi (ea_wi (ea_wi h (b0 + 81) (Int32.toNatClampNeg x1) (ea_i h (b0 + 55) (Int32.toNatClampNeg x1))) (b0 + 82) (Int32.toNatClampNeg x1) (ea_i (ea_wi h (b0 + 81) (Int32.toNatClampNeg x1) (ea_i h (b0 + 55) (Int32.toNatClampNeg x1))) (b0 + 56) (Int32.toNatClampNeg x1))) (b0 + 83) (Int32.toNatClampNeg x1) (ea_i (ea_wi (ea_wi h (b0 + 81) (Int32.toNatClampNeg x1) (ea_i h (b0 + 55) (Int32.toNatClampNeg x1))) (b0 + 82) (Int32.toNatClampNeg x1) (ea_i (ea_wi h (b0 + 81) (Int32.toNatClampNeg x1) (ea_i h (b0 + 55) (Int32.toNatClampNeg x1))) (b0 + 56) (Int32.toNatClampNeg x1))) (b0 + 57) (Int32.toNatClampNeg x1))) (b0 + 58) (Int32.toNatClampNeg x1))) (b0 + 85) (Int32.toNatClampNeg x1) (ea_i (ea_wi (ea_wi (ea_wi (ea_wi h (b0 + 81) (Int32.toNatClampNeg x1) (ea_i h (b0 + 55) (Int32.toNatClampNeg x1))) (b0 + 82) (Int32.toNatClampNeg x1) (ea_i (ea_wi h (b0 + 81) (Int32.toNatClampNeg x1) (ea_i h (b0 + 55) (Int32.toNatClampNeg x1))) (b0 + 56) (Int32.toNatClampNeg x1))) (b0 + 83) (Int32.toNatClampNeg x1) (ea_i (ea_wi (ea_wi h (b0 + 81) (Int32.toNatClampNeg x1) (ea_i h (b0 + 55) (Int32.toNatClampNeg x1))) (b0 + 82) (Int32.toNatClampNeg x1) (ea_i (ea_wi h (b0 + 81) (Int32.toNatClampNeg x1) (ea_i h (b0 + 55) (Int32.toNatClampNeg x1))) (b0 + 56) (Int32.toNatClampNeg x1))) (b0 + 57) (Int32.toNatClampNeg x1))) (b0 + 84) (Int32.toNatClampNeg x1) (ea_i (ea_wi (ea_wi (ea_wi h (b0 + 81) (Int32.toNatClampNeg x1) (ea_i h (b0 + 55) (Int32.toNatClampNeg x1))) (b0 + 82) (Int32.toNatClampNeg x1) (ea_i (ea_wi h (b0 + 81) (Int32.toNatClampNeg x1) (ea_i h (b0 + 55) (Int32.toNatClampNeg x1))) (b0 + 56) (Int32.toNatClampNeg x1))) (b0 + 83) (Int32.toNatClampNeg x1) (ea_i (ea_wi (ea_wi h (b0 + 81) (Int32.toNatClampNeg x1) (ea_i h (b0 + 55) (Int32.toNatClampNeg x1))) (b0 + 82) (Int32.toNatClampNeg x1) (ea_i (ea_wi h (b0 + 81) (Int32.toNatClampNeg x1) (ea_i h (b0 + 55) (Int32.toNatClampNeg x1))) (b0 + 56) (Int32.toNatClampNeg x1))) (b0 + 57) (Int32.toNatClampNeg x1))) (b0 + 58) (Int32.toNatClampNeg x1))) (b0 + 59) (Int32.toNatClampNeg x1))) (b0 + 50) (Int32.toNatClampNeg x1))) (b0 + 87) (Int32.toNatClampNeg x1) (ea_i (ea_wi (ea_wi (ea_wi (ea_wi (ea_wi (ea_wi h (b0 + 81) (Int32.toNatClampNeg x1) (ea_i h (b0 + 55) (Int32.toNatClampNeg x1))) (b0 + 82) (Int32.toNatClampNeg x1) (ea_i (ea_wi h (b0 + 81) (Int32.toNatClampNeg x1) (ea_i h (b0 + 55) (Int32.toNatClampNeg x1))) (b0 + 56) (Int32.toNatClampNeg x1))) (b0 + 83) (Int32.toNatClampNeg x1) (ea_i (ea_wi (ea_wi h (b0 + 81) (Int32.toNatClampNeg x1) (ea_i h (b0 + 55) (Int32.toNatClampNeg x1))) (b0 + 82) (Int32.toNatClampNeg x1) (ea_i (ea_wi h (b0 + 81) (Int32.toNatClampNeg x1) (ea_i h (b0 + 55) (Int32.toNatClampNeg x1))) (b0 + 56) (Int32.toNatClampNeg x1))) (b0 + 57) (Int32.toNatClampNeg x1))) (b0 + 84) (Int32.toNatClampNeg x1) (ea_i (ea_wi (ea_wi (ea_wi h (b0 + 81) (Int32.toNatClampNeg x1) (ea_i h (b0 + 55) (Int32.toNatClampNeg x1))) (b0 + 82) (Int32.toNatClampNeg x1) (ea_i (ea_wi h (b0 + 81) (Int32.toNatClampNeg x1) (ea_i h (b0 + 55) (Int32.toNatClampNeg x1))) (b0 + 56) (Int32.toNatClampNeg x1))) (b0 + 83) (Int32.toNatClampNeg x1) (ea_i (ea_wi (ea_wi h (b0 + 81) (Int32.toNatClampNeg x1) (ea_i h (b0 + 55) (Int32.toNatClampNeg x1))) (b0 + 82) (Int32.toNatClampNeg x1) (ea_i (ea_wi h (b0 + 81) (Int32.toNatClampNeg x1) (ea_i h (b0 + 55) (Int32.toNatClampNeg x1))) (b0 + 56) (Int32.toNatClampNeg x1))) (b0 + 57) (Int32.toNatClampNeg x1))) (b0 + 58) (Int32.toNatClampNeg x1))) (b0 + 85) (Int32.toNatClampNeg x1) (ea_i (ea_wi (ea_wi (ea_wi (ea_wi h (b0 + 81) (Int32.toNatClampNeg x1) (ea_i h (b0 + 55) (Int32.toNatClampNeg x1))) (b0 + 82) (Int32.toNatClampNeg x1) (ea_i (ea_wi h (b0 + 81) (Int32.toNatClampNeg x1) (ea_i h (b0 + 55) (Int32.toNatClampNeg x1))) (b0 + 56) (Int32.toNatClampNeg x1))) (b0 + 83) (Int32.toNatClampNeg x1) (ea_i (ea_wi (ea_wi h (b0 + 81) (Int32.toNatClampNeg x1) (ea_i h (b0 + 55) (Int32.toNatClampNeg x1))) (b0 + 82) (Int32.toNatClampNeg x1) (ea_i (ea_wi h (b0 + 81) (Int32.toNatClampNeg x1) (ea_i h (b0 + 55) (Int32.toNatClampNeg x1))) (b0 + 56) (Int32.toNatClampNeg x1))) (b0 + 57) (Int32.toNatClampNeg x1))) (b0 + 84) (Int32.toNatClampNeg x1) (ea_i (ea_wi (ea_wi (ea_wi h (b0 + 81) (Int32.toNatClampNeg x1) (ea_i h (b0 + 55) (Int32.toNatClampNeg x1))) (b0 + 82) (Int32.toNatClampNeg x1) (ea_i (ea_wi h (b0 + 81) (Int32.toNatClampNeg x1) (ea_i h (b0 + 55) (Int32.toNatClampNeg x1))) (b0 + 56) (Int32.toNatClampNeg x1))) (b0 + 83) (Int32.toNatClampNeg x1) (ea_i (ea_wi (ea_wi h (b0 + 81) (Int32.toNatClampNeg x1) (ea_i h (b0 + 55) (Int32.toNatClampNeg x1))) (b0 + 82) (Int32.toNatClampNeg x1) (ea_i (ea_wi h (b0 + 81) (Int32.toNatClampNeg x1) (ea_i h (b0 + 55) (Int32.toNatClampNeg x1))) (b0 + 56) (Int32.toNatClampNeg x1))) (b0 + 57) (Int32.toNatClampNeg x1))) (b0 + 58) (Int32.toNatClampNeg x1))) (b0 + 59) (Int32.toNatClampNeg x1))) (b0 + 86) (Int32.toNatClampNeg x1) (ea_i (ea_wi (ea_wi (ea_wi (ea_wi (ea_wi h (b0 + 81) (Int32.toNatClampNeg x1) (ea_i h (b0 + 55) (Int32.toNatClampNeg x1))) (b0 + 82) (Int32.toNatClampNeg x1) (ea_i (ea_wi h (b0 + 81) (Int32.toNatClampNeg x1) (ea_i h (b0 + 55) (Int32.toNatClampNeg x1))) (b0 + 56) (Int32.toNatClampNeg x1))) (b0 + 83) (Int32.toNatClampNeg x1) (ea_i (ea_wi (ea_wi h (b0 + 81) (Int32.toNatClampNeg x1) (ea_i h (b0 + 55) (Int32.toNatClampNeg x1))) (b0 + 82) (Int32.toNatClampNeg x1) (ea_i (ea_wi h (b0 + 81) (Int32.toNatClampNeg x1) (ea_i h (b0 + 55) (Int32.toNatClampNeg x1))) (b0 + 56) (Int32.toNatClampNeg x1))) (b0 + 57) (Int32.toNatClampNeg x1))) (b0 + 84) (Int32.toNatClampNeg x1) (ea_i (ea_wi (ea_wi (ea_wi h (b0 + 81) (Int32.toNatClampNeg x1) (ea_i h (b0 + 55) (Int32.toNatClampNeg x1))) (b0 + 82) (Int32.toNatClampNeg x1) (ea_i (ea_wi h (b0 + 81) (Int32.toNatClampNeg x1) (ea_i h (b0 + 55) (Int32.toNatClampNeg x1))) (b0 + 56) (Int32.toNatClampNeg x1))) (b0 + 83) (Int32.toNatClampNeg x1) (ea_i (ea_wi (ea_wi h (b0 + 81) (Int32.toNatClampNeg x1) (ea_i h (b0 + 55) (Int32.toNatClampNeg x1))) (b0 + 82) (Int32.toNatClampNeg x1) (ea_i (ea_wi h (b0 + 81) (Int32.toNatClampNeg x1) (ea_i h (b0 + 55) (Int32.toNatClampNeg x1))) (b0 + 56) (Int32.toNatClampNeg x1))) (b0 + 57) (Int32.toNatClampNeg x1))) (b0 + 58) (Int32.toNatClampNeg x1))) (b0 + 85) (Int32.toNatClampNeg x1) (ea_i (ea_wi (ea_wi (ea_wi (ea_wi h (b0 + 81) (Int32.toNatClampNeg x1) (ea_i h (b0 + 55) (Int32.toNatClampNeg x1))) (b0 + 82) (Int32.toNatClampNeg x1) (ea_i (ea_wi h (b0 + 81) (Int32.toNatClampNeg x1) (ea_i h (b0 + 55) (Int32.toNatClampNeg x1))) (b0 + 56) (Int32.toNatClampNeg x1))) (b0 + 83) (Int32.toNatClampNeg x1) (ea_i (ea_wi (ea_wi h (b0 + 81) (Int32.toNatClampNeg x1) (ea_i h (b0 + 55) (Int32.toNatClampNeg x1))) (b0 + 82) (Int32.toNatClampNeg x1) (ea_i (ea_wi h (b0 + 81) (Int32.toNatClampNeg x1) (ea_i h (b0 + 55) (Int32.toNatClampNeg x1))) (b0 + 56) (Int32.toNatClampNeg x1))) (b0 + 57) (Int32.toNatClampNeg x1))) (b0 + 84) (Int32.toNatClampNeg x1) (ea_i (ea_wi (ea_wi (ea_wi h (b0 + 81) (Int32.toNatClampNeg x1) (ea_i h (b0 + 55) (Int32.toNatClampNeg x1))) (b0 + 82) (Int32.toNatClampNeg x1) (ea_i (ea_wi h (b0 + 81) (Int32.toNatClampNeg x1) (ea_i h (b0 + 55) (Int32.toNatClampNeg x1))) (b0 + 56) (Int32.toNatClampNeg x1))) (b0 + 83) (Int32.toNatClampNeg x1) (ea_i (ea_wi (ea_wi h (b0 + 81) (Int32.toNatClampNeg x1) (ea_i h (b0 + 55) (Int32.toNatClampNeg x1))) (b0 + 82) (Int32.toNatClampNeg x1) (ea_i (ea_wi h (b0 + 81) (Int32.toNatClampNeg x1) (ea_i h (b0 + 55) (Int32.toNatClampNeg x1))) (b0 + 56) (Int32.toNatClampNeg x1))) (b0 + 57) (Int32.toNatClampNeg x1))) (b0 + 58) (Int32.toNatClampNeg x1))) (b0 + 59) (Int32.toNatClampNeg x1))) (b0 + 50) (Int32.toNatClampNeg x1))) (b0 + 51) (Int32.toNatClampNeg x1))) (b0 + 61) (Int32.toNatClampNeg x1))) := ShM_wi hs21
        refine ea_iinc (pc := 106) (v := 1) (lv' := [(0, vR (some (b0 + 0))), (1, vI (x1 + (1 : Int32)))]) dX12_keeps_106 1 rfl rfl (Nat.le_of_ble_eq_true rfl) [1, 0] rfl ?_
        refine ea_goto (pc := 109) (tgt := 2) dX12_keeps_109 rfl ?_
        exact ((ih 2 ((x1 + (1 : Int32)) : Int32) (ea_wi (ea_wi (ea_wi (ea_wi (ea_wi (ea_wi (ea_wi (ea_wi h (b0 + 81) (Int32.toNatClampNeg x1) (ea_i h (b0 + 55) (Int32.toNatClampNeg x1))) (b0 + 82) (Int32.toNatClampNeg x1) (ea_i (ea_wi h (b0 + 81) (Int32.toNatClampNeg x1) (ea_i h (b0 + 55) (Int32.toNatClampNeg x1))) (b0 + 56) (Int32.toNatClampNeg x1))) (b0 + 83) (Int32.toNatClampNeg x1) (ea_i (ea_wi (ea_wi h (b0 + 81) (Int32.toNatClampNeg x1) (ea_i h (b0 + 55) (Int32.toNatClampNeg x1))) (b0 + 82) (Int32.toNatClampNeg x1) (ea_i (ea_wi h (b0 + 81) (Int32.toNatClampNeg x1) (ea_i h (b0 + 55) (Int32.toNatClampNeg x1))) (b0 + 56) (Int32.toNatClampNeg x1))) (b0 + 57) (Int32.toNatClampNeg x1))) (b0 + 84) (Int32.toNatClampNeg x1) (ea_i (ea_wi (ea_wi (ea_wi h (b0 + 81) (Int32.toNatClampNeg x1) (ea_i h (b0 + 55) (Int32.toNatClampNeg x1))) (b0 + 82) (Int32.toNatClampNeg x1) (ea_i (ea_wi h (b0 + 81) (Int32.toNatClampNeg x1) (ea_i h (b0 + 55) (Int32.toNatClampNeg x1))) (b0 + 56) (Int32.toNatClampNeg x1))) (b0 + 83) (Int32.toNatClampNeg x1) (ea_i (ea_wi (ea_wi h (b0 + 81) (Int32.toNatClampNeg x1) (ea_i h (b0 + 55) (Int32.toNatClampNeg x1))) (b0 + 82) (Int32.toNatClampNeg x1) (ea_i (ea_wi h (b0 + 81) (Int32.toNatClampNeg x1) (ea_i h (b0 + 55) (Int32.toNatClampNeg x1))) (b0 + 56) (Int32.toNatClampNeg x1))) (b0 + 57) (Int32.toNatClampNeg x1))) (b0 + 58) (Int32.toNatClampNeg x1))) (b0 + 85) (Int32.toNatClampNeg x1) (ea_i (ea_wi (ea_wi (ea_wi (ea_wi h (b0 + 81) (Int32.toNatClampNeg x1) (ea_i h (b0 + 55) (Int32.toNatClampNeg x1))) (b0 + 82) (Int32.toNatClampNeg x1) (ea_i (ea_wi h (b0 + 81) (Int32.toNatClampNeg x1) (ea_i h (b0 + 55) (Int32.toNatClampNeg x1))) (b0 + 56) (Int32.toNatClampNeg x1))) (b0 + 83) (Int32.toNatClampNeg x1) (ea_i (ea_wi (ea_wi h (b0 + 81) (Int32.toNatClampNeg x1) (ea_i h (b0 + 55) (Int32.toNatClampNeg x1))) (b0 + 82) (Int32.toNatClampNeg x1) (ea_i (ea_wi h (b0 + 81) (Int32.toNatClampNeg x1) (ea_i h (b0 + 55) (Int32.toNatClampNeg x1))) (b0 + 56) (Int32.toNatClampNeg x1))) (b0 + 57) (Int32.toNatClampNeg x1))) (b0 + 84) (Int32.toNatClampNeg x1) (ea_i (ea_wi (ea_wi (ea_wi h (b0 + 81) (Int32.toNatClampNeg x1) (ea_i h (b0 + 55) (Int32.toNatClampNeg x1))) (b0 + 82) (Int32.toNatClampNeg x1) (ea_i (ea_wi h (b0 + 81) (Int32.toNatClampNeg x1) (ea_i h (b0 + 55) (Int32.toNatClampNeg x1))) (b0 + 56) (Int32.toNatClampNeg x1))) (b0 + 83) (Int32.toNatClampNeg x1) (ea_i (ea_wi (ea_wi h (b0 + 81) (Int32.toNatClampNeg x1) (ea_i h (b0 + 55) (Int32.toNatClampNeg x1))) (b0 + 82) (Int32.toNatClampNeg x1) (ea_i (ea_wi h (b0 + 81) (Int32.toNatClampNeg x1) (ea_i h (b0 + 55) (Int32.toNatClampNeg x1))) (b0 + 56) (Int32.toNatClampNeg x1))) (b0 + 57) (Int32.toNatClampNeg x1))) (b0 + 58) (Int32.toNatClampNeg x1))) (b0 + 59) (Int32.toNatClampNeg x1))) (b0 + 86) (Int32.toNatClampNeg x1) (ea_i (ea_wi (ea_wi (ea_wi (ea_wi (ea_wi h (b0 + 81) (Int32.toNatClampNeg x1) (ea_i h (b0 + 55) (Int32.toNatClampNeg x1))) (b0 + 82) (Int32.toNatClampNeg x1) (ea_i (ea_wi h (b0 + 81) (Int32.toNatClampNeg x1) (ea_i h (b0 + 55) (Int32.toNatClampNeg x1))) (b0 + 56) (Int32.toNatClampNeg x1))) (b0 + 83) (Int32.toNatClampNeg x1) (ea_i (ea_wi (ea_wi h (b0 + 81) (Int32.toNatClampNeg x1) (ea_i h (b0 + 55) (Int32.toNatClampNeg x1))) (b0 + 82) (Int32.toNatClampNeg x1) (ea_i (ea_wi h (b0 + 81) (Int32.toNatClampNeg x1) (ea_i h (b0 + 55) (Int32.toNatClampNeg x1))) (b0 + 56) (Int32.toNatClampNeg x1))) (b0 + 57) (Int32.toNatClampNeg x1))) (b0 + 84) (Int32.toNatClampNeg x1) (ea_i (ea_wi (ea_wi (ea_wi h (b0 + 81) (Int32.toNatClampNeg x1) (ea_i h (b0 + 55) (Int32.toNatClampNeg x1))) (b0 + 82) (Int32.toNatClampNeg x1) (ea_i (ea_wi h (b0 + 81) (Int32.toNatClampNeg x1) (ea_i h (b0 + 55) (Int32.toNatClampNeg x1))) (b0 + 56) (Int32.toNatClampNeg x1))) (b0 + 83) (Int32.toNatClampNeg x1) (ea_i (ea_wi (ea_wi h (b0 + 81) (Int32.toNatClampNeg x1) (ea_i h (b0 + 55) (Int32.toNatClampNeg x1))) (b0 + 82) (Int32.toNatClampNeg x1) (ea_i (ea_wi h (b0 + 81) (Int32.toNatClampNeg x1) (ea_i h (b0 + 55) (Int32.toNatClampNeg x1))) (b0 + 56) (Int32.toNatClampNeg x1))) (b0 + 57) (Int32.toNatClampNeg x1))) (b0 + 58) (Int32.toNatClampNeg x1))) (b0 + 85) (Int32.toNatClampNeg x1) (ea_i (ea_wi (ea_wi (ea_wi (ea_wi h (b0 + 81) (Int32.toNatClampNeg x1) (ea_i h (b0 + 55) (Int32.toNatClampNeg x1))) (b0 + 82) (Int32.toNatClampNeg x1) (ea_i (ea_wi h (b0 + 81) (Int32.toNatClampNeg x1) (ea_i h (b0 + 55) (Int32.toNatClampNeg x1))) (b0 + 56) (Int32.toNatClampNeg x1))) (b0 + 83) (Int32.toNatClampNeg x1) (ea_i (ea_wi (ea_wi h (b0 + 81) (Int32.toNatClampNeg x1) (ea_i h (b0 + 55) (Int32.toNatClampNeg x1))) (b0 + 82) (Int32.toNatClampNeg x1) (ea_i (ea_wi h (b0 + 81) (Int32.toNatClampNeg x1) (ea_i h (b0 + 55) (Int32.toNatClampNeg x1))) (b0 + 56) (Int32.toNatClampNeg x1))) (b0 + 57) (Int32.toNatClampNeg x1))) (b0 + 84) (Int32.toNatClampNeg x1) (ea_i (ea_wi (ea_wi (ea_wi h (b0 + 81) (Int32.toNatClampNeg x1) (ea_i h (b0 + 55) (Int32.toNatClampNeg x1))) (b0 + 82) (Int32.toNatClampNeg x1) (ea_i (ea_wi h (b0 + 81) (Int32.toNatClampNeg x1) (ea_i h (b0 + 55) (Int32.toNatClampNeg x1))) (b0 + 56) (Int32.toNatClampNeg x1))) (b0 + 83) (Int32.toNatClampNeg x1) (ea_i (ea_wi (ea_wi h (b0 + 81) (Int32.toNatClampNeg x1) (ea_i h (b0 + 55) (Int32.toNatClampNeg x1))) (b0 + 82) (Int32.toNatClampNeg x1) (ea_i (ea_wi h (b0 + 81) (Int32.toNatClampNeg x1) (ea_i h (b0 + 55) (Int32.toNatClampNeg x1))) (b0 + 56) (Int32.toNatClampNeg x1))) (b0 + 57) (Int32.toNatClampNeg x1))) (b0 + 58) (Int32.toNatClampNeg x1))) (b0 + 59) (Int32.toNatClampNeg x1))) (b0 + 50) (Int32.toNatClampNeg x1))) (b0 + 87) (Int32.toNatClampNeg x1) (ea_i (ea_wi (ea_wi (ea_wi (ea_wi (ea_wi (ea_wi h (b0 + 81) (Int32.toNatClampNeg x1) (ea_i h (b0 + 55) (Int32.toNatClampNeg x1))) (b0 + 82) (Int32.toNatClampNeg x1) (ea_i (ea_wi h (b0 + 81) (Int32.toNatClampNeg x1) (ea_i h (b0 + 55) (Int32.toNatClampNeg x1))) (b0 + 56) (Int32.toNatClampNeg x1))) (b0 + 83) (Int32.toNatClampNeg x1) (ea_i (ea_wi (ea_wi h (b0 + 81) (Int32.toNatClampNeg x1) (ea_i h (b0 + 55) (Int32.toNatClampNeg x1))) (b0 + 82) (Int32.toNatClampNeg x1) (ea_i (ea_wi h (b0 + 81) (Int32.toNatClampNeg x1) (ea_i h (b0 + 55) (Int32.toNatClampNeg x1))) (b0 + 56) (Int32.toNatClampNeg x1))) (b0 + 57) (Int32.toNatClampNeg x1))) (b0 + 84) (Int32.toNatClampNeg x1) (ea_i (ea_wi (ea_wi (ea_wi h (b0 + 81) (Int32.toNatClampNeg x1) (ea_i h (b0 + 55) (Int32.toNatClampNeg x1))) (b0 + 82) (Int32.toNatClampNeg x1) (ea_i (ea_wi h (b0 + 81) (Int32.toNatClampNeg x1) (ea_i h (b0 + 55) (Int32.toNatClampNeg x1))) (b0 + 56) (Int32.toNatClampNeg x1))) (b0 + 83) (Int32.toNatClampNeg x1) (ea_i (ea_wi (ea_wi h (b0 + 81) (Int32.toNatClampNeg x1) (ea_i h (b0 + 55) (Int32.toNatClampNeg x1))) (b0 + 82) (Int32.toNatClampNeg x1) (ea_i (ea_wi h (b0 + 81) (Int32.toNatClampNeg x1) (ea_i h (b0 + 55) (Int32.toNatClampNeg x1))) (b0 + 56) (Int32.toNatClampNeg x1))) (b0 + 57) (Int32.toNatClampNeg x1))) (b0 + 58) (Int32.toNatClampNeg x1))) (b0 + 85) (Int32.toNatClampNeg x1) (ea_i (ea_wi (ea_wi (ea_wi (ea_wi h (b0 + 81) (Int32.toNatClampNeg x1) (ea_i h (b0 + 55) (Int32.toNatClampNeg x1))) (b0 + 82) (Int32.toNatClampNeg x1) (ea_i (ea_wi h (b0 + 81) (Int32.toNatClampNeg x1) (ea_i h (b0 + 55) (Int32.toNatClampNeg x1))) (b0 + 56) (Int32.toNatClampNeg x1))) (b0 + 83) (Int32.toNatClampNeg x1) (ea_i (ea_wi (ea_wi h (b0 + 81) (Int32.toNatClampNeg x1) (ea_i h (b0 + 55) (Int32.toNatClampNeg x1))) (b0 + 82) (Int32.toNatClampNeg x1) (ea_i (ea_wi h (b0 + 81) (Int32.toNatClampNeg x1) (ea_i h (b0 + 55) (Int32.toNatClampNeg x1))) (b0 + 56) (Int32.toNatClampNeg x1))) (b0 + 57) (Int32.toNatClampNeg x1))) (b0 + 84) (Int32.toNatClampNeg x1) (ea_i (ea_wi (ea_wi (ea_wi h (b0 + 81) (Int32.toNatClampNeg x1) (ea_i h (b0 + 55) (Int32.toNatClampNeg x1))) (b0 + 82) (Int32.toNatClampNeg x1) (ea_i (ea_wi h (b0 + 81) (Int32.toNatClampNeg x1) (ea_i h (b0 + 55) (Int32.toNatClampNeg x1))) (b0 + 56) (Int32.toNatClampNeg x1))) (b0 + 83) (Int32.toNatClampNeg x1) (ea_i (ea_wi (ea_wi h (b0 + 81) (Int32.toNatClampNeg x1) (ea_i h (b0 + 55) (Int32.toNatClampNeg x1))) (b0 + 82) (Int32.toNatClampNeg x1) (ea_i (ea_wi h (b0 + 81) (Int32.toNatClampNeg x1) (ea_i h (b0 + 55) (Int32.toNatClampNeg x1))) (b0 + 56) (Int32.toNatClampNeg x1))) (b0 + 57) (Int32.toNatClampNeg x1))) (b0 + 58) (Int32.toNatClampNeg x1))) (b0 + 59) (Int32.toNatClampNeg x1))) (b0 + 86) (Int32.toNatClampNeg x1) (ea_i (ea_wi (ea_wi (ea_wi (ea_wi (ea_wi h (b0 + 81) (Int32.toNatClampNeg x1) (ea_i h (b0 + 55) (Int32.toNatClampNeg x1))) (b0 + 82) (Int32.toNatClampNeg x1) (ea_i (ea_wi h (b0 + 81) (Int32.toNatClampNeg x1) (ea_i h (b0 + 55) (Int32.toNatClampNeg x1))) (b0 + 56) (Int32.toNatClampNeg x1))) (b0 + 83) (Int32.toNatClampNeg x1) (ea_i (ea_wi (ea_wi h (b0 + 81) (Int32.toNatClampNeg x1) (ea_i h (b0 + 55) (Int32.toNatClampNeg x1))) (b0 + 82) (Int32.toNatClampNeg x1) (ea_i (ea_wi h (b0 + 81) (Int32.toNatClampNeg x1) (ea_i h (b0 + 55) (Int32.toNatClampNeg x1))) (b0 + 56) (Int32.toNatClampNeg x1))) (b0 + 57) (Int32.toNatClampNeg x1))) (b0 + 84) (Int32.toNatClampNeg x1) (ea_i (ea_wi (ea_wi (ea_wi h (b0 + 81) (Int32.toNatClampNeg x1) (ea_i h (b0 + 55) (Int32.toNatClampNeg x1))) (b0 + 82) (Int32.toNatClampNeg x1) (ea_i (ea_wi h (b0 + 81) (Int32.toNatClampNeg x1) (ea_i h (b0 + 55) (Int32.toNatClampNeg x1))) (b0 + 56) (Int32.toNatClampNeg x1))) (b0 + 83) (Int32.toNatClampNeg x1) (ea_i (ea_wi (ea_wi h (b0 + 81) (Int32.toNatClampNeg x1) (ea_i h (b0 + 55) (Int32.toNatClampNeg x1))) (b0 + 82) (Int32.toNatClampNeg x1) (ea_i (ea_wi h (b0 + 81) (Int32.toNatClampNeg x1) (ea_i h (b0 + 55) (Int32.toNatClampNeg x1))) (b0 + 56) (Int32.toNatClampNeg x1))) (b0 + 57) (Int32.toNatClampNeg x1))) (b0 + 58) (Int32.toNatClampNeg x1))) (b0 + 85) (Int32.toNatClampNeg x1) (ea_i (ea_wi (ea_wi (ea_wi (ea_wi h (b0 + 81) (Int32.toNatClampNeg x1) (ea_i h (b0 + 55) (Int32.toNatClampNeg x1))) (b0 + 82) (Int32.toNatClampNeg x1) (ea_i (ea_wi h (b0 + 81) (Int32.toNatClampNeg x1) (ea_i h (b0 + 55) (Int32.toNatClampNeg x1))) (b0 + 56) (Int32.toNatClampNeg x1))) (b0 + 83) (Int32.toNatClampNeg x1) (ea_i (ea_wi (ea_wi h (b0 + 81) (Int32.toNatClampNeg x1) (ea_i h (b0 + 55) (Int32.toNatClampNeg x1))) (b0 + 82) (Int32.toNatClampNeg x1) (ea_i (ea_wi h (b0 + 81) (Int32.toNatClampNeg x1) (ea_i h (b0 + 55) (Int32.toNatClampNeg x1))) (b0 + 56) (Int32.toNatClampNeg x1))) (b0 + 57) (Int32.toNatClampNeg x1))) (b0 + 84) (Int32.toNatClampNeg x1) (ea_i (ea_wi (ea_wi (ea_wi h (b0 + 81) (Int32.toNatClampNeg x1) (ea_i h (b0 + 55) (Int32.toNatClampNeg x1))) (b0 + 82) (Int32.toNatClampNeg x1) (ea_i (ea_wi h (b0 + 81) (Int32.toNatClampNeg x1) (ea_i h (b0 + 55) (Int32.toNatClampNeg x1))) (b0 + 56) (Int32.toNatClampNeg x1))) (b0 + 83) (Int32.toNatClampNeg x1) (ea_i (ea_wi (ea_wi h (b0 + 81) (Int32.toNatClampNeg x1) (ea_i h (b0 + 55) (Int32.toNatClampNeg x1))) (b0 + 82) (Int32.toNatClampNeg x1) (ea_i (ea_wi h (b0 + 81) (Int32.toNatClampNeg x1) (ea_i h (b0 + 55) (Int32.toNatClampNeg x1))) (b0 + 56) (Int32.toNatClampNeg x1))) (b0 + 57) (Int32.toNatClampNeg x1))) (b0 + 58) (Int32.toNatClampNeg x1))) (b0 + 59) (Int32.toNatClampNeg x1))) (b0 + 50) (Int32.toNatClampNeg x1))) (b0 + 51) (Int32.toNatClampNeg x1))) (b0 + 89) (Int32.toNatClampNeg x1) (ea_i (ea_wi (ea_wi (ea_wi (ea_wi (ea_wi (ea_wi (ea_wi h (b0 + 81) (Int32.toNatClampNeg x1) (ea_i h (b0 + 55) (Int32.toNatClampNeg x1))) (b0 + 82) (Int32.toNatClampNeg x1) (ea_i (ea_wi h (b0 + 81) (Int32.toNatClampNeg x1) (ea_i h (b0 + 55) (Int32.toNatClampNeg x1))) (b0 + 56) (Int32.toNatClampNeg x1))) (b0 + 83) (Int32.toNatClampNeg x1) (ea_i (ea_wi (ea_wi h (b0 + 81) (Int32.toNatClampNeg x1) (ea_i h (b0 + 55) (Int32.toNatClampNeg x1))) (b0 + 82) (Int32.toNatClampNeg x1) (ea_i (ea_wi h (b0 + 81) (Int32.toNatClampNeg x1) (ea_i h (b0 + 55) (Int32.toNatClampNeg x1))) (b0 + 56) (Int32.toNatClampNeg x1))) (b0 + 57) (Int32.toNatClampNeg x1))) (b0 + 84) (Int32.toNatClampNeg x1) (ea_i (ea_wi (ea_wi (ea_wi h (b0 + 81) (Int32.toNatClampNeg x1) (ea_i h (b0 + 55) (Int32.toNatClampNeg x1))) (b0 + 82) (Int32.toNatClampNeg x1) (ea_i (ea_wi h (b0 + 81) (Int32.toNatClampNeg x1) (ea_i h (b0 + 55) (Int32.toNatClampNeg x1))) (b0 + 56) (Int32.toNatClampNeg x1))) (b0 + 83) (Int32.toNatClampNeg x1) (ea_i (ea_wi (ea_wi h (b0 + 81) (Int32.toNatClampNeg x1) (ea_i h (b0 + 55) (Int32.toNatClampNeg x1))) (b0 + 82) (Int32.toNatClampNeg x1) (ea_i (ea_wi h (b0 + 81) (Int32.toNatClampNeg x1) (ea_i h (b0 + 55) (Int32.toNatClampNeg x1))) (b0 + 56) (Int32.toNatClampNeg x1))) (b0 + 57) (Int32.toNatClampNeg x1))) (b0 + 58) (Int32.toNatClampNeg x1))) (b0 + 85) (Int32.toNatClampNeg x1) (ea_i (ea_wi (ea_wi (ea_wi (ea_wi h (b0 + 81) (Int32.toNatClampNeg x1) (ea_i h (b0 + 55) (Int32.toNatClampNeg x1))) (b0 + 82) (Int32.toNatClampNeg x1) (ea_i (ea_wi h (b0 + 81) (Int32.toNatClampNeg x1) (ea_i h (b0 + 55) (Int32.toNatClampNeg x1))) (b0 + 56) (Int32.toNatClampNeg x1))) (b0 + 83) (Int32.toNatClampNeg x1) (ea_i (ea_wi (ea_wi h (b0 + 81) (Int32.toNatClampNeg x1) (ea_i h (b0 + 55) (Int32.toNatClampNeg x1))) (b0 + 82) (Int32.toNatClampNeg x1) (ea_i (ea_wi h (b0 + 81) (Int32.toNatClampNeg x1) (ea_i h (b0 + 55) (Int32.toNatClampNeg x1))) (b0 + 56) (Int32.toNatClampNeg x1))) (b0 + 57) (Int32.toNatClampNeg x1))) (b0 + 84) (Int32.toNatClampNeg x1) (ea_i (ea_wi (ea_wi (ea_wi h (b0 + 81) (Int32.toNatClampNeg x1) (ea_i h (b0 + 55) (Int32.toNatClampNeg x1))) (b0 + 82) (Int32.toNatClampNeg x1) (ea_i (ea_wi h (b0 + 81) (Int32.toNatClampNeg x1) (ea_i h (b0 + 55) (Int32.toNatClampNeg x1))) (b0 + 56) (Int32.toNatClampNeg x1))) (b0 + 83) (Int32.toNatClampNeg x1) (ea_i (ea_wi (ea_wi h (b0 + 81) (Int32.toNatClampNeg x1) (ea_i h (b0 + 55) (Int32.toNatClampNeg x1))) (b0 + 82) (Int32.toNatClampNeg x1) (ea_i (ea_wi h (b0 + 81) (Int32.toNatClampNeg x1) (ea_i h (b0 + 55) (Int32.toNatClampNeg x1))) (b0 + 56) (Int32.toNatClampNeg x1))) (b0 + 57) (Int32.toNatClampNeg x1))) (b0 + 58) (Int32.toNatClampNeg x1))) (b0 + 59) (Int32.toNatClampNeg x1))) (b0 + 86) (Int32.toNatClampNeg x1) (ea_i (ea_wi (ea_wi (ea_wi (ea_wi (ea_wi h (b0 + 81) (Int32.toNatClampNeg x1) (ea_i h (b0 + 55) (Int32.toNatClampNeg x1))) (b0 + 82) (Int32.toNatClampNeg x1) (ea_i (ea_wi h (b0 + 81) (Int32.toNatClampNeg x1) (ea_i h (b0 + 55) (Int32.toNatClampNeg x1))) (b0 + 56) (Int32.toNatClampNeg x1))) (b0 + 83) (Int32.toNatClampNeg x1) (ea_i (ea_wi (ea_wi h (b0 + 81) (Int32.toNatClampNeg x1) (ea_i h (b0 + 55) (Int32.toNatClampNeg x1))) (b0 + 82) (Int32.toNatClampNeg x1) (ea_i (ea_wi h (b0 + 81) (Int32.toNatClampNeg x1) (ea_i h (b0 + 55) (Int32.toNatClampNeg x1))) (b0 + 56) (Int32.toNatClampNeg x1))) (b0 + 57) (Int32.toNatClampNeg x1))) (b0 + 84) (Int32.toNatClampNeg x1) (ea_i (ea_wi (ea_wi (ea_wi h (b0 + 81) (Int32.toNatClampNeg x1) (ea_i h (b0 + 55) (Int32.toNatClampNeg x1))) (b0 + 82) (Int32.toNatClampNeg x1) (ea_i (ea_wi h (b0 + 81) (Int32.toNatClampNeg x1) (ea_i h (b0 + 55) (Int32.toNatClampNeg x1))) (b0 + 56) (Int32.toNatClampNeg x1))) (b0 + 83) (Int32.toNatClampNeg x1) (ea_i (ea_wi (ea_wi h (b0 + 81) (Int32.toNatClampNeg x1) (ea_i h (b0 + 55) (Int32.toNatClampNeg x1))) (b0 + 82) (Int32.toNatClampNeg x1) (ea_i (ea_wi h (b0 + 81) (Int32.toNatClampNeg x1) (ea_i h (b0 + 55) (Int32.toNatClampNeg x1))) (b0 + 56) (Int32.toNatClampNeg x1))) (b0 + 57) (Int32.toNatClampNeg x1))) (b0 + 58) (Int32.toNatClampNeg x1))) (b0 + 85) (Int32.toNatClampNeg x1) (ea_i (ea_wi (ea_wi (ea_wi (ea_wi h (b0 + 81) (Int32.toNatClampNeg x1) (ea_i h (b0 + 55) (Int32.toNatClampNeg x1))) (b0 + 82) (Int32.toNatClampNeg x1) (ea_i (ea_wi h (b0 + 81) (Int32.toNatClampNeg x1) (ea_i h (b0 + 55) (Int32.toNatClampNeg x1))) (b0 + 56) (Int32.toNatClampNeg x1))) (b0 + 83) (Int32.toNatClampNeg x1) (ea_i (ea_wi (ea_wi h (b0 + 81) (Int32.toNatClampNeg x1) (ea_i h (b0 + 55) (Int32.toNatClampNeg x1))) (b0 + 82) (Int32.toNatClampNeg x1) (ea_i (ea_wi h (b0 + 81) (Int32.toNatClampNeg x1) (ea_i h (b0 + 55) (Int32.toNatClampNeg x1))) (b0 + 56) (Int32.toNatClampNeg x1))) (b0 + 57) (Int32.toNatClampNeg x1))) (b0 + 84) (Int32.toNatClampNeg x1) (ea_i (ea_wi (ea_wi (ea_wi h (b0 + 81) (Int32.toNatClampNeg x1) (ea_i h (b0 + 55) (Int32.toNatClampNeg x1))) (b0 + 82) (Int32.toNatClampNeg x1) (ea_i (ea_wi h (b0 + 81) (Int32.toNatClampNeg x1) (ea_i h (b0 + 55) (Int32.toNatClampNeg x1))) (b0 + 56) (Int32.toNatClampNeg x1))) (b0 + 83) (Int32.toNatClampNeg x1) (ea_i (ea_wi (ea_wi h (b0 + 81) (Int32.toNatClampNeg x1) (ea_i h (b0 + 55) (Int32.toNatClampNeg x1))) (b0 + 82) (Int32.toNatClampNeg x1) (ea_i (ea_wi h (b0 + 81) (Int32.toNatClampNeg x1) (ea_i h (b0 + 55) (Int32.toNatClampNeg x1))) (b0 + 56) (Int32.toNatClampNeg x1))) (b0 + 57) (Int32.toNatClampNeg x1))) (b0 + 58) (Int32.toNatClampNeg x1))) (b0 + 59) (Int32.toNatClampNeg x1))) (b0 + 50) (Int32.toNatClampNeg x1))) (b0 + 87) (Int32.toNatClampNeg x1) (ea_i (ea_wi (ea_wi (ea_wi (ea_wi (ea_wi (ea_wi h (b0 + 81) (Int32.toNatClampNeg x1) (ea_i h (b0 + 55) (Int32.toNatClampNeg x1))) (b0 + 82) (Int32.toNatClampNeg x1) (ea_i (ea_wi h (b0 + 81) (Int32.toNatClampNeg x1) (ea_i h (b0 + 55) (Int32.toNatClampNeg x1))) (b0 + 56) (Int32.toNatClampNeg x1))) (b0 + 83) (Int32.toNatClampNeg x1) (ea_i (ea_wi (ea_wi h (b0 + 81) (Int32.toNatClampNeg x1) (ea_i h (b0 + 55) (Int32.toNatClampNeg x1))) (b0 + 82) (Int32.toNatClampNeg x1) (ea_i (ea_wi h (b0 + 81) (Int32.toNatClampNeg x1) (ea_i h (b0 + 55) (Int32.toNatClampNeg x1))) (b0 + 56) (Int32.toNatClampNeg x1))) (b0 + 57) (Int32.toNatClampNeg x1))) (b0 + 84) (Int32.toNatClampNeg x1) (ea_i (ea_wi (ea_wi (ea_wi h (b0 + 81) (Int32.toNatClampNeg x1) (ea_i h (b0 + 55) (Int32.toNatClampNeg x1))) (b0 + 82) (Int32.toNatClampNeg x1) (ea_i (ea_wi h (b0 + 81) (Int32.toNatClampNeg x1) (ea_i h (b0 + 55) (Int32.toNatClampNeg x1))) (b0 + 56) (Int32.toNatClampNeg x1))) (b0 + 83) (Int32.toNatClampNeg x1) (ea_i (ea_wi (ea_wi h (b0 + 81) (Int32.toNatClampNeg x1) (ea_i h (b0 + 55) (Int32.toNatClampNeg x1))) (b0 + 82) (Int32.toNatClampNeg x1) (ea_i (ea_wi h (b0 + 81) (Int32.toNatClampNeg x1) (ea_i h (b0 + 55) (Int32.toNatClampNeg x1))) (b0 + 56) (Int32.toNatClampNeg x1))) (b0 + 57) (Int32.toNatClampNeg x1))) (b0 + 58) (Int32.toNatClampNeg x1))) (b0 + 85) (Int32.toNatClampNeg x1) (ea_i (ea_wi (ea_wi (ea_wi (ea_wi h (b0 + 81) (Int32.toNatClampNeg x1) (ea_i h (b0 + 55) (Int32.toNatClampNeg x1))) (b0 + 82) (Int32.toNatClampNeg x1) (ea_i (ea_wi h (b0 + 81) (Int32.toNatClampNeg x1) (ea_i h (b0 + 55) (Int32.toNatClampNeg x1))) (b0 + 56) (Int32.toNatClampNeg x1))) (b0 + 83) (Int32.toNatClampNeg x1) (ea_i (ea_wi (ea_wi h (b0 + 81) (Int32.toNatClampNeg x1) (ea_i h (b0 + 55) (Int32.toNatClampNeg x1))) (b0 + 82) (Int32.toNatClampNeg x1) (ea_i (ea_wi h (b0 + 81) (Int32.toNatClampNeg x1) (ea_i h (b0 + 55) (Int32.toNatClampNeg x1))) (b0 + 56) (Int32.toNatClampNeg x1))) (b0 + 57) (Int32.toNatClampNeg x1))) (b0 + 84) (Int32.toNatClampNeg x1) (ea_i (ea_wi (ea_wi (ea_wi h (b0 + 81) (Int32.toNatClampNeg x1) (ea_i h (b0 + 55) (Int32.toNatClampNeg x1))) (b0 + 82) (Int32.toNatClampNeg x1) (ea_i (ea_wi h (b0 + 81) (Int32.toNatClampNeg x1) (ea_i h (b0 + 55) (Int32.toNatClampNeg x1))) (b0 + 56) (Int32.toNatClampNeg x1))) (b0 + 83) (Int32.toNatClampNeg x1) (ea_i (ea_wi (ea_wi h (b0 + 81) (Int32.toNatClampNeg x1) (ea_i h (b0 + 55) (Int32.toNatClampNeg x1))) (b0 + 82) (Int32.toNatClampNeg x1) (ea_i (ea_wi h (b0 + 81) (Int32.toNatClampNeg x1) (ea_i h (b0 + 55) (Int32.toNatClampNeg x1))) (b0 + 56) (Int32.toNatClampNeg x1))) (b0 + 57) (Int32.toNatClampNeg x1))) (b0 + 58) (Int32.toNatClampNeg x1))) (b0 + 59) (Int32.toNatClampNeg x1))) (b0 + 86) (Int32.toNatClampNeg x1) (ea_i (ea_wi (ea_wi (ea_wi (ea_wi (ea_wi h (b0 + 81) (Int32.toNatClampNeg x1) (ea_i h (b0 + 55) (Int32.toNatClampNeg x1))) (b0 + 82) (Int32.toNatClampNeg x1) (ea_i (ea_wi h (b0 + 81) (Int32.toNatClampNeg x1) (ea_i h (b0 + 55) (Int32.toNatClampNeg x1))) (b0 + 56) (Int32.toNatClampNeg x1))) (b0 + 83) (Int32.toNatClampNeg x1) (ea_i (ea_wi (ea_wi h (b0 + 81) (Int32.toNatClampNeg x1) (ea_i h (b0 + 55) (Int32.toNatClampNeg x1))) (b0 + 82) (Int32.toNatClampNeg x1) (ea_i (ea_wi h (b0 + 81) (Int32.toNatClampNeg x1) (ea_i h (b0 + 55) (Int32.toNatClampNeg x1))) (b0 + 56) (Int32.toNatClampNeg x1))) (b0 + 57) (Int32.toNatClampNeg x1))) (b0 + 84) (Int32.toNatClampNeg x1) (ea_i (ea_wi (ea_wi (ea_wi h (b0 + 81) (Int32.toNatClampNeg x1) (ea_i h (b0 + 55) (Int32.toNatClampNeg x1))) (b0 + 82) (Int32.toNatClampNeg x1) (ea_i (ea_wi h (b0 + 81) (Int32.toNatClampNeg x1) (ea_i h (b0 + 55) (Int32.toNatClampNeg x1))) (b0 + 56) (Int32.toNatClampNeg x1))) (b0 + 83) (Int32.toNatClampNeg x1) (ea_i (ea_wi (ea_wi h (b0 + 81) (Int32.toNatClampNeg x1) (ea_i h (b0 + 55) (Int32.toNatClampNeg x1))) (b0 + 82) (Int32.toNatClampNeg x1) (ea_i (ea_wi h (b0 + 81) (Int32.toNatClampNeg x1) (ea_i h (b0 + 55) (Int32.toNatClampNeg x1))) (b0 + 56) (Int32.toNatClampNeg x1))) (b0 + 57) (Int32.toNatClampNeg x1))) (b0 + 58) (Int32.toNatClampNeg x1))) (b0 + 85) (Int32.toNatClampNeg x1) (ea_i (ea_wi (ea_wi (ea_wi (ea_wi h (b0 + 81) (Int32.toNatClampNeg x1) (ea_i h (b0 + 55) (Int32.toNatClampNeg x1))) (b0 + 82) (Int32.toNatClampNeg x1) (ea_i (ea_wi h (b0 + 81) (Int32.toNatClampNeg x1) (ea_i h (b0 + 55) (Int32.toNatClampNeg x1))) (b0 + 56) (Int32.toNatClampNeg x1))) (b0 + 83) (Int32.toNatClampNeg x1) (ea_i (ea_wi (ea_wi h (b0 + 81) (Int32.toNatClampNeg x1) (ea_i h (b0 + 55) (Int32.toNatClampNeg x1))) (b0 + 82) (Int32.toNatClampNeg x1) (ea_i (ea_wi h (b0 + 81) (Int32.toNatClampNeg x1) (ea_i h (b0 + 55) (Int32.toNatClampNeg x1))) (b0 + 56) (Int32.toNatClampNeg x1))) (b0 + 57) (Int32.toNatClampNeg x1))) (b0 + 84) (Int32.toNatClampNeg x1) (ea_i (ea_wi (ea_wi (ea_wi h (b0 + 81) (Int32.toNatClampNeg x1) (ea_i h (b0 + 55) (Int32.toNatClampNeg x1))) (b0 + 82) (Int32.toNatClampNeg x1) (ea_i (ea_wi h (b0 + 81) (Int32.toNatClampNeg x1) (ea_i h (b0 + 55) (Int32.toNatClampNeg x1))) (b0 + 56) (Int32.toNatClampNeg x1))) (b0 + 83) (Int32.toNatClampNeg x1) (ea_i (ea_wi (ea_wi h (b0 + 81) (Int32.toNatClampNeg x1) (ea_i h (b0 + 55) (Int32.toNatClampNeg x1))) (b0 + 82) (Int32.toNatClampNeg x1) (ea_i (ea_wi h (b0 + 81) (Int32.toNatClampNeg x1) (ea_i h (b0 + 55) (Int32.toNatClampNeg x1))) (b0 + 56) (Int32.toNatClampNeg x1))) (b0 + 57) (Int32.toNatClampNeg x1))) (b0 + 58) (Int32.toNatClampNeg x1))) (b0 + 59) (Int32.toNatClampNeg x1))) (b0 + 50) (Int32.toNatClampNeg x1))) (b0 + 51) (Int32.toNatClampNeg x1))) (b0 + 61) (Int32.toNatClampNeg x1))) _ _ E hs24).2.1 rfl)
    intro el
    subst el
    have E := (if_neg (by decide)).symm.trans E
    have E := (if_neg (by decide)).symm.trans E
    have E := (if_pos rfl).symm.trans E
    refine ea_iload_n (pc := 114) dX12_keeps_114 rfl 1 rfl ?_
    refine ea_bipush (pc := 115) dX12_keeps_115 (v := 70) rfl ?_
    refine ea_icmp_ge (pc := 117) (tgt := 138) dX12_keeps_117 rfl (fun c30 => ?_) (fun c30 => ?_)
    · have E := (if_pos c30).symm.trans E
      cases E
      exact ea_return (pc := 138) dX12_keeps_138 rfl
    · have E := (if_neg c30).symm.trans E
      refine ea_aload_n (pc := 120) dX12_keeps_120 rfl 0 rfl ?_
      refine ea_getR (pc := 121) dX12_keeps_121 ec_12 (k := 116) (Nat.le_of_ble_eq_true rfl) rfl (Or.inl ew_1461) (hs.1 0 (by decide)).1 (hs.1 0 (by decide)).2.1 (hs.2 0 116 rfl) ?_
      refine ea_iload_n (pc := 124) dX12_keeps_124 rfl 1 rfl ?_
      refine ea_aload_n (pc := 125) dX12_keeps_125 rfl 0 rfl ?_
      refine ea_getR (pc := 126) dX12_keeps_126 ec_12 (k := 86) (Nat.le_of_ble_eq_true rfl) rfl (Or.inl ew_1431) (hs.1 0 (by decide)).1 (hs.1 0 (by decide)).2.1 (hs.2 0 86 rfl) ?_
      refine ea_iload_n (pc := 129) dX12_keeps_129 rfl 1 rfl ?_
      obtain ⟨z27, E⟩ := gd_some E
      refine ea_iald (pc := 130) dX12_keeps_130 (hs.1 60 (by decide)).1 (hs.1 60 (by decide)).2.1 (ea_vpl (hs.1 60 (by decide)).2.2 z27) ?_
      obtain ⟨z28, E⟩ := gd_some E
      refine ea_iast (pc := 131) dX12_keeps_131 (hs.1 88 (by decide)).1 (hs.1 88 (by decide)).2.1 (ea_vpl (hs.1 88 (by decide)).2.2 z28) ?_
      have hs29 : ShM b0 (ea_wi h (b0 + 88) (Int32.toNatClampNeg x1) (ea_i h (b0 + 60) (Int32.toNatClampNeg x1))) := ShM_wi hs
      refine ea_iinc (pc := 132) (v := 1) (lv' := [(0, vR (some (b0 + 0))), (1, vI (x1 + (1 : Int32)))]) dX12_keeps_132 1 rfl rfl (Nat.le_of_ble_eq_true rfl) [1, 0] rfl ?_
      refine ea_goto (pc := 135) (tgt := 114) dX12_keeps_135 rfl ?_
      exact ((ih 114 ((x1 + (1 : Int32)) : Int32) (ea_wi h (b0 + 88) (Int32.toNatClampNeg x1) (ea_i h (b0 + 60) (Int32.toNatClampNeg x1))) _ _ E hs29).2.2 rfl)
noncomputable def qX12_keeps (b0 : Nat) (h : ea_H) : Option (Unit × ea_H) := gX12_keeps b0 1000000000 0 0 h
def okX12_keeps (b0 : Nat) (h : ea_H) : Prop := ∃ x, qX12_keeps b0 h = some x
noncomputable def wX12_keeps (b0 : Nat) (h : ea_H) : ea_H := ((qX12_keeps b0 h).getD ((), h)).2
theorem sX12_keeps {d : Nat} {b0 : Nat} {h : ea_H} (hd : 1 ≤ d) (hs : ShM b0 h) (K : okX12_keeps b0 h) : ea_Met mX12_keeps d [vR (some (b0 + 0))] h none (wX12_keeps b0 h) := by
  obtain ⟨⟨x, y⟩, K⟩ := K
  unfold wX12_keeps
  rw [K]
  unfold qX12_keeps at K
  exact ea_enter rfl (Nat.le_of_ble_eq_true rfl) ((tX12_keeps hd 1000000000 0 0 h x y K hs).1 rfl)
