/-! the class, 4 -/
theorem zX1_carry_at42 {b0 : Nat} : ∀ (f lbl : Nat) (x1 : Int32) (x2 : Int32) (x3 : Int32) (x4 : Int32) (x5 : Int32) (x6 : Int32) (h : ea_H) (r : Unit) (h' : ea_H), gX1_carry_at42 b0 f lbl x1 x2 x3 x4 x5 x6 h = some (r, h') → ShC b0 h → ShC b0 h' := by
  intro f
  induction f with
  | zero => intro lbl x1 x2 x3 x4 x5 x6 h r h' E; cases E
  | succ f ih =>
    intro lbl x1 x2 x3 x4 x5 x6 h r h' E hs
    unfold gX1_carry_at42 at E
    by_cases el0 : lbl = 0
    · have E := (if_pos el0).symm.trans E
      obtain ⟨z1, E⟩ := gd_some E
      obtain ⟨H3, eH3, E⟩ := let_some E
      have hsH3 : ShC b0 H3 := by rw [eH3]; exact (shX10_refresh hs)
      obtain ⟨z4, E⟩ := gd_some E
      obtain ⟨H6, eH6, E⟩ := let_some E
      have hsH6 : ShC b0 H6 := by rw [eH6]; exact (shX10_firstBehind hsH3)
      exact ih 25 0 (x2 : Int32) (((x1 / (1440 : Int32)) + (1 : Int32)) : Int32) ((vX10_firstBehind b0 (x1 : Int32) H3) : Int32) 0 0 H6 _ _ E hsH6
    have E := (if_neg el0).symm.trans E
    by_cases el1 : lbl = 25
    · have E := (if_pos el1).symm.trans E
      by_cases c11 : (ea_i h (b0 + 13) 1) ≤ x4
      · have E := (if_pos c11).symm.trans E
        exact ih 125 0 (x2 : Int32) (x3 : Int32) 0 0 0 h _ _ E hs
      have E := (if_neg c11).symm.trans E
      by_cases c10 : (ea_i h (b0 + 42) 10) ≤ (0 : Int32)
      · have E := (if_pos c10).symm.trans E
        exact ih 125 0 (x2 : Int32) (x3 : Int32) 0 0 0 h _ _ E hs
      have E := (if_neg c10).symm.trans E
      obtain ⟨z7, E⟩ := gd_some E
      by_cases c9 : (vX10_minuteIn ((vX10_keyAt b0 (x4 : Int32) h) : Int32) h) ≤ x2
      · have E := (if_pos c9).symm.trans E
        exact ih 71 0 (x2 : Int32) (x3 : Int32) (x4 : Int32) ((vX10_keyAt b0 (x4 : Int32) h) : Int32) ((vX10_minuteIn ((vX10_keyAt b0 (x4 : Int32) h) : Int32) h) : Int32) h _ _ E hs
      have E := (if_neg c9).symm.trans E
      exact ih 125 0 (x2 : Int32) (x3 : Int32) 0 0 0 h _ _ E hs
    have E := (if_neg el1).symm.trans E
    by_cases el2 : lbl = 71
    · have E := (if_pos el2).symm.trans E
      by_cases c23 : x6 < (x3 * (1440 : Int32))
      · have E := (if_pos c23).symm.trans E
        by_cases c19 : (vX10_isGoing (x5 : Int32) h) = (0 : Int32)
        · have E := (if_pos c19).symm.trans E
          obtain ⟨z13, E⟩ := gd_some E
          obtain ⟨H15, eH15, E⟩ := let_some E
          have hsH15 : ShC b0 H15 := by rw [eH15]; exact (shX1_comes_at42 hs)
          exact ih 25 0 (x2 : Int32) (x3 : Int32) ((x4 + (1 : Int32)) : Int32) 0 0 H15 _ _ E hsH15
        have E := (if_neg c19).symm.trans E
        obtain ⟨z16, E⟩ := gd_some E
        obtain ⟨H18, eH18, E⟩ := let_some E
        have hsH18 : ShC b0 H18 := by rw [eH18]; exact (shX1_goes_at42 hs)
        exact ih 25 0 (x2 : Int32) (x3 : Int32) ((x4 + (1 : Int32)) : Int32) 0 0 H18 _ _ E hsH18
      have E := (if_neg c23).symm.trans E
      obtain ⟨z20, E⟩ := gd_some E
      obtain ⟨H22, eH22, E⟩ := let_some E
      have hsH22 : ShC b0 H22 := by rw [eH22]; exact (shX1_burn_at42 hs)
      exact ih 71 0 (x2 : Int32) ((x3 + (1 : Int32)) : Int32) (x4 : Int32) (x5 : Int32) (x6 : Int32) H22 _ _ E hsH22
    have E := (if_neg el2).symm.trans E
    by_cases el3 : lbl = 125
    · have E := (if_pos el3).symm.trans E
      by_cases c27 : x2 < (x3 * (1440 : Int32))
      · have E := (if_pos c27).symm.trans E
        exact ea_shO E hs
      have E := (if_neg c27).symm.trans E
      obtain ⟨z24, E⟩ := gd_some E
      obtain ⟨H26, eH26, E⟩ := let_some E
      have hsH26 : ShC b0 H26 := by rw [eH26]; exact (shX1_burn_at42 hs)
      exact ih 125 0 (x2 : Int32) ((x3 + (1 : Int32)) : Int32) 0 0 0 H26 _ _ E hsH26
    have E := (if_neg el3).symm.trans E
    cases E
theorem shX1_carry_at42 {b0 : Nat} {x1 : Int32} {x2 : Int32} {h : ea_H} (hs : ShC b0 h) : ShC b0 (wX1_carry_at42 b0 x1 x2 h) := by
  unfold wX1_carry_at42
  cases K : qX1_carry_at42 b0 x1 x2 h with
  | none => exact hs
  | some x => obtain ⟨x, y⟩ := x; unfold qX1_carry_at42 at K; exact zX1_carry_at42 _ _ _ _ _ _ _ _ _ _ _ K hs
noncomputable def gX8_price (b0 : Nat) : Nat → Nat → Option Nat → ea_H → Option (Unit × ea_H)
  | 0, _, _, _ => none
  | f + 1, lbl, r1, h =>
    (gd (r1 = some (Option.getD r1 0)) (gd (((Option.getD r1 0) < ea_n h ∧ ea_c h (Option.getD r1 0) = 4)) (gd ((okX4_dayOf b0 (Option.getD r1 0) h)) (gd ((okX8_numberOn b0 ((vX4_dayOf b0 (Option.getD r1 0) h) : Int32) h)) (ea_let (wX8_numberOn b0 ((vX4_dayOf b0 (Option.getD r1 0) h) : Int32) h) fun H6 => (gd (r1 = some (Option.getD r1 0)) (gd (((Option.getD r1 0) < ea_n H6 ∧ ea_c H6 (Option.getD r1 0) = 4)) (ea_let (ea_wi H6 (Option.getD r1 0) 11 (vX8_numberOn b0 ((vX4_dayOf b0 (Option.getD r1 0) h) : Int32) h)) fun H10 => (gd (r1 = some (Option.getD r1 0)) (gd (((Option.getD r1 0) < ea_n H10 ∧ ea_c H10 (Option.getD r1 0) = 4)) (gd ((okX8_actOf b0 ((ea_i H10 (Option.getD r1 0) 11) : Int32) H10)) (if (vX8_actOf b0 ((ea_i H10 (Option.getD r1 0) 11) : Int32) H10) = none then (some ((), H10)) else (gd ((vX8_actOf b0 ((ea_i H10 (Option.getD r1 0) 11) : Int32) H10) = some (Option.getD (vX8_actOf b0 ((ea_i H10 (Option.getD r1 0) 11) : Int32) H10) 0)) (gd (((Option.getD (vX8_actOf b0 ((ea_i H10 (Option.getD r1 0) 11) : Int32) H10) 0) < ea_n H10 ∧ ea_c H10 (Option.getD (vX8_actOf b0 ((ea_i H10 (Option.getD r1 0) 11) : Int32) H10) 0) = 0)) (gd (r1 = some (Option.getD r1 0)) (gd (((Option.getD r1 0) < ea_n H10 ∧ ea_c H10 (Option.getD r1 0) = 4)) (ea_let (ea_wi H10 (Option.getD r1 0) 14 (ea_i H10 (Option.getD (vX8_actOf b0 ((ea_i H10 (Option.getD r1 0) 11) : Int32) H10) 0) 7)) fun H19 => (gd ((okX8_isFree ((vX8_actOf b0 ((ea_i H10 (Option.getD r1 0) 11) : Int32) H10) : Option Nat) (r1 : Option Nat) H19)) (gd (r1 = some (Option.getD r1 0)) (gd (((Option.getD r1 0) < ea_n H19 ∧ ea_c H19 (Option.getD r1 0) = 4)) (gd (((vX8_isFree ((vX8_actOf b0 ((ea_i H10 (Option.getD r1 0) 11) : Int32) H10) : Option Nat) (r1 : Option Nat) H19) = 0 ∨ (vX8_isFree ((vX8_actOf b0 ((ea_i H10 (Option.getD r1 0) 11) : Int32) H10) : Option Nat) (r1 : Option Nat) H19) = 1)) (ea_let (ea_wi H19 (Option.getD r1 0) 13 (vX8_isFree ((vX8_actOf b0 ((ea_i H10 (Option.getD r1 0) 11) : Int32) H10) : Option Nat) (r1 : Option Nat) H19)) fun H25 => (gd ((okX8_chargeBy b0 ((vX8_actOf b0 ((ea_i H10 (Option.getD r1 0) 11) : Int32) H10) : Option Nat) (r1 : Option Nat) H25)) (ea_let (wX8_chargeBy b0 ((vX8_actOf b0 ((ea_i H10 (Option.getD r1 0) 11) : Int32) H10) : Option Nat) (r1 : Option Nat) H25) fun H28 => (gd (r1 = some (Option.getD r1 0)) (gd (((Option.getD r1 0) < ea_n H28 ∧ ea_c H28 (Option.getD r1 0) = 4)) (ea_let (ea_wi H28 (Option.getD r1 0) 10 (vX8_chargeBy b0 ((vX8_actOf b0 ((ea_i H10 (Option.getD r1 0) 11) : Int32) H10) : Option Nat) (r1 : Option Nat) H25)) fun H32 => (gd (r1 = some (Option.getD r1 0)) (gd (((Option.getD r1 0) < ea_n H32 ∧ ea_c H32 (Option.getD r1 0) = 4)) (if (ea_i H32 (Option.getD r1 0) 13) = (0 : Int32) then (gd ((okX8_lineFor b0 ((vX8_actOf b0 ((ea_i H10 (Option.getD r1 0) 11) : Int32) H10) : Option Nat) (r1 : Option Nat) H32)) (ea_let (wX8_lineFor b0 ((vX8_actOf b0 ((ea_i H10 (Option.getD r1 0) 11) : Int32) H10) : Option Nat) (r1 : Option Nat) H32) fun H37 => (gd (r1 = some (Option.getD r1 0)) (gd (((Option.getD r1 0) < ea_n H37 ∧ ea_c H37 (Option.getD r1 0) = 4)) (ea_let (ea_wi H37 (Option.getD r1 0) 12 (vX8_lineFor b0 ((vX8_actOf b0 ((ea_i H10 (Option.getD r1 0) 11) : Int32) H10) : Option Nat) (r1 : Option Nat) H32)) fun H41 => (some ((), H41))))))) else (gd (r1 = some (Option.getD r1 0)) (gd (((Option.getD r1 0) < ea_n H32 ∧ ea_c H32 (Option.getD r1 0) = 4)) (ea_let (ea_wi H32 (Option.getD r1 0) 12 (-1)) fun H45 => (some ((), H45)))))))))))))))))))))))))))))))))))
theorem tX8_price {d : Nat} {b0 : Nat} {h0 : ea_H} (hd : 5 ≤ d) : ∀ (f lbl : Nat) (r1 : Option Nat) (h : ea_H) (r : Unit) (h' : ea_H), gX8_price b0 f lbl r1 h = some (r, h') → ShC b0 h → (lbl = 0 → ea_W mX8_price d h0 none h' 0 [(0, vR (some (b0 + 21))), (1, vR r1)] [] h) := by
  intro f
  induction f with
  | zero => intro lbl r1 h r h' E; cases E
  | succ f ih =>
    intro lbl r1 h r h' E hs
    unfold gX8_price at E
    intro el
    subst el
    refine ea_aload_n (pc := 0) dX8_price_0 rfl 1 rfl ?_
    refine ea_aload_n (pc := 1) dX8_price_1 rfl 0 rfl ?_
    refine ea_aload_n (pc := 2) dX8_price_2 rfl 1 rfl ?_
    obtain ⟨e1, E⟩ := gd_some E
    obtain ⟨f2, E⟩ := gd_some E
    obtain ⟨z3, E⟩ := gd_some E
    refine ea_deref0 e1 ?_
    refine ea_callV (pc := 3) (d' := d - 1) (As := []) (st := [vR (some (b0 + 21)), vR r1]) dX8_price_3 kX4_dayOf (sX4_dayOf (d := d - 1) (by omega) hs z3) (by omega) rfl (Nat.le_of_ble_eq_true rfl) ew_1040 ew_1033 ew_1034 (ci := 4) rfl (by decide) f2.1 f2.2 ?_
    obtain ⟨z4, E⟩ := gd_some E
    refine ea_callV (pc := 6) (d' := d - 1) (As := [vI (vX4_dayOf b0 (Option.getD r1 0) h)]) (st := [vR r1]) dX8_price_6 kX8_numberOn (sX8_numberOn (d := d - 1) (by omega) hs z4) (by omega) rfl (Nat.le_of_ble_eq_true rfl) ew_1041 ew_917 ew_918 (ci := 8) rfl (by decide) (hs.1 21 (by decide)).1 (hs.1 21 (by decide)).2.1 ?_
    have hs5 : ShC b0 (wX8_numberOn b0 ((vX4_dayOf b0 (Option.getD r1 0) h) : Int32) h) := shX8_numberOn hs
    obtain ⟨H6, eH6, E⟩ := let_some E
    refine ea_nm eH6 ?_
    have hsH6 : ShC b0 H6 := by rw [eH6]; exact hs5
    obtain ⟨e7, E⟩ := gd_some E
    obtain ⟨f8, E⟩ := gd_some E
    refine ea_deref1 e7 ?_
    refine ea_putI (pc := 9) dX8_price_9 ec_4 (k := 11) (Nat.le_of_ble_eq_true rfl) rfl (Or.inl ⟨rfl, Or.inl ew_962⟩) rfl rfl f8.1 f8.2 ?_
    have hs9 : ShC b0 (ea_wi H6 (Option.getD r1 0) 11 (vX8_numberOn b0 ((vX4_dayOf b0 (Option.getD r1 0) h) : Int32) h)) := ShC_wi hsH6
    obtain ⟨H10, eH10, E⟩ := let_some E
    refine ea_nm eH10 ?_
    have hsH10 : ShC b0 H10 := by rw [eH10]; exact hs9
    refine ea_aload_n (pc := 12) dX8_price_12 rfl 0 rfl ?_
    refine ea_aload_n (pc := 13) dX8_price_13 rfl 1 rfl ?_
    obtain ⟨e11, E⟩ := gd_some E
    obtain ⟨f12, E⟩ := gd_some E
    refine ea_deref0 e11 ?_
    refine ea_getI (pc := 14) dX8_price_14 ec_4 (k := 11) (Nat.le_of_ble_eq_true rfl) rfl (Or.inl ew_962) f12.1 f12.2 ?_
    obtain ⟨z13, E⟩ := gd_some E
    refine ea_callV (pc := 17) (d' := d - 1) (As := [vI (ea_i H10 (Option.getD r1 0) 11)]) (st := []) dX8_price_17 kX8_actOf (sX8_actOf (d := d - 1) (by omega) hsH10 z13) (by omega) rfl (Nat.le_of_ble_eq_true rfl) ew_1042 ew_921 ew_922 (ci := 8) rfl (by decide) (hsH10.1 21 (by decide)).1 (hsH10.1 21 (by decide)).2.1 ?_
    refine ea_astore_n (pc := 20) (lv' := [(0, vR (some (b0 + 21))), (1, vR r1), (2, vR (vX8_actOf b0 ((ea_i H10 (Option.getD r1 0) 11) : Int32) H10))]) dX8_price_20 rfl (Nat.le_of_ble_eq_true rfl) [1, 2, 0] rfl ?_
    refine ea_aload_n (pc := 21) dX8_price_21 rfl 2 rfl ?_
    refine ea_ifnonnull (pc := 22) (tgt := 26) dX8_price_22 rfl (fun a48 c47 => ?_) (fun c47 => ?_)
    · have c47n : ¬ (vX8_actOf b0 ((ea_i H10 (Option.getD r1 0) 11) : Int32) H10) = none := by rw [c47]; exact fun q => nomatch q
      have E := (if_neg c47n).symm.trans E
      refine ea_aload_n (pc := 26) dX8_price_26 rfl 1 rfl ?_
      refine ea_aload_n (pc := 27) dX8_price_27 rfl 2 rfl ?_
      obtain ⟨e14, E⟩ := gd_some E
      obtain ⟨f15, E⟩ := gd_some E
      refine ea_deref0 e14 ?_
      refine ea_getI (pc := 28) dX8_price_28 ec_0 (k := 7) (Nat.le_of_ble_eq_true rfl) rfl (Or.inl ew_814) f15.1 f15.2 ?_
      obtain ⟨e16, E⟩ := gd_some E
      obtain ⟨f17, E⟩ := gd_some E
      refine ea_deref1 e16 ?_
      refine ea_putI (pc := 31) dX8_price_31 ec_4 (k := 14) (Nat.le_of_ble_eq_true rfl) rfl (Or.inl ⟨rfl, Or.inl ew_970⟩) rfl rfl f17.1 f17.2 ?_
      have hs18 : ShC b0 (ea_wi H10 (Option.getD r1 0) 14 (ea_i H10 (Option.getD (vX8_actOf b0 ((ea_i H10 (Option.getD r1 0) 11) : Int32) H10) 0) 7)) := ShC_wi hsH10
      obtain ⟨H19, eH19, E⟩ := let_some E
      refine ea_nm eH19 ?_
      have hsH19 : ShC b0 H19 := by rw [eH19]; exact hs18
      refine ea_aload_n (pc := 34) dX8_price_34 rfl 1 rfl ?_
      refine ea_aload_n (pc := 35) dX8_price_35 rfl 2 rfl ?_
      refine ea_aload_n (pc := 36) dX8_price_36 rfl 1 rfl ?_
      obtain ⟨z20, E⟩ := gd_some E
      refine ea_callS (pc := 37) (d' := d - 1) (As := [vR (vX8_actOf b0 ((ea_i H10 (Option.getD r1 0) 11) : Int32) H10), vR r1]) (st := [vR r1]) dX8_price_37 kX8_isFree (sX8_isFree (d := d - 1) (by omega) z20) (by omega) rfl (Nat.le_of_ble_eq_true rfl) ew_1043 ew_1044 ?_
      obtain ⟨e21, E⟩ := gd_some E
      obtain ⟨f22, E⟩ := gd_some E
      obtain ⟨z24, E⟩ := gd_some E
      refine ea_deref1 e21 ?_
      refine ea_putI (pc := 40) dX8_price_40 ec_4 (k := 13) (Nat.le_of_ble_eq_true rfl) rfl (Or.inl ⟨rfl, Or.inl ew_967⟩) (ea_bn z24) (ea_bf z24) f22.1 f22.2 ?_
      have hs23 : ShC b0 (ea_wi H19 (Option.getD r1 0) 13 (vX8_isFree ((vX8_actOf b0 ((ea_i H10 (Option.getD r1 0) 11) : Int32) H10) : Option Nat) (r1 : Option Nat) H19)) := ShC_wi hsH19
      obtain ⟨H25, eH25, E⟩ := let_some E
      refine ea_nm eH25 ?_
      have hsH25 : ShC b0 H25 := by rw [eH25]; exact hs23
      refine ea_aload_n (pc := 43) dX8_price_43 rfl 1 rfl ?_
      refine ea_aload_n (pc := 44) dX8_price_44 rfl 0 rfl ?_
      refine ea_aload_n (pc := 45) dX8_price_45 rfl 2 rfl ?_
      refine ea_aload_n (pc := 46) dX8_price_46 rfl 1 rfl ?_
      obtain ⟨z26, E⟩ := gd_some E
      refine ea_callV (pc := 47) (d' := d - 1) (As := [vR (vX8_actOf b0 ((ea_i H10 (Option.getD r1 0) 11) : Int32) H10), vR r1]) (st := [vR r1]) dX8_price_47 kX8_chargeBy (sX8_chargeBy (d := d - 1) (by omega) hsH25 z26) (by omega) rfl (Nat.le_of_ble_eq_true rfl) ew_1046 ew_1047 ew_1048 (ci := 8) rfl (by decide) (hsH25.1 21 (by decide)).1 (hsH25.1 21 (by decide)).2.1 ?_
      have hs27 : ShC b0 (wX8_chargeBy b0 ((vX8_actOf b0 ((ea_i H10 (Option.getD r1 0) 11) : Int32) H10) : Option Nat) (r1 : Option Nat) H25) := shX8_chargeBy hsH25
      obtain ⟨H28, eH28, E⟩ := let_some E
      refine ea_nm eH28 ?_
      have hsH28 : ShC b0 H28 := by rw [eH28]; exact hs27
      obtain ⟨e29, E⟩ := gd_some E
      obtain ⟨f30, E⟩ := gd_some E
      refine ea_deref1 e29 ?_
      refine ea_putI (pc := 50) dX8_price_50 ec_4 (k := 10) (Nat.le_of_ble_eq_true rfl) rfl (Or.inl ⟨rfl, Or.inl ew_959⟩) rfl rfl f30.1 f30.2 ?_
      have hs31 : ShC b0 (ea_wi H28 (Option.getD r1 0) 10 (vX8_chargeBy b0 ((vX8_actOf b0 ((ea_i H10 (Option.getD r1 0) 11) : Int32) H10) : Option Nat) (r1 : Option Nat) H25)) := ShC_wi hsH28
      obtain ⟨H32, eH32, E⟩ := let_some E
      refine ea_nm eH32 ?_
      have hsH32 : ShC b0 H32 := by rw [eH32]; exact hs31
      refine ea_aload_n (pc := 53) dX8_price_53 rfl 1 rfl ?_
      refine ea_aload_n (pc := 54) dX8_price_54 rfl 1 rfl ?_
      obtain ⟨e33, E⟩ := gd_some E
      obtain ⟨f34, E⟩ := gd_some E
      refine ea_deref0 e33 ?_
      refine ea_getI (pc := 55) dX8_price_55 ec_4 (k := 13) (Nat.le_of_ble_eq_true rfl) rfl (Or.inl ew_967) f34.1 f34.2 ?_
      refine ea_if_eq (pc := 58) (tgt := 65) dX8_price_58 rfl (fun c46 => ?_) (fun c46 => ?_)
      · have E := (if_pos c46).symm.trans E
        refine ea_aload_n (pc := 65) dX8_price_65 rfl 0 rfl ?_
        refine ea_aload_n (pc := 66) dX8_price_66 rfl 2 rfl ?_
        refine ea_aload_n (pc := 67) dX8_price_67 rfl 1 rfl ?_
        obtain ⟨z35, E⟩ := gd_some E
        refine ea_callV (pc := 68) (d' := d - 1) (As := [vR (vX8_actOf b0 ((ea_i H10 (Option.getD r1 0) 11) : Int32) H10), vR r1]) (st := [vR r1]) dX8_price_68 kX8_lineFor (sX8_lineFor (d := d - 1) (by omega) hsH32 z35) (by omega) rfl (Nat.le_of_ble_eq_true rfl) ew_1050 ew_1052 ew_34 (ci := 8) rfl (by decide) (hsH32.1 21 (by decide)).1 (hsH32.1 21 (by decide)).2.1 ?_
        have hs36 : ShC b0 (wX8_lineFor b0 ((vX8_actOf b0 ((ea_i H10 (Option.getD r1 0) 11) : Int32) H10) : Option Nat) (r1 : Option Nat) H32) := shX8_lineFor hsH32
        obtain ⟨H37, eH37, E⟩ := let_some E
        refine ea_nm eH37 ?_
        have hsH37 : ShC b0 H37 := by rw [eH37]; exact hs36
        obtain ⟨e38, E⟩ := gd_some E
        obtain ⟨f39, E⟩ := gd_some E
        refine ea_deref1 e38 ?_
        refine ea_putI (pc := 71) dX8_price_71 ec_4 (k := 12) (Nat.le_of_ble_eq_true rfl) rfl (Or.inl ⟨rfl, Or.inl ew_965⟩) rfl rfl f39.1 f39.2 ?_
        have hs40 : ShC b0 (ea_wi H37 (Option.getD r1 0) 12 (vX8_lineFor b0 ((vX8_actOf b0 ((ea_i H10 (Option.getD r1 0) 11) : Int32) H10) : Option Nat) (r1 : Option Nat) H32)) := ShC_wi hsH37
        obtain ⟨H41, eH41, E⟩ := let_some E
        refine ea_nm eH41 ?_
        have hsH41 : ShC b0 H41 := by rw [eH41]; exact hs40
        exact ea_vretO (pc := 74) dX8_price_74 rfl E
      · have E := (if_neg c46).symm.trans E
        refine ea_iconst (pc := 61) dX8_price_61 (v := (-1)) rfl ?_
        refine ea_goto (pc := 62) (tgt := 71) dX8_price_62 rfl ?_
        obtain ⟨e42, E⟩ := gd_some E
        obtain ⟨f43, E⟩ := gd_some E
        refine ea_deref1 e42 ?_
        refine ea_putI (pc := 71) dX8_price_71 ec_4 (k := 12) (Nat.le_of_ble_eq_true rfl) rfl (Or.inl ⟨rfl, Or.inl ew_965⟩) rfl rfl f43.1 f43.2 ?_
        have hs44 : ShC b0 (ea_wi H32 (Option.getD r1 0) 12 (-1)) := ShC_wi hsH32
        obtain ⟨H45, eH45, E⟩ := let_some E
        refine ea_nm eH45 ?_
        have hsH45 : ShC b0 H45 := by rw [eH45]; exact hs44
        exact ea_vretO (pc := 74) dX8_price_74 rfl E
    · have E := (if_pos c47).symm.trans E
      exact ea_vretO (pc := 25) dX8_price_25 rfl E
noncomputable def qX8_price (b0 : Nat) (r1 : Option Nat) (h : ea_H) : Option (Unit × ea_H) := gX8_price b0 1000000000 0 r1 h
def okX8_price (b0 : Nat) (r1 : Option Nat) (h : ea_H) : Prop := ∃ x, qX8_price b0 r1 h = some x
noncomputable def wX8_price (b0 : Nat) (r1 : Option Nat) (h : ea_H) : ea_H := ((qX8_price b0 r1 h).getD ((), h)).2
theorem sX8_price {d : Nat} {b0 : Nat} {r1 : Option Nat} {h : ea_H} (hd : 5 ≤ d) (hs : ShC b0 h) (K : okX8_price b0 r1 h) : ea_Met mX8_price d [vR (some (b0 + 21)), vR r1] h none (wX8_price b0 r1 h) := by
  obtain ⟨⟨x, y⟩, K⟩ := K
  unfold wX8_price
  rw [K]
  unfold qX8_price at K
  exact ea_enter rfl (Nat.le_of_ble_eq_true rfl) ((tX8_price hd 1000000000 0 r1 h x y K hs) rfl)
theorem zX8_price {b0 : Nat} : ∀ (f lbl : Nat) (r1 : Option Nat) (h : ea_H) (r : Unit) (h' : ea_H), gX8_price b0 f lbl r1 h = some (r, h') → ShC b0 h → ShC b0 h' := by
  intro f
  induction f with
  | zero => intro lbl r1 h r h' E; cases E
  | succ f ih =>
    intro lbl r1 h r h' E hs
    unfold gX8_price at E
    obtain ⟨e1, E⟩ := gd_some E
    obtain ⟨f2, E⟩ := gd_some E
    obtain ⟨z3, E⟩ := gd_some E
    obtain ⟨z4, E⟩ := gd_some E
    obtain ⟨H6, eH6, E⟩ := let_some E
    have hsH6 : ShC b0 H6 := by rw [eH6]; exact (shX8_numberOn hs)
    obtain ⟨e7, E⟩ := gd_some E
    obtain ⟨f8, E⟩ := gd_some E
    obtain ⟨H10, eH10, E⟩ := let_some E
    have hsH10 : ShC b0 H10 := by rw [eH10]; exact (ShC_wi hsH6)
    obtain ⟨e11, E⟩ := gd_some E
    obtain ⟨f12, E⟩ := gd_some E
    obtain ⟨z13, E⟩ := gd_some E
    by_cases c47 : (vX8_actOf b0 ((ea_i H10 (Option.getD r1 0) 11) : Int32) H10) = none
    · have E := (if_pos c47).symm.trans E
      exact ea_shO E hsH10
    have E := (if_neg c47).symm.trans E
    obtain ⟨e14, E⟩ := gd_some E
    obtain ⟨f15, E⟩ := gd_some E
    obtain ⟨e16, E⟩ := gd_some E
    obtain ⟨f17, E⟩ := gd_some E
    obtain ⟨H19, eH19, E⟩ := let_some E
    have hsH19 : ShC b0 H19 := by rw [eH19]; exact (ShC_wi hsH10)
    obtain ⟨z20, E⟩ := gd_some E
    obtain ⟨e21, E⟩ := gd_some E
    obtain ⟨f22, E⟩ := gd_some E
    obtain ⟨z24, E⟩ := gd_some E
    obtain ⟨H25, eH25, E⟩ := let_some E
    have hsH25 : ShC b0 H25 := by rw [eH25]; exact (ShC_wi hsH19)
    obtain ⟨z26, E⟩ := gd_some E
    obtain ⟨H28, eH28, E⟩ := let_some E
    have hsH28 : ShC b0 H28 := by rw [eH28]; exact (shX8_chargeBy hsH25)
    obtain ⟨e29, E⟩ := gd_some E
    obtain ⟨f30, E⟩ := gd_some E
    obtain ⟨H32, eH32, E⟩ := let_some E
    have hsH32 : ShC b0 H32 := by rw [eH32]; exact (ShC_wi hsH28)
    obtain ⟨e33, E⟩ := gd_some E
    obtain ⟨f34, E⟩ := gd_some E
    by_cases c46 : (ea_i H32 (Option.getD r1 0) 13) = (0 : Int32)
    · have E := (if_pos c46).symm.trans E
      obtain ⟨z35, E⟩ := gd_some E
      obtain ⟨H37, eH37, E⟩ := let_some E
      have hsH37 : ShC b0 H37 := by rw [eH37]; exact (shX8_lineFor hsH32)
      obtain ⟨e38, E⟩ := gd_some E
      obtain ⟨f39, E⟩ := gd_some E
      obtain ⟨H41, eH41, E⟩ := let_some E
      have hsH41 : ShC b0 H41 := by rw [eH41]; exact (ShC_wi hsH37)
      exact ea_shO E hsH41
    have E := (if_neg c46).symm.trans E
    obtain ⟨e42, E⟩ := gd_some E
    obtain ⟨f43, E⟩ := gd_some E
    obtain ⟨H45, eH45, E⟩ := let_some E
    have hsH45 : ShC b0 H45 := by rw [eH45]; exact (ShC_wi hsH32)
    exact ea_shO E hsH45
theorem shX8_price {b0 : Nat} {r1 : Option Nat} {h : ea_H} (hs : ShC b0 h) : ShC b0 (wX8_price b0 r1 h) := by
  unfold wX8_price
  cases K : qX8_price b0 r1 h with
  | none => exact hs
  | some x => obtain ⟨x, y⟩ := x; unfold qX8_price at K; exact zX8_price _ _ _ _ _ _ K hs
noncomputable def vX11_minutes (b0 : Nat) (x1 : Int32) (h : ea_H) : Int32 := (if x1 < (1 : Int32) then ((-1) : Int32) else (if (3000 : Int32) < x1 then ((-1) : Int32) else (if ((ea_i h (b0 + 0) 11) + x1) ≤ (10079 : Int32) then (ea_i (ea_wi (wX1_carry_at32 b0 ((ea_i (ea_wi h (b0 + 0) 12 0) (b0 + 0) 11) : Int32) (((ea_i (ea_wi h (b0 + 0) 12 0) (b0 + 0) 11) + x1) : Int32) (ea_wi h (b0 + 0) 12 0)) (b0 + 0) 11 ((ea_i (wX1_carry_at32 b0 ((ea_i (ea_wi h (b0 + 0) 12 0) (b0 + 0) 11) : Int32) (((ea_i (ea_wi h (b0 + 0) 12 0) (b0 + 0) 11) + x1) : Int32) (ea_wi h (b0 + 0) 12 0)) (b0 + 0) 11) + x1)) (b0 + 0) 11) else ((-1) : Int32))))
noncomputable def wX11_minutes (b0 : Nat) (x1 : Int32) (h : ea_H) : ea_H := (if x1 < (1 : Int32) then h else (if (3000 : Int32) < x1 then h else (if ((ea_i h (b0 + 0) 11) + x1) ≤ (10079 : Int32) then (ea_wi (wX1_carry_at32 b0 ((ea_i (ea_wi h (b0 + 0) 12 0) (b0 + 0) 11) : Int32) (((ea_i (ea_wi h (b0 + 0) 12 0) (b0 + 0) 11) + x1) : Int32) (ea_wi h (b0 + 0) 12 0)) (b0 + 0) 11 ((ea_i (wX1_carry_at32 b0 ((ea_i (ea_wi h (b0 + 0) 12 0) (b0 + 0) 11) : Int32) (((ea_i (ea_wi h (b0 + 0) 12 0) (b0 + 0) 11) + x1) : Int32) (ea_wi h (b0 + 0) 12 0)) (b0 + 0) 11) + x1)) else h)))
def okX11_minutes (b0 : Nat) (x1 : Int32) (h : ea_H) : Prop := (x1 < (1 : Int32) → True) ∧ (¬ x1 < (1 : Int32) → ((3000 : Int32) < x1 → True) ∧ (¬ (3000 : Int32) < x1 → (((ea_i h (b0 + 0) 11) + x1) ≤ (10079 : Int32) → (okX1_carry_at32 b0 ((ea_i (ea_wi h (b0 + 0) 12 0) (b0 + 0) 11) : Int32) (((ea_i (ea_wi h (b0 + 0) 12 0) (b0 + 0) 11) + x1) : Int32) (ea_wi h (b0 + 0) 12 0))) ∧ (¬ ((ea_i h (b0 + 0) 11) + x1) ≤ (10079 : Int32) → True)))
theorem shX11_minutes {b0 : Nat} {x1 : Int32} {h : ea_H} (hs : ShC b0 h) : ShC b0 (wX11_minutes b0 x1 h) := (ShC_it hs (ShC_it hs (ShC_it (ShC_wi (shX1_carry_at32 (ShC_wi hs))) hs)))
theorem sX11_minutes {d : Nat} {b0 : Nat} {x1 : Int32} {h : ea_H} (hd : 7 ≤ d) (hs : ShC b0 h) (K : okX11_minutes b0 x1 h) : ea_Met mX11_minutes d [vR (some (b0 + 0)), vI x1] h (some (vI (vX11_minutes b0 x1 h))) (wX11_minutes b0 x1 h) := by
  obtain ⟨X, EX⟩ : ∃ z, z = vX11_minutes b0 x1 h := ⟨_, rfl⟩
  rw [← EX]
  unfold vX11_minutes at EX
  obtain ⟨Y, EY⟩ : ∃ z, z = wX11_minutes b0 x1 h := ⟨_, rfl⟩
  rw [← EY]
  unfold wX11_minutes at EY
  unfold okX11_minutes at K
  refine ea_enter rfl (Nat.le_of_ble_eq_true rfl) ?_
  refine ea_iload_n (pc := 0) dX11_minutes_0 rfl 1 rfl ?_
  refine ea_iconst (pc := 1) dX11_minutes_1 (v := 1) rfl ?_
  refine ea_icmp_lt (pc := 2) (tgt := 24) dX11_minutes_2 rfl (fun c7 => ?_) (fun c7 => ?_)
  · have EX := EX.trans (if_pos c7)
    have EY := EY.trans (if_pos c7)
    refine ea_iconst (pc := 24) dX11_minutes_24 (v := (-1)) rfl ?_
    exact ea_iretE (pc := 25) dX11_minutes_25 rfl rfl EX EY
  · have EX := EX.trans (if_neg c7)
    have EY := EY.trans (if_neg c7)
    have K := K.2 c7
    refine ea_iload_n (pc := 5) dX11_minutes_5 rfl 1 rfl ?_
    refine ea_sipush (pc := 6) dX11_minutes_6 (v := 3000) rfl ?_
    refine ea_icmp_gt (pc := 9) (tgt := 24) dX11_minutes_9 rfl (fun c6 => ?_) (fun c6 => ?_)
    · have EX := EX.trans (if_pos c6)
      have EY := EY.trans (if_pos c6)
      refine ea_iconst (pc := 24) dX11_minutes_24 (v := (-1)) rfl ?_
      exact ea_iretE (pc := 25) dX11_minutes_25 rfl rfl EX EY
    · have EX := EX.trans (if_neg c6)
      have EY := EY.trans (if_neg c6)
      have K := K.2 c6
      refine ea_aload_n (pc := 12) dX11_minutes_12 rfl 0 rfl ?_
      refine ea_getI (pc := 13) dX11_minutes_13 ec_11 (k := 11) (Nat.le_of_ble_eq_true rfl) rfl (Or.inl ew_448) (hs.1 0 (by decide)).1 (hs.1 0 (by decide)).2.1 ?_
      refine ea_iload_n (pc := 16) dX11_minutes_16 rfl 1 rfl ?_
      refine ea_iadd (pc := 17) dX11_minutes_17 ?_
      refine ea_sipush (pc := 18) dX11_minutes_18 (v := 10079) rfl ?_
      refine ea_icmp_le (pc := 21) (tgt := 26) dX11_minutes_21 rfl (fun c5 => ?_) (fun c5 => ?_)
      · have EX := EX.trans (if_pos c5)
        have EY := EY.trans (if_pos c5)
        have K := K.1 c5
        refine ea_aload_n (pc := 26) dX11_minutes_26 rfl 0 rfl ?_
        refine ea_iconst (pc := 27) dX11_minutes_27 (v := 0) rfl ?_
        refine ea_putI (pc := 28) dX11_minutes_28 ec_11 (k := 12) (Nat.le_of_ble_eq_true rfl) rfl (Or.inl ⟨rfl, Or.inl ew_449⟩) (ea_bn (Or.inl rfl)) (ea_bf (Or.inl rfl)) (hs.1 0 (by decide)).1 (hs.1 0 (by decide)).2.1 ?_
        have hs1 : ShC b0 (ea_wi h (b0 + 0) 12 0) := ShC_wi hs
        refine ea_aload_n (pc := 31) dX11_minutes_31 rfl 0 rfl ?_
        refine ea_getR (pc := 32) dX11_minutes_32 ec_11 (k := 6) (Nat.le_of_ble_eq_true rfl) rfl (Or.inl ew_443) (hs1.1 0 (by decide)).1 (hs1.1 0 (by decide)).2.1 (hs1.2 0 6 rfl) ?_
        refine ea_aload_n (pc := 35) dX11_minutes_35 rfl 0 rfl ?_
        refine ea_getI (pc := 36) dX11_minutes_36 ec_11 (k := 11) (Nat.le_of_ble_eq_true rfl) rfl (Or.inl ew_448) (hs1.1 0 (by decide)).1 (hs1.1 0 (by decide)).2.1 ?_
        refine ea_aload_n (pc := 39) dX11_minutes_39 rfl 0 rfl ?_
        refine ea_getI (pc := 40) dX11_minutes_40 ec_11 (k := 11) (Nat.le_of_ble_eq_true rfl) rfl (Or.inl ew_448) (hs1.1 0 (by decide)).1 (hs1.1 0 (by decide)).2.1 ?_
        refine ea_iload_n (pc := 43) dX11_minutes_43 rfl 1 rfl ?_
        refine ea_iadd (pc := 44) dX11_minutes_44 ?_
        have z2 := K
        refine ea_callV (pc := 45) (d' := d - 1) (As := [vI (ea_i (ea_wi h (b0 + 0) 12 0) (b0 + 0) 11), vI ((ea_i (ea_wi h (b0 + 0) 12 0) (b0 + 0) 11) + x1)]) (st := []) dX11_minutes_45 kX1_carry (sX1_carry_at32 (d := d - 1) (by omega) hs1 z2) (by omega) rfl (Nat.le_of_ble_eq_true rfl) ew_559 ew_560 ew_561 (ci := 1) rfl (by decide) (hs1.1 32 (by decide)).1 (hs1.1 32 (by decide)).2.1 ?_
        have hs3 : ShC b0 (wX1_carry_at32 b0 ((ea_i (ea_wi h (b0 + 0) 12 0) (b0 + 0) 11) : Int32) (((ea_i (ea_wi h (b0 + 0) 12 0) (b0 + 0) 11) + x1) : Int32) (ea_wi h (b0 + 0) 12 0)) := shX1_carry_at32 hs1
        refine ea_aload_n (pc := 48) dX11_minutes_48 rfl 0 rfl ?_
        refine ea_dup (pc := 49) dX11_minutes_49 rfl ?_
        refine ea_getI (pc := 50) dX11_minutes_50 ec_11 (k := 11) (Nat.le_of_ble_eq_true rfl) rfl (Or.inl ew_448) (hs3.1 0 (by decide)).1 (hs3.1 0 (by decide)).2.1 ?_
        refine ea_iload_n (pc := 53) dX11_minutes_53 rfl 1 rfl ?_
        refine ea_iadd (pc := 54) dX11_minutes_54 ?_
        refine ea_putI (pc := 55) dX11_minutes_55 ec_11 (k := 11) (Nat.le_of_ble_eq_true rfl) rfl (Or.inl ⟨rfl, Or.inl ew_448⟩) rfl rfl (hs3.1 0 (by decide)).1 (hs3.1 0 (by decide)).2.1 ?_
        have hs4 : ShC b0 (ea_wi (wX1_carry_at32 b0 ((ea_i (ea_wi h (b0 + 0) 12 0) (b0 + 0) 11) : Int32) (((ea_i (ea_wi h (b0 + 0) 12 0) (b0 + 0) 11) + x1) : Int32) (ea_wi h (b0 + 0) 12 0)) (b0 + 0) 11 ((ea_i (wX1_carry_at32 b0 ((ea_i (ea_wi h (b0 + 0) 12 0) (b0 + 0) 11) : Int32) (((ea_i (ea_wi h (b0 + 0) 12 0) (b0 + 0) 11) + x1) : Int32) (ea_wi h (b0 + 0) 12 0)) (b0 + 0) 11) + x1)) := ShC_wi hs3
        refine ea_aload_n (pc := 58) dX11_minutes_58 rfl 0 rfl ?_
        refine ea_getI (pc := 59) dX11_minutes_59 ec_11 (k := 11) (Nat.le_of_ble_eq_true rfl) rfl (Or.inl ew_448) (hs4.1 0 (by decide)).1 (hs4.1 0 (by decide)).2.1 ?_
        exact ea_iretE (pc := 62) dX11_minutes_62 rfl rfl EX EY
      · have EX := EX.trans (if_neg c5)
        have EY := EY.trans (if_neg c5)
        refine ea_iconst (pc := 24) dX11_minutes_24 (v := (-1)) rfl ?_
        exact ea_iretE (pc := 25) dX11_minutes_25 rfl rfl EX EY
noncomputable def vX11_outcome (b0 : Nat) (h : ea_H) : Int32 := (vX1_sumOfMinutes_at42 b0 (wX1_carry_at42 b0 ((ea_i (wX1_copy_at42 b0 ((some (b0 + 32)) : Option Nat) h) (b0 + 0) 11) : Int32) (10079 : Int32) (wX1_copy_at42 b0 ((some (b0 + 32)) : Option Nat) h)))
noncomputable def wX11_outcome (b0 : Nat) (h : ea_H) : ea_H := (wX1_sumOfMinutes_at42 b0 (wX1_carry_at42 b0 ((ea_i (wX1_copy_at42 b0 ((some (b0 + 32)) : Option Nat) h) (b0 + 0) 11) : Int32) (10079 : Int32) (wX1_copy_at42 b0 ((some (b0 + 32)) : Option Nat) h)))
def okX11_outcome (b0 : Nat) (h : ea_H) : Prop := (okX1_copy_at42 b0 ((some (b0 + 32)) : Option Nat) h) ∧ ((okX1_carry_at42 b0 ((ea_i (wX1_copy_at42 b0 ((some (b0 + 32)) : Option Nat) h) (b0 + 0) 11) : Int32) (10079 : Int32) (wX1_copy_at42 b0 ((some (b0 + 32)) : Option Nat) h)) ∧ ((okX1_sumOfMinutes_at42 b0 (wX1_carry_at42 b0 ((ea_i (wX1_copy_at42 b0 ((some (b0 + 32)) : Option Nat) h) (b0 + 0) 11) : Int32) (10079 : Int32) (wX1_copy_at42 b0 ((some (b0 + 32)) : Option Nat) h)))))
theorem shX11_outcome {b0 : Nat} {h : ea_H} (hs : ShC b0 h) : ShC b0 (wX11_outcome b0 h) := (shX1_sumOfMinutes_at42 (shX1_carry_at42 (shX1_copy_at42 hs)))
theorem sX11_outcome {d : Nat} {b0 : Nat} {h : ea_H} (hd : 7 ≤ d) (hs : ShC b0 h) (K : okX11_outcome b0 h) : ea_Met mX11_outcome d [vR (some (b0 + 0))] h (some (vI (vX11_outcome b0 h))) (wX11_outcome b0 h) := by
  obtain ⟨X, EX⟩ : ∃ z, z = vX11_outcome b0 h := ⟨_, rfl⟩
  rw [← EX]
  unfold vX11_outcome at EX
  obtain ⟨Y, EY⟩ : ∃ z, z = wX11_outcome b0 h := ⟨_, rfl⟩
  rw [← EY]
  unfold wX11_outcome at EY
  unfold okX11_outcome at K
  refine ea_enter rfl (Nat.le_of_ble_eq_true rfl) ?_
  refine ea_aload_n (pc := 0) dX11_outcome_0 rfl 0 rfl ?_
  refine ea_getR (pc := 1) dX11_outcome_1 ec_11 (k := 7) (Nat.le_of_ble_eq_true rfl) rfl (Or.inl ew_444) (hs.1 0 (by decide)).1 (hs.1 0 (by decide)).2.1 (hs.2 0 7 rfl) ?_
  refine ea_aload_n (pc := 4) dX11_outcome_4 rfl 0 rfl ?_
  refine ea_getR (pc := 5) dX11_outcome_5 ec_11 (k := 6) (Nat.le_of_ble_eq_true rfl) rfl (Or.inl ew_443) (hs.1 0 (by decide)).1 (hs.1 0 (by decide)).2.1 (hs.2 0 6 rfl) ?_
  obtain ⟨z1, K⟩ := K
  refine ea_callV (pc := 8) (d' := d - 1) (As := [vR (some (b0 + 32))]) (st := []) dX11_outcome_8 kX1_copy (sX1_copy_at42 (d := d - 1) (by omega) hs z1) (by omega) rfl (Nat.le_of_ble_eq_true rfl) ew_1320 ew_1321 ew_1322 (ci := 1) rfl (by decide) (hs.1 42 (by decide)).1 (hs.1 42 (by decide)).2.1 ?_
  have hs2 : ShC b0 (wX1_copy_at42 b0 ((some (b0 + 32)) : Option Nat) h) := shX1_copy_at42 hs
  refine ea_aload_n (pc := 11) dX11_outcome_11 rfl 0 rfl ?_
  refine ea_getR (pc := 12) dX11_outcome_12 ec_11 (k := 7) (Nat.le_of_ble_eq_true rfl) rfl (Or.inl ew_444) (hs2.1 0 (by decide)).1 (hs2.1 0 (by decide)).2.1 (hs2.2 0 7 rfl) ?_
  refine ea_aload_n (pc := 15) dX11_outcome_15 rfl 0 rfl ?_
  refine ea_getI (pc := 16) dX11_outcome_16 ec_11 (k := 11) (Nat.le_of_ble_eq_true rfl) rfl (Or.inl ew_448) (hs2.1 0 (by decide)).1 (hs2.1 0 (by decide)).2.1 ?_
  refine ea_sipush (pc := 19) dX11_outcome_19 (v := 10079) rfl ?_
  obtain ⟨z3, K⟩ := K
  refine ea_callV (pc := 22) (d' := d - 1) (As := [vI (ea_i (wX1_copy_at42 b0 ((some (b0 + 32)) : Option Nat) h) (b0 + 0) 11), vI 10079]) (st := []) dX11_outcome_22 kX1_carry (sX1_carry_at42 (d := d - 1) (by omega) hs2 z3) (by omega) rfl (Nat.le_of_ble_eq_true rfl) ew_559 ew_560 ew_561 (ci := 1) rfl (by decide) (hs2.1 42 (by decide)).1 (hs2.1 42 (by decide)).2.1 ?_
  have hs4 : ShC b0 (wX1_carry_at42 b0 ((ea_i (wX1_copy_at42 b0 ((some (b0 + 32)) : Option Nat) h) (b0 + 0) 11) : Int32) (10079 : Int32) (wX1_copy_at42 b0 ((some (b0 + 32)) : Option Nat) h)) := shX1_carry_at42 hs2
  refine ea_aload_n (pc := 25) dX11_outcome_25 rfl 0 rfl ?_
  refine ea_getR (pc := 26) dX11_outcome_26 ec_11 (k := 7) (Nat.le_of_ble_eq_true rfl) rfl (Or.inl ew_444) (hs4.1 0 (by decide)).1 (hs4.1 0 (by decide)).2.1 (hs4.2 0 7 rfl) ?_
  have z5 := K
  refine ea_callV (pc := 29) (d' := d - 1) (As := []) (st := []) dX11_outcome_29 kX1_sumOfMinutes (sX1_sumOfMinutes_at42 (d := d - 1) (by omega) hs4 z5) (by omega) rfl (Nat.le_of_ble_eq_true rfl) ew_1325 ew_1326 ew_1327 (ci := 1) rfl (by decide) (hs4.1 42 (by decide)).1 (hs4.1 42 (by decide)).2.1 ?_
  have hs6 : ShC b0 (wX1_sumOfMinutes_at42 b0 (wX1_carry_at42 b0 ((ea_i (wX1_copy_at42 b0 ((some (b0 + 32)) : Option Nat) h) (b0 + 0) 11) : Int32) (10079 : Int32) (wX1_copy_at42 b0 ((some (b0 + 32)) : Option Nat) h))) := shX1_sumOfMinutes_at42 hs4
  exact ea_iretE (pc := 32) dX11_outcome_32 rfl rfl EX EY
noncomputable def vX11_whatIf (b0 : Nat) (x1 : Int32) (x2 : Int32) (x3 : Int32) (h : ea_H) : Int32 := (if x1 = ((-1) : Int32) then (vX11_outcome b0 h) else (if (vX11_mayBeTold b0 (x1 : Int32) (x2 : Int32) (x3 : Int32) h) = (0 : Int32) then ((-1) : Int32) else (vX11_outcome b0 (ea_wi (ea_wi h (b0 + 11) (Int32.toNatClampNeg (((10 : Int32) * x2) + x1)) x3) (b0 + 13) 0 0))))
noncomputable def wX11_whatIf (b0 : Nat) (x1 : Int32) (x2 : Int32) (x3 : Int32) (h : ea_H) : ea_H := (if x1 = ((-1) : Int32) then (wX11_outcome b0 h) else (if (vX11_mayBeTold b0 (x1 : Int32) (x2 : Int32) (x3 : Int32) h) = (0 : Int32) then h else (ea_wi (ea_wi (wX11_outcome b0 (ea_wi (ea_wi h (b0 + 11) (Int32.toNatClampNeg (((10 : Int32) * x2) + x1)) x3) (b0 + 13) 0 0)) (b0 + 11) (Int32.toNatClampNeg (((10 : Int32) * x2) + x1)) (ea_i h (b0 + 11) (Int32.toNatClampNeg (((10 : Int32) * x2) + x1)))) (b0 + 13) 0 0)))
def okX11_whatIf (b0 : Nat) (x1 : Int32) (x2 : Int32) (x3 : Int32) (h : ea_H) : Prop := (x1 = ((-1) : Int32) → (okX11_outcome b0 h)) ∧ (¬ x1 = ((-1) : Int32) → (okX11_mayBeTold b0 (x1 : Int32) (x2 : Int32) (x3 : Int32) h) ∧ (((vX11_mayBeTold b0 (x1 : Int32) (x2 : Int32) (x3 : Int32) h) = (0 : Int32) → True) ∧ (¬ (vX11_mayBeTold b0 (x1 : Int32) (x2 : Int32) (x3 : Int32) h) = (0 : Int32) → vp_in (((10 : Int32) * x2) + x1) 70 ∧ (vp_in (((10 : Int32) * x2) + x1) 70 ∧ ((okX11_outcome b0 (ea_wi (ea_wi h (b0 + 11) (Int32.toNatClampNeg (((10 : Int32) * x2) + x1)) x3) (b0 + 13) 0 0)) ∧ (vp_in (((10 : Int32) * x2) + x1) 70))))))
theorem shX11_whatIf {b0 : Nat} {x1 : Int32} {x2 : Int32} {x3 : Int32} {h : ea_H} (hs : ShC b0 h) : ShC b0 (wX11_whatIf b0 x1 x2 x3 h) := (ShC_it (shX11_outcome hs) (ShC_it hs (ShC_wi (ShC_wi (shX11_outcome (ShC_wi (ShC_wi hs)))))))
theorem sX11_whatIf {d : Nat} {b0 : Nat} {x1 : Int32} {x2 : Int32} {x3 : Int32} {h : ea_H} (hd : 8 ≤ d) (hs : ShC b0 h) (K : okX11_whatIf b0 x1 x2 x3 h) : ea_Met mX11_whatIf d [vR (some (b0 + 0)), vI x1, vI x2, vI x3] h (some (vI (vX11_whatIf b0 x1 x2 x3 h))) (wX11_whatIf b0 x1 x2 x3 h) := by
  obtain ⟨X, EX⟩ : ∃ z, z = vX11_whatIf b0 x1 x2 x3 h := ⟨_, rfl⟩
  rw [← EX]
  unfold vX11_whatIf at EX
  obtain ⟨Y, EY⟩ : ∃ z, z = wX11_whatIf b0 x1 x2 x3 h := ⟨_, rfl⟩
  rw [← EY]
  unfold wX11_whatIf at EY
  unfold okX11_whatIf at K
  refine ea_enter rfl (Nat.le_of_ble_eq_true rfl) ?_
  refine ea_iload_n (pc := 0) dX11_whatIf_0 rfl 1 rfl ?_
  refine ea_iconst (pc := 1) dX11_whatIf_1 (v := (-1)) rfl ?_
  refine ea_icmp_ne (pc := 2) (tgt := 10) dX11_whatIf_2 rfl (fun c14 => ?_) (fun c14 => ?_)
  · have EX := EX.trans (if_neg c14)
    have EY := EY.trans (if_neg c14)
    have K := K.2 c14
    refine ea_aload_n (pc := 10) dX11_whatIf_10 rfl 0 rfl ?_
    refine ea_iload_n (pc := 11) dX11_whatIf_11 rfl 1 rfl ?_
    refine ea_iload_n (pc := 12) dX11_whatIf_12 rfl 2 rfl ?_
    refine ea_iload_n (pc := 13) dX11_whatIf_13 rfl 3 rfl ?_
    obtain ⟨z1, K⟩ := K
    refine ea_callV (pc := 14) (d' := d - 1) (As := [vI x1, vI x2, vI x3]) (st := []) dX11_whatIf_14 kX11_mayBeTold (sX11_mayBeTold (d := d - 1) (by omega) hs z1) (by omega) rfl (Nat.le_of_ble_eq_true rfl) ew_538 ew_540 ew_2 (ci := 11) rfl (by decide) (hs.1 0 (by decide)).1 (hs.1 0 (by decide)).2.1 ?_
    refine ea_if_ne (pc := 17) (tgt := 22) dX11_whatIf_17 rfl (fun c11 => ?_) (fun c11 => ?_)
    · have EX := EX.trans (if_neg c11)
      have EY := EY.trans (if_neg c11)
      have K := K.2 c11
      refine ea_bipush (pc := 22) dX11_whatIf_22 (v := 10) rfl ?_
      refine ea_iload_n (pc := 24) dX11_whatIf_24 rfl 2 rfl ?_
      refine ea_imul (pc := 25) dX11_whatIf_25 ?_
      refine ea_iload_n (pc := 26) dX11_whatIf_26 rfl 1 rfl ?_
      refine ea_iadd (pc := 27) dX11_whatIf_27 ?_
      refine ea_istore (pc := 28) (lv' := [(0, vR (some (b0 + 0))), (3, vI x3), (4, vI (((10 : Int32) * x2) + x1))]) dX11_whatIf_28 (Nat.le_of_ble_eq_true rfl) [1, 4, 0] rfl ?_
      refine ea_aload_n (pc := 30) dX11_whatIf_30 rfl 0 rfl ?_
      refine ea_getR (pc := 31) dX11_whatIf_31 ec_11 (k := 1) (Nat.le_of_ble_eq_true rfl) rfl (Or.inl ew_438) (hs.1 0 (by decide)).1 (hs.1 0 (by decide)).2.1 (hs.2 0 1 rfl) ?_
      refine ea_getR (pc := 34) dX11_whatIf_34 ec_9 (k := 6) (Nat.le_of_ble_eq_true rfl) rfl (Or.inl ew_197) (hs.1 5 (by decide)).1 (hs.1 5 (by decide)).2.1 (hs.2 5 6 rfl) ?_
      refine ea_iload (pc := 37) dX11_whatIf_37 2 rfl ?_
      obtain ⟨z2, K⟩ := K
      refine ea_iald (pc := 39) dX11_whatIf_39 (hs.1 11 (by decide)).1 (hs.1 11 (by decide)).2.1 (ea_vpl (hs.1 11 (by decide)).2.2 z2) ?_
      refine ea_istore (pc := 40) (lv' := [(0, vR (some (b0 + 0))), (3, vI x3), (4, vI (((10 : Int32) * x2) + x1)), (5, vI (ea_i h (b0 + 11) (Int32.toNatClampNeg (((10 : Int32) * x2) + x1))))]) dX11_whatIf_40 (Nat.le_of_ble_eq_true rfl) [1, 2, 3, 0] rfl ?_
      refine ea_aload_n (pc := 42) dX11_whatIf_42 rfl 0 rfl ?_
      refine ea_getR (pc := 43) dX11_whatIf_43 ec_11 (k := 1) (Nat.le_of_ble_eq_true rfl) rfl (Or.inl ew_438) (hs.1 0 (by decide)).1 (hs.1 0 (by decide)).2.1 (hs.2 0 1 rfl) ?_
      refine ea_getR (pc := 46) dX11_whatIf_46 ec_9 (k := 6) (Nat.le_of_ble_eq_true rfl) rfl (Or.inl ew_197) (hs.1 5 (by decide)).1 (hs.1 5 (by decide)).2.1 (hs.2 5 6 rfl) ?_
      refine ea_iload (pc := 49) dX11_whatIf_49 2 rfl ?_
      refine ea_iload_n (pc := 51) dX11_whatIf_51 rfl 1 rfl ?_
      obtain ⟨z3, K⟩ := K
      refine ea_iast (pc := 52) dX11_whatIf_52 (hs.1 11 (by decide)).1 (hs.1 11 (by decide)).2.1 (ea_vpl (hs.1 11 (by decide)).2.2 z3) ?_
      have hs4 : ShC b0 (ea_wi h (b0 + 11) (Int32.toNatClampNeg (((10 : Int32) * x2) + x1)) x3) := ShC_wi hs
      refine ea_aload_n (pc := 53) dX11_whatIf_53 rfl 0 rfl ?_
      refine ea_getR (pc := 54) dX11_whatIf_54 ec_11 (k := 2) (Nat.le_of_ble_eq_true rfl) rfl (Or.inl ew_439) (hs4.1 0 (by decide)).1 (hs4.1 0 (by decide)).2.1 (hs4.2 0 2 rfl) ?_
      refine ea_iconst (pc := 57) dX11_whatIf_57 (v := 0) rfl ?_
      refine ea_putI (pc := 58) dX11_whatIf_58 ec_10 (k := 0) (Nat.le_of_ble_eq_true rfl) rfl (Or.inl ⟨rfl, Or.inl ew_226⟩) (ea_bn (Or.inl rfl)) (ea_bf (Or.inl rfl)) (hs4.1 13 (by decide)).1 (hs4.1 13 (by decide)).2.1 ?_
      have hs5 : ShC b0 (ea_wi (ea_wi h (b0 + 11) (Int32.toNatClampNeg (((10 : Int32) * x2) + x1)) x3) (b0 + 13) 0 0) := ShC_wi hs4
      refine ea_aload_n (pc := 61) dX11_whatIf_61 rfl 0 rfl ?_
      obtain ⟨z6, K⟩ := K
      refine ea_callV (pc := 62) (d' := d - 1) (As := []) (st := []) dX11_whatIf_62 kX11_outcome (sX11_outcome (d := d - 1) (by omega) hs5 z6) (by omega) rfl (Nat.le_of_ble_eq_true rfl) ew_1316 ew_1318 ew_45 (ci := 11) rfl (by decide) (hs5.1 0 (by decide)).1 (hs5.1 0 (by decide)).2.1 ?_
      have hs7 : ShC b0 (wX11_outcome b0 (ea_wi (ea_wi h (b0 + 11) (Int32.toNatClampNeg (((10 : Int32) * x2) + x1)) x3) (b0 + 13) 0 0)) := shX11_outcome hs5
      refine ea_istore (pc := 65) (lv' := [(0, vR (some (b0 + 0))), (4, vI (((10 : Int32) * x2) + x1)), (5, vI (ea_i h (b0 + 11) (Int32.toNatClampNeg (((10 : Int32) * x2) + x1)))), (6, vI (vX11_outcome b0 (ea_wi (ea_wi h (b0 + 11) (Int32.toNatClampNeg (((10 : Int32) * x2) + x1)) x3) (b0 + 13) 0 0)))]) dX11_whatIf_65 (Nat.le_of_ble_eq_true rfl) [1, 3, 4, 0] rfl ?_
      refine ea_aload_n (pc := 67) dX11_whatIf_67 rfl 0 rfl ?_
      refine ea_getR (pc := 68) dX11_whatIf_68 ec_11 (k := 1) (Nat.le_of_ble_eq_true rfl) rfl (Or.inl ew_438) (hs7.1 0 (by decide)).1 (hs7.1 0 (by decide)).2.1 (hs7.2 0 1 rfl) ?_
      refine ea_getR (pc := 71) dX11_whatIf_71 ec_9 (k := 6) (Nat.le_of_ble_eq_true rfl) rfl (Or.inl ew_197) (hs7.1 5 (by decide)).1 (hs7.1 5 (by decide)).2.1 (hs7.2 5 6 rfl) ?_
      refine ea_iload (pc := 74) dX11_whatIf_74 1 rfl ?_
      refine ea_iload (pc := 76) dX11_whatIf_76 2 rfl ?_
      have z8 := K
      refine ea_iast (pc := 78) dX11_whatIf_78 (hs7.1 11 (by decide)).1 (hs7.1 11 (by decide)).2.1 (ea_vpl (hs7.1 11 (by decide)).2.2 z8) ?_
      have hs9 : ShC b0 (ea_wi (wX11_outcome b0 (ea_wi (ea_wi h (b0 + 11) (Int32.toNatClampNeg (((10 : Int32) * x2) + x1)) x3) (b0 + 13) 0 0)) (b0 + 11) (Int32.toNatClampNeg (((10 : Int32) * x2) + x1)) (ea_i h (b0 + 11) (Int32.toNatClampNeg (((10 : Int32) * x2) + x1)))) := ShC_wi hs7
      refine ea_aload_n (pc := 79) dX11_whatIf_79 rfl 0 rfl ?_
      refine ea_getR (pc := 80) dX11_whatIf_80 ec_11 (k := 2) (Nat.le_of_ble_eq_true rfl) rfl (Or.inl ew_439) (hs9.1 0 (by decide)).1 (hs9.1 0 (by decide)).2.1 (hs9.2 0 2 rfl) ?_
      refine ea_iconst (pc := 83) dX11_whatIf_83 (v := 0) rfl ?_
      refine ea_putI (pc := 84) dX11_whatIf_84 ec_10 (k := 0) (Nat.le_of_ble_eq_true rfl) rfl (Or.inl ⟨rfl, Or.inl ew_226⟩) (ea_bn (Or.inl rfl)) (ea_bf (Or.inl rfl)) (hs9.1 13 (by decide)).1 (hs9.1 13 (by decide)).2.1 ?_
      have hs10 : ShC b0 (ea_wi (ea_wi (wX11_outcome b0 (ea_wi (ea_wi h (b0 + 11) (Int32.toNatClampNeg (((10 : Int32) * x2) + x1)) x3) (b0 + 13) 0 0)) (b0 + 11) (Int32.toNatClampNeg (((10 : Int32) * x2) + x1)) (ea_i h (b0 + 11) (Int32.toNatClampNeg (((10 : Int32) * x2) + x1)))) (b0 + 13) 0 0) := ShC_wi hs9
      refine ea_iload (pc := 87) dX11_whatIf_87 3 rfl ?_
      exact ea_iretE (pc := 89) dX11_whatIf_89 rfl rfl EX EY
    · have EX := EX.trans (if_pos c11)
      have EY := EY.trans (if_pos c11)
      refine ea_iconst (pc := 20) dX11_whatIf_20 (v := (-1)) rfl ?_
      exact ea_iretE (pc := 21) dX11_whatIf_21 rfl rfl EX EY
  · have EX := EX.trans (if_pos c14)
    have EY := EY.trans (if_pos c14)
    have K := K.1 c14
    refine ea_aload_n (pc := 5) dX11_whatIf_5 rfl 0 rfl ?_
    have z12 := K
    refine ea_callV (pc := 6) (d' := d - 1) (As := []) (st := []) dX11_whatIf_6 kX11_outcome (sX11_outcome (d := d - 1) (by omega) hs z12) (by omega) rfl (Nat.le_of_ble_eq_true rfl) ew_1316 ew_1318 ew_45 (ci := 11) rfl (by decide) (hs.1 0 (by decide)).1 (hs.1 0 (by decide)).2.1 ?_
    have hs13 : ShC b0 (wX11_outcome b0 h) := shX11_outcome hs
    exact ea_iretE (pc := 9) dX11_whatIf_9 rfl rfl EX EY
noncomputable def gX11_post (b0 : Nat) : Nat → Nat → Int32 → Int32 → Int32 → Int32 → Int32 → Int32 → ea_H → Option (Int32 × ea_H)
  | 0, _, _, _, _, _, _, _, _ => none
  | f + 1, lbl, x1, x2, x3, x4, x5, x6, h =>
    (if x1 < (0 : Int32) then (some (((-1) : Int32), h)) else (if (4 : Int32) < x1 then (some (((-1) : Int32), h)) else (if (vX6_has b0 (x2 : Int32) h) = (0 : Int32) then (some (((-1) : Int32), h)) else (if (vX6_has b0 (x3 : Int32) h) = (0 : Int32) then (some (((-1) : Int32), h)) else (if x2 = x3 then (some (((-1) : Int32), h)) else (if x4 < (1 : Int32) then (some (((-1) : Int32), h)) else (if (9 : Int32) < x4 then (some (((-1) : Int32), h)) else (if x5 < (0 : Int32) then (some (((-1) : Int32), h)) else (if (99 : Int32) < x5 then (some (((-1) : Int32), h)) else (if x6 < (0 : Int32) then (some (((-1) : Int32), h)) else (if x6 ≤ (9 : Int32) then (if (ea_i h (b0 + 32) 0) < (120 : Int32) then (ea_let (ea_new h 4 0 20) fun H4 => (gd ((okX4_init b0 (ea_n h) (x1 : Int32) (x2 : Int32) (x3 : Int32) (x4 : Int32) (x5 : Int32) (x6 : Int32) H4)) (ea_let (wX4_init b0 (ea_n h) (x1 : Int32) (x2 : Int32) (x3 : Int32) (x4 : Int32) (x5 : Int32) (x6 : Int32) H4) fun H7 => (gd (((ea_n h) < ea_n H7 ∧ ea_c H7 (ea_n h) = 4)) (ea_let (ea_wi H7 (ea_n h) 6 (ea_i H7 (b0 + 0) 11)) fun H10 => (gd ((okX6_between b0 (x2 : Int32) (x3 : Int32) H10)) (gd (((ea_n h) < ea_n H10 ∧ ea_c H10 (ea_n h) = 4)) (ea_let (ea_wi H10 (ea_n h) 7 (if (vX6_between b0 (x2 : Int32) (x3 : Int32) H10) < (0 : Int32) then (0 : Int32) else (vX6_between b0 (x2 : Int32) (x3 : Int32) H10))) fun H14 => (gd ((okX6_isCross b0 (x2 : Int32) (x3 : Int32) H14)) (gd (((ea_n h) < ea_n H14 ∧ ea_c H14 (ea_n h) = 4)) (gd (((vX6_isCross b0 (x2 : Int32) (x3 : Int32) H14) = 0 ∨ (vX6_isCross b0 (x2 : Int32) (x3 : Int32) H14) = 1)) (ea_let (ea_wi H14 (ea_n h) 8 (vX6_isCross b0 (x2 : Int32) (x3 : Int32) H14)) fun H19 => (gd ((okX11_franksAhead b0 ((some (ea_n h)) : Option Nat) H19)) (ea_let (wX11_franksAhead b0 ((some (ea_n h)) : Option Nat) H19) fun H22 => (gd (((ea_n h) < ea_n H22 ∧ ea_c H22 (ea_n h) = 4)) (ea_let (ea_wi H22 (ea_n h) 9 (vX11_franksAhead b0 ((some (ea_n h)) : Option Nat) H19)) fun H25 => (gd (vp_in (ea_i H19 (b0 + 32) 0) 120) (gd (((ea_n h) < ea_n H25 ∧ ea_c H25 (ea_n h) = 4)) (ea_let (ea_wr H25 (b0 + 31) (Int32.toNatClampNeg (ea_i H19 (b0 + 32) 0)) (some (ea_n h))) fun H29 => (gd ((okX8_price b0 ((some (ea_n h)) : Option Nat) H29)) (ea_let (wX8_price b0 ((some (ea_n h)) : Option Nat) H29) fun H32 => (gd ((okX1_begin_at32 b0 ((ea_i H32 (b0 + 0) 11) : Int32) (x2 : Int32) H32)) (ea_let (wX1_begin_at32 b0 ((ea_i H32 (b0 + 0) 11) : Int32) (x2 : Int32) H32) fun H35 => (ea_let (ea_wi H35 (b0 + 0) 12 0) fun H37 => (some ((ea_i H19 (b0 + 32) 0), H37)))))))))))))))))))))))))) else (some (((-1) : Int32), h))) else (some (((-1) : Int32), h)))))))))))))
theorem tX11_post {d : Nat} {b0 : Nat} {h0 : ea_H} (hd : 6 ≤ d) : ∀ (f lbl : Nat) (x1 : Int32) (x2 : Int32) (x3 : Int32) (x4 : Int32) (x5 : Int32) (x6 : Int32) (h : ea_H) (r : Int32) (h' : ea_H), gX11_post b0 f lbl x1 x2 x3 x4 x5 x6 h = some (r, h') → ShC b0 h → (lbl = 0 → ea_W mX11_post d h0 (some (vI r)) h' 0 [(0, vR (some (b0 + 0))), (1, vI x1), (2, vI x2), (3, vI x3), (4, vI x4), (5, vI x5), (6, vI x6)] [] h) := by
  intro f
  induction f with
  | zero => intro lbl x1 x2 x3 x4 x5 x6 h r h' E; cases E
  | succ f ih =>
    intro lbl x1 x2 x3 x4 x5 x6 h r h' E hs
    unfold gX11_post at E
    intro el
    subst el
    refine ea_iload_n (pc := 0) dX11_post_0 rfl 1 rfl ?_
    refine ea_if_lt (pc := 1) (tgt := 36) dX11_post_1 rfl (fun c49 => ?_) (fun c49 => ?_)
    · have E := (if_pos c49).symm.trans E
      refine ea_iconst (pc := 36) dX11_post_36 (v := (-1)) rfl ?_
      exact ea_iretO (pc := 37) dX11_post_37 rfl rfl E
    · have E := (if_neg c49).symm.trans E
      refine ea_iload_n (pc := 4) dX11_post_4 rfl 1 rfl ?_
      refine ea_iconst (pc := 5) dX11_post_5 (v := 4) rfl ?_
      refine ea_icmp_gt (pc := 6) (tgt := 36) dX11_post_6 rfl (fun c48 => ?_) (fun c48 => ?_)
      · have E := (if_pos c48).symm.trans E
        refine ea_iconst (pc := 36) dX11_post_36 (v := (-1)) rfl ?_
        exact ea_iretO (pc := 37) dX11_post_37 rfl rfl E
      · have E := (if_neg c48).symm.trans E
        refine ea_aload_n (pc := 9) dX11_post_9 rfl 0 rfl ?_
        refine ea_getR (pc := 10) dX11_post_10 ec_11 (k := 0) (Nat.le_of_ble_eq_true rfl) rfl (Or.inl ew_437) (hs.1 0 (by decide)).1 (hs.1 0 (by decide)).2.1 (hs.2 0 0 rfl) ?_
        refine ea_iload_n (pc := 13) dX11_post_13 rfl 2 rfl ?_
        refine ea_callV (pc := 14) (d' := d - 1) (As := [vI x2]) (st := []) dX11_post_14 kX6_has (sX6_has (d := d - 1) (by omega) hs) (by omega) rfl (Nat.le_of_ble_eq_true rfl) ew_494 ew_495 ew_496 (ci := 6) rfl (by decide) (hs.1 1 (by decide)).1 (hs.1 1 (by decide)).2.1 ?_
        refine ea_if_eq (pc := 17) (tgt := 36) dX11_post_17 rfl (fun c47 => ?_) (fun c47 => ?_)
        · have E := (if_pos c47).symm.trans E
          refine ea_iconst (pc := 36) dX11_post_36 (v := (-1)) rfl ?_
          exact ea_iretO (pc := 37) dX11_post_37 rfl rfl E
        · have E := (if_neg c47).symm.trans E
          refine ea_aload_n (pc := 20) dX11_post_20 rfl 0 rfl ?_
          refine ea_getR (pc := 21) dX11_post_21 ec_11 (k := 0) (Nat.le_of_ble_eq_true rfl) rfl (Or.inl ew_437) (hs.1 0 (by decide)).1 (hs.1 0 (by decide)).2.1 (hs.2 0 0 rfl) ?_
          refine ea_iload_n (pc := 24) dX11_post_24 rfl 3 rfl ?_
          refine ea_callV (pc := 25) (d' := d - 1) (As := [vI x3]) (st := []) dX11_post_25 kX6_has (sX6_has (d := d - 1) (by omega) hs) (by omega) rfl (Nat.le_of_ble_eq_true rfl) ew_494 ew_495 ew_496 (ci := 6) rfl (by decide) (hs.1 1 (by decide)).1 (hs.1 1 (by decide)).2.1 ?_
          refine ea_if_eq (pc := 28) (tgt := 36) dX11_post_28 rfl (fun c46 => ?_) (fun c46 => ?_)
          · have E := (if_pos c46).symm.trans E
            refine ea_iconst (pc := 36) dX11_post_36 (v := (-1)) rfl ?_
            exact ea_iretO (pc := 37) dX11_post_37 rfl rfl E
          · have E := (if_neg c46).symm.trans E
            refine ea_iload_n (pc := 31) dX11_post_31 rfl 2 rfl ?_
            refine ea_iload_n (pc := 32) dX11_post_32 rfl 3 rfl ?_
            refine ea_icmp_ne (pc := 33) (tgt := 38) dX11_post_33 rfl (fun c45 => ?_) (fun c45 => ?_)
            · have E := (if_neg c45).symm.trans E
              refine ea_iload (pc := 38) dX11_post_38 4 rfl ?_
              refine ea_iconst (pc := 40) dX11_post_40 (v := 1) rfl ?_
              refine ea_icmp_lt (pc := 41) (tgt := 75) dX11_post_41 rfl (fun c44 => ?_) (fun c44 => ?_)
              · have E := (if_pos c44).symm.trans E
                refine ea_iconst (pc := 75) dX11_post_75 (v := (-1)) rfl ?_
                exact ea_iretO (pc := 76) dX11_post_76 rfl rfl E
              · have E := (if_neg c44).symm.trans E
                refine ea_iload (pc := 44) dX11_post_44 4 rfl ?_
                refine ea_bipush (pc := 46) dX11_post_46 (v := 9) rfl ?_
                refine ea_icmp_gt (pc := 48) (tgt := 75) dX11_post_48 rfl (fun c43 => ?_) (fun c43 => ?_)
                · have E := (if_pos c43).symm.trans E
                  refine ea_iconst (pc := 75) dX11_post_75 (v := (-1)) rfl ?_
                  exact ea_iretO (pc := 76) dX11_post_76 rfl rfl E
                · have E := (if_neg c43).symm.trans E
                  refine ea_iload (pc := 51) dX11_post_51 5 rfl ?_
                  refine ea_if_lt (pc := 53) (tgt := 75) dX11_post_53 rfl (fun c42 => ?_) (fun c42 => ?_)
                  · have E := (if_pos c42).symm.trans E
                    refine ea_iconst (pc := 75) dX11_post_75 (v := (-1)) rfl ?_
                    exact ea_iretO (pc := 76) dX11_post_76 rfl rfl E
                  · have E := (if_neg c42).symm.trans E
                    refine ea_iload (pc := 56) dX11_post_56 5 rfl ?_
                    refine ea_bipush (pc := 58) dX11_post_58 (v := 99) rfl ?_
                    refine ea_icmp_gt (pc := 60) (tgt := 75) dX11_post_60 rfl (fun c41 => ?_) (fun c41 => ?_)
                    · have E := (if_pos c41).symm.trans E
                      refine ea_iconst (pc := 75) dX11_post_75 (v := (-1)) rfl ?_
                      exact ea_iretO (pc := 76) dX11_post_76 rfl rfl E
                    · have E := (if_neg c41).symm.trans E
                      refine ea_iload (pc := 63) dX11_post_63 6 rfl ?_
                      refine ea_if_lt (pc := 65) (tgt := 75) dX11_post_65 rfl (fun c40 => ?_) (fun c40 => ?_)
                      · have E := (if_pos c40).symm.trans E
                        refine ea_iconst (pc := 75) dX11_post_75 (v := (-1)) rfl ?_
                        exact ea_iretO (pc := 76) dX11_post_76 rfl rfl E
                      · have E := (if_neg c40).symm.trans E
                        refine ea_iload (pc := 68) dX11_post_68 6 rfl ?_
                        refine ea_bipush (pc := 70) dX11_post_70 (v := 9) rfl ?_
                        refine ea_icmp_le (pc := 72) (tgt := 77) dX11_post_72 rfl (fun c39 => ?_) (fun c39 => ?_)
                        · have E := (if_pos c39).symm.trans E
                          refine ea_aload_n (pc := 77) dX11_post_77 rfl 0 rfl ?_
                          refine ea_getR (pc := 78) dX11_post_78 ec_11 (k := 6) (Nat.le_of_ble_eq_true rfl) rfl (Or.inl ew_443) (hs.1 0 (by decide)).1 (hs.1 0 (by decide)).2.1 (hs.2 0 6 rfl) ?_
                          refine ea_getI (pc := 81) dX11_post_81 ec_1 (k := 0) (Nat.le_of_ble_eq_true rfl) rfl (Or.inl ew_360) (hs.1 32 (by decide)).1 (hs.1 32 (by decide)).2.1 ?_
                          refine ea_bipush (pc := 84) dX11_post_84 (v := 120) rfl ?_
                          refine ea_icmp_lt (pc := 86) (tgt := 91) dX11_post_86 rfl (fun c38 => ?_) (fun c38 => ?_)
                          · have E := (if_pos c38).symm.trans E
                            refine ea_newO (pc := 91) dX11_post_91 ec_4 ew_351 ew_928 ew_126 ?_
                            have hs3 : ShC b0 (ea_new h 4 0 20) := ShC_new hs
                            obtain ⟨H4, eH4, E⟩ := let_some E
                            refine ea_nm eH4 ?_
                            have hsH4 : ShC b0 H4 := by rw [eH4]; exact hs3
                            refine ea_dup (pc := 94) dX11_post_94 rfl ?_
                            refine ea_iload_n (pc := 95) dX11_post_95 rfl 1 rfl ?_
                            refine ea_iload_n (pc := 96) dX11_post_96 rfl 2 rfl ?_
                            refine ea_iload_n (pc := 97) dX11_post_97 rfl 3 rfl ?_
                            refine ea_iload (pc := 98) dX11_post_98 4 rfl ?_
                            refine ea_iload (pc := 100) dX11_post_100 5 rfl ?_
                            refine ea_iload (pc := 102) dX11_post_102 6 rfl ?_
                            obtain ⟨z5, E⟩ := gd_some E
                            refine ea_callI (pc := 104) (d' := d - 1) (As := [vI x1, vI x2, vI x3, vI x4, vI x5, vI x6]) (st := [vR (some (ea_n h))]) dX11_post_104 kX4_init (sX4_init (d := d - 1) (by omega) hsH4 z5) (by omega) rfl (Nat.le_of_ble_eq_true rfl) ew_929 ew_930 rfl rfl ?_
                            have hs6 : ShC b0 (wX4_init b0 (ea_n h) (x1 : Int32) (x2 : Int32) (x3 : Int32) (x4 : Int32) (x5 : Int32) (x6 : Int32) H4) := shX4_init hsH4
                            obtain ⟨H7, eH7, E⟩ := let_some E
                            refine ea_nm eH7 ?_
                            have hsH7 : ShC b0 H7 := by rw [eH7]; exact hs6
                            refine ea_astore (pc := 107) (lv' := [(0, vR (some (b0 + 0))), (2, vI x2), (3, vI x3), (7, vR (some (ea_n h)))]) dX11_post_107 (Nat.le_of_ble_eq_true rfl) [1, 3, 4, 0] rfl ?_
                            refine ea_aload (pc := 109) dX11_post_109 3 rfl ?_
                            refine ea_aload_n (pc := 111) dX11_post_111 rfl 0 rfl ?_
                            refine ea_getI (pc := 112) dX11_post_112 ec_11 (k := 11) (Nat.le_of_ble_eq_true rfl) rfl (Or.inl ew_448) (hsH7.1 0 (by decide)).1 (hsH7.1 0 (by decide)).2.1 ?_
                            obtain ⟨f8, E⟩ := gd_some E
                            refine ea_putI (pc := 115) dX11_post_115 ec_4 (k := 6) (Nat.le_of_ble_eq_true rfl) rfl (Or.inl ⟨rfl, Or.inl ew_951⟩) rfl rfl f8.1 f8.2 ?_
                            have hs9 : ShC b0 (ea_wi H7 (ea_n h) 6 (ea_i H7 (b0 + 0) 11)) := ShC_wi hsH7
                            obtain ⟨H10, eH10, E⟩ := let_some E
                            refine ea_nm eH10 ?_
                            have hsH10 : ShC b0 H10 := by rw [eH10]; exact hs9
                            refine ea_aload (pc := 118) dX11_post_118 3 rfl ?_
                            refine ea_aload_n (pc := 120) dX11_post_120 rfl 0 rfl ?_
                            refine ea_getR (pc := 121) dX11_post_121 ec_11 (k := 0) (Nat.le_of_ble_eq_true rfl) rfl (Or.inl ew_437) (hsH10.1 0 (by decide)).1 (hsH10.1 0 (by decide)).2.1 (hsH10.2 0 0 rfl) ?_
                            refine ea_iload_n (pc := 124) dX11_post_124 rfl 1 rfl ?_
                            refine ea_iload_n (pc := 125) dX11_post_125 rfl 2 rfl ?_
                            obtain ⟨z11, E⟩ := gd_some E
                            refine ea_callV (pc := 126) (d' := d - 1) (As := [vI x2, vI x3]) (st := [vR (some (ea_n h))]) dX11_post_126 kX6_between (sX6_between (d := d - 1) (by omega) hsH10 z11) (by omega) rfl (Nat.le_of_ble_eq_true rfl) ew_506 ew_507 ew_508 (ci := 6) rfl (by decide) (hsH10.1 1 (by decide)).1 (hsH10.1 1 (by decide)).2.1 ?_
                            refine ea_iconst (pc := 129) dX11_post_129 (v := 0) rfl ?_
                            refine ea_mmaxI (pc := 130) dX11_post_130 ew_1021 ew_1022 ew_112 ew_1023 (by omega) (Nat.le_of_ble_eq_true rfl) ?_
                            obtain ⟨f12, E⟩ := gd_some E
                            refine ea_putI (pc := 133) dX11_post_133 ec_4 (k := 7) (Nat.le_of_ble_eq_true rfl) rfl (Or.inl ⟨rfl, Or.inl ew_953⟩) rfl rfl f12.1 f12.2 ?_
                            have hs13 : ShC b0 (ea_wi H10 (ea_n h) 7 (if (vX6_between b0 (x2 : Int32) (x3 : Int32) H10) < (0 : Int32) then (0 : Int32) else (vX6_between b0 (x2 : Int32) (x3 : Int32) H10))) := ShC_wi hsH10
                            obtain ⟨H14, eH14, E⟩ := let_some E
                            refine ea_nm eH14 ?_
                            have hsH14 : ShC b0 H14 := by rw [eH14]; exact hs13
                            refine ea_aload (pc := 136) dX11_post_136 3 rfl ?_
                            refine ea_aload_n (pc := 138) dX11_post_138 rfl 0 rfl ?_
                            refine ea_getR (pc := 139) dX11_post_139 ec_11 (k := 0) (Nat.le_of_ble_eq_true rfl) rfl (Or.inl ew_437) (hsH14.1 0 (by decide)).1 (hsH14.1 0 (by decide)).2.1 (hsH14.2 0 0 rfl) ?_
                            refine ea_iload_n (pc := 142) dX11_post_142 rfl 1 rfl ?_
                            refine ea_iload_n (pc := 143) dX11_post_143 rfl 2 rfl ?_
                            obtain ⟨z15, E⟩ := gd_some E
                            refine ea_callV (pc := 144) (d' := d - 1) (As := [vI x2, vI x3]) (st := [vR (some (ea_n h))]) dX11_post_144 kX6_isCross (sX6_isCross (d := d - 1) (by omega) hsH14 z15) (by omega) rfl (Nat.le_of_ble_eq_true rfl) ew_1024 ew_1025 ew_1026 (ci := 6) rfl (by decide) (hsH14.1 1 (by decide)).1 (hsH14.1 1 (by decide)).2.1 ?_
                            obtain ⟨f16, E⟩ := gd_some E
                            obtain ⟨z18, E⟩ := gd_some E
                            refine ea_putI (pc := 147) dX11_post_147 ec_4 (k := 8) (Nat.le_of_ble_eq_true rfl) rfl (Or.inl ⟨rfl, Or.inl ew_955⟩) (ea_bn z18) (ea_bf z18) f16.1 f16.2 ?_
                            have hs17 : ShC b0 (ea_wi H14 (ea_n h) 8 (vX6_isCross b0 (x2 : Int32) (x3 : Int32) H14)) := ShC_wi hsH14
                            obtain ⟨H19, eH19, E⟩ := let_some E
                            refine ea_nm eH19 ?_
                            have hsH19 : ShC b0 H19 := by rw [eH19]; exact hs17
                            refine ea_aload_n (pc := 150) dX11_post_150 rfl 0 rfl ?_
                            refine ea_getR (pc := 151) dX11_post_151 ec_11 (k := 6) (Nat.le_of_ble_eq_true rfl) rfl (Or.inl ew_443) (hsH19.1 0 (by decide)).1 (hsH19.1 0 (by decide)).2.1 (hsH19.2 0 6 rfl) ?_
                            refine ea_getI (pc := 154) dX11_post_154 ec_1 (k := 0) (Nat.le_of_ble_eq_true rfl) rfl (Or.inl ew_360) (hsH19.1 32 (by decide)).1 (hsH19.1 32 (by decide)).2.1 ?_
                            refine ea_istore (pc := 157) (lv' := [(0, vR (some (b0 + 0))), (2, vI x2), (7, vR (some (ea_n h))), (8, vI (ea_i H19 (b0 + 32) 0))]) dX11_post_157 (Nat.le_of_ble_eq_true rfl) [1, 2, 4, 0] rfl ?_
                            refine ea_aload (pc := 159) dX11_post_159 2 rfl ?_
                            refine ea_aload_n (pc := 161) dX11_post_161 rfl 0 rfl ?_
                            refine ea_aload (pc := 162) dX11_post_162 2 rfl ?_
                            obtain ⟨z20, E⟩ := gd_some E
                            refine ea_callV (pc := 164) (d' := d - 1) (As := [vR (some (ea_n h))]) (st := [vR (some (ea_n h))]) dX11_post_164 kX11_franksAhead (sX11_franksAhead (d := d - 1) (by omega) hsH19 z20) (by omega) rfl (Nat.le_of_ble_eq_true rfl) ew_1028 ew_1030 ew_33 (ci := 11) rfl (by decide) (hsH19.1 0 (by decide)).1 (hsH19.1 0 (by decide)).2.1 ?_
                            have hs21 : ShC b0 (wX11_franksAhead b0 ((some (ea_n h)) : Option Nat) H19) := shX11_franksAhead hsH19
                            obtain ⟨H22, eH22, E⟩ := let_some E
                            refine ea_nm eH22 ?_
                            have hsH22 : ShC b0 H22 := by rw [eH22]; exact hs21
                            obtain ⟨f23, E⟩ := gd_some E
                            refine ea_putI (pc := 167) dX11_post_167 ec_4 (k := 9) (Nat.le_of_ble_eq_true rfl) rfl (Or.inl ⟨rfl, Or.inl ew_957⟩) rfl rfl f23.1 f23.2 ?_
                            have hs24 : ShC b0 (ea_wi H22 (ea_n h) 9 (vX11_franksAhead b0 ((some (ea_n h)) : Option Nat) H19)) := ShC_wi hsH22
                            obtain ⟨H25, eH25, E⟩ := let_some E
                            refine ea_nm eH25 ?_
                            have hsH25 : ShC b0 H25 := by rw [eH25]; exact hs24
                            refine ea_aload_n (pc := 170) dX11_post_170 rfl 0 rfl ?_
                            refine ea_getR (pc := 171) dX11_post_171 ec_11 (k := 5) (Nat.le_of_ble_eq_true rfl) rfl (Or.inl ew_442) (hsH25.1 0 (by decide)).1 (hsH25.1 0 (by decide)).2.1 (hsH25.2 0 5 rfl) ?_
                            refine ea_iload (pc := 174) dX11_post_174 3 rfl ?_
                            refine ea_aload (pc := 176) dX11_post_176 2 rfl ?_
                            obtain ⟨z26, E⟩ := gd_some E
                            obtain ⟨f28, E⟩ := gd_some E
                            refine ea_aast23 (pc := 178) dX11_post_178 (hsH25.1 31 (by decide)).1 (hsH25.1 31 (by decide)).2.1 (ea_vpl (hsH25.1 31 (by decide)).2.2 z26) f28.1 f28.2 ?_
                            have hs27 : ShC b0 (ea_wr H25 (b0 + 31) (Int32.toNatClampNeg (ea_i H19 (b0 + 32) 0)) (some (ea_n h))) := ShC_wr (o := 31) rfl hsH25
                            obtain ⟨H29, eH29, E⟩ := let_some E
                            refine ea_nm eH29 ?_
                            have hsH29 : ShC b0 H29 := by rw [eH29]; exact hs27
                            refine ea_aload_n (pc := 179) dX11_post_179 rfl 0 rfl ?_
                            refine ea_getR (pc := 180) dX11_post_180 ec_11 (k := 4) (Nat.le_of_ble_eq_true rfl) rfl (Or.inl ew_441) (hsH29.1 0 (by decide)).1 (hsH29.1 0 (by decide)).2.1 (hsH29.2 0 4 rfl) ?_
                            refine ea_aload (pc := 183) dX11_post_183 2 rfl ?_
                            obtain ⟨z30, E⟩ := gd_some E
                            refine ea_callV (pc := 185) (d' := d - 1) (As := [vR (some (ea_n h))]) (st := []) dX11_post_185 kX8_price (sX8_price (d := d - 1) (by omega) hsH29 z30) (by omega) rfl (Nat.le_of_ble_eq_true rfl) ew_1036 ew_1037 ew_1038 (ci := 8) rfl (by decide) (hsH29.1 21 (by decide)).1 (hsH29.1 21 (by decide)).2.1 ?_
                            have hs31 : ShC b0 (wX8_price b0 ((some (ea_n h)) : Option Nat) H29) := shX8_price hsH29
                            obtain ⟨H32, eH32, E⟩ := let_some E
                            refine ea_nm eH32 ?_
                            have hsH32 : ShC b0 H32 := by rw [eH32]; exact hs31
                            refine ea_aload_n (pc := 188) dX11_post_188 rfl 0 rfl ?_
                            refine ea_getR (pc := 189) dX11_post_189 ec_11 (k := 6) (Nat.le_of_ble_eq_true rfl) rfl (Or.inl ew_443) (hsH32.1 0 (by decide)).1 (hsH32.1 0 (by decide)).2.1 (hsH32.2 0 6 rfl) ?_
                            refine ea_aload_n (pc := 192) dX11_post_192 rfl 0 rfl ?_
                            refine ea_getI (pc := 193) dX11_post_193 ec_11 (k := 11) (Nat.le_of_ble_eq_true rfl) rfl (Or.inl ew_448) (hsH32.1 0 (by decide)).1 (hsH32.1 0 (by decide)).2.1 ?_
                            refine ea_iload_n (pc := 196) dX11_post_196 rfl 1 rfl ?_
                            obtain ⟨z33, E⟩ := gd_some E
                            refine ea_callV (pc := 197) (d' := d - 1) (As := [vI (ea_i H32 (b0 + 0) 11), vI x2]) (st := []) dX11_post_197 kX1_begin (sX1_begin_at32 (d := d - 1) (by omega) hsH32 z33) (by omega) rfl (Nat.le_of_ble_eq_true rfl) ew_1068 ew_1069 ew_1070 (ci := 1) rfl (by decide) (hsH32.1 32 (by decide)).1 (hsH32.1 32 (by decide)).2.1 ?_
                            have hs34 : ShC b0 (wX1_begin_at32 b0 ((ea_i H32 (b0 + 0) 11) : Int32) (x2 : Int32) H32) := shX1_begin_at32 hsH32
                            obtain ⟨H35, eH35, E⟩ := let_some E
                            refine ea_nm eH35 ?_
                            have hsH35 : ShC b0 H35 := by rw [eH35]; exact hs34
                            refine ea_aload_n (pc := 200) dX11_post_200 rfl 0 rfl ?_
                            refine ea_iconst (pc := 201) dX11_post_201 (v := 0) rfl ?_
                            refine ea_putI (pc := 202) dX11_post_202 ec_11 (k := 12) (Nat.le_of_ble_eq_true rfl) rfl (Or.inl ⟨rfl, Or.inl ew_449⟩) (ea_bn (Or.inl rfl)) (ea_bf (Or.inl rfl)) (hsH35.1 0 (by decide)).1 (hsH35.1 0 (by decide)).2.1 ?_
                            have hs36 : ShC b0 (ea_wi H35 (b0 + 0) 12 0) := ShC_wi hsH35
                            obtain ⟨H37, eH37, E⟩ := let_some E
                            refine ea_nm eH37 ?_
                            have hsH37 : ShC b0 H37 := by rw [eH37]; exact hs36
                            refine ea_iload (pc := 205) dX11_post_205 3 rfl ?_
                            exact ea_iretO (pc := 207) dX11_post_207 rfl rfl E
                          · have E := (if_neg c38).symm.trans E
                            refine ea_iconst (pc := 89) dX11_post_89 (v := (-1)) rfl ?_
                            exact ea_iretO (pc := 90) dX11_post_90 rfl rfl E
                        · have E := (if_neg c39).symm.trans E
                          refine ea_iconst (pc := 75) dX11_post_75 (v := (-1)) rfl ?_
                          exact ea_iretO (pc := 76) dX11_post_76 rfl rfl E
            · have E := (if_pos c45).symm.trans E
              refine ea_iconst (pc := 36) dX11_post_36 (v := (-1)) rfl ?_
              exact ea_iretO (pc := 37) dX11_post_37 rfl rfl E
noncomputable def qX11_post (b0 : Nat) (x1 : Int32) (x2 : Int32) (x3 : Int32) (x4 : Int32) (x5 : Int32) (x6 : Int32) (h : ea_H) : Option (Int32 × ea_H) := gX11_post b0 1000000000 0 x1 x2 x3 x4 x5 x6 h
def okX11_post (b0 : Nat) (x1 : Int32) (x2 : Int32) (x3 : Int32) (x4 : Int32) (x5 : Int32) (x6 : Int32) (h : ea_H) : Prop := ∃ x, qX11_post b0 x1 x2 x3 x4 x5 x6 h = some x
noncomputable def vX11_post (b0 : Nat) (x1 : Int32) (x2 : Int32) (x3 : Int32) (x4 : Int32) (x5 : Int32) (x6 : Int32) (h : ea_H) : Int32 := ((qX11_post b0 x1 x2 x3 x4 x5 x6 h).getD (0, h)).1
noncomputable def wX11_post (b0 : Nat) (x1 : Int32) (x2 : Int32) (x3 : Int32) (x4 : Int32) (x5 : Int32) (x6 : Int32) (h : ea_H) : ea_H := ((qX11_post b0 x1 x2 x3 x4 x5 x6 h).getD (0, h)).2
theorem sX11_post {d : Nat} {b0 : Nat} {x1 : Int32} {x2 : Int32} {x3 : Int32} {x4 : Int32} {x5 : Int32} {x6 : Int32} {h : ea_H} (hd : 6 ≤ d) (hs : ShC b0 h) (K : okX11_post b0 x1 x2 x3 x4 x5 x6 h) : ea_Met mX11_post d [vR (some (b0 + 0)), vI x1, vI x2, vI x3, vI x4, vI x5, vI x6] h (some (vI (vX11_post b0 x1 x2 x3 x4 x5 x6 h))) (wX11_post b0 x1 x2 x3 x4 x5 x6 h) := by
  obtain ⟨⟨x, y⟩, K⟩ := K
  unfold wX11_post vX11_post
  rw [K]
  unfold qX11_post at K
  exact ea_enter rfl (Nat.le_of_ble_eq_true rfl) ((tX11_post hd 1000000000 0 x1 x2 x3 x4 x5 x6 h x y K hs) rfl)
theorem zX11_post {b0 : Nat} : ∀ (f lbl : Nat) (x1 : Int32) (x2 : Int32) (x3 : Int32) (x4 : Int32) (x5 : Int32) (x6 : Int32) (h : ea_H) (r : Int32) (h' : ea_H), gX11_post b0 f lbl x1 x2 x3 x4 x5 x6 h = some (r, h') → ShC b0 h → ShC b0 h' := by
  intro f
  induction f with
  | zero => intro lbl x1 x2 x3 x4 x5 x6 h r h' E; cases E
  | succ f ih =>
    intro lbl x1 x2 x3 x4 x5 x6 h r h' E hs
    unfold gX11_post at E
    by_cases c49 : x1 < (0 : Int32)
    · have E := (if_pos c49).symm.trans E
      exact ea_shO E hs
    have E := (if_neg c49).symm.trans E
    by_cases c48 : (4 : Int32) < x1
    · have E := (if_pos c48).symm.trans E
      exact ea_shO E hs
    have E := (if_neg c48).symm.trans E
    by_cases c47 : (vX6_has b0 (x2 : Int32) h) = (0 : Int32)
    · have E := (if_pos c47).symm.trans E
      exact ea_shO E hs
    have E := (if_neg c47).symm.trans E
    by_cases c46 : (vX6_has b0 (x3 : Int32) h) = (0 : Int32)
    · have E := (if_pos c46).symm.trans E
      exact ea_shO E hs
    have E := (if_neg c46).symm.trans E
    by_cases c45 : x2 = x3
    · have E := (if_pos c45).symm.trans E
      exact ea_shO E hs
    have E := (if_neg c45).symm.trans E
    by_cases c44 : x4 < (1 : Int32)
    · have E := (if_pos c44).symm.trans E
      exact ea_shO E hs
    have E := (if_neg c44).symm.trans E
    by_cases c43 : (9 : Int32) < x4
    · have E := (if_pos c43).symm.trans E
      exact ea_shO E hs
    have E := (if_neg c43).symm.trans E
    by_cases c42 : x5 < (0 : Int32)
    · have E := (if_pos c42).symm.trans E
      exact ea_shO E hs
    have E := (if_neg c42).symm.trans E
    by_cases c41 : (99 : Int32) < x5
    · have E := (if_pos c41).symm.trans E
      exact ea_shO E hs
    have E := (if_neg c41).symm.trans E
    by_cases c40 : x6 < (0 : Int32)
    · have E := (if_pos c40).symm.trans E
      exact ea_shO E hs
    have E := (if_neg c40).symm.trans E
    by_cases c39 : x6 ≤ (9 : Int32)
    · have E := (if_pos c39).symm.trans E
      by_cases c38 : (ea_i h (b0 + 32) 0) < (120 : Int32)
      · have E := (if_pos c38).symm.trans E
        obtain ⟨H4, eH4, E⟩ := let_some E
        have hsH4 : ShC b0 H4 := by rw [eH4]; exact (ShC_new hs)
        obtain ⟨z5, E⟩ := gd_some E
        obtain ⟨H7, eH7, E⟩ := let_some E
        have hsH7 : ShC b0 H7 := by rw [eH7]; exact (shX4_init hsH4)
        obtain ⟨f8, E⟩ := gd_some E
        obtain ⟨H10, eH10, E⟩ := let_some E
        have hsH10 : ShC b0 H10 := by rw [eH10]; exact (ShC_wi hsH7)
        obtain ⟨z11, E⟩ := gd_some E
        obtain ⟨f12, E⟩ := gd_some E
        obtain ⟨H14, eH14, E⟩ := let_some E
        have hsH14 : ShC b0 H14 := by rw [eH14]; exact (ShC_wi hsH10)
        obtain ⟨z15, E⟩ := gd_some E
        obtain ⟨f16, E⟩ := gd_some E
        obtain ⟨z18, E⟩ := gd_some E
        obtain ⟨H19, eH19, E⟩ := let_some E
        have hsH19 : ShC b0 H19 := by rw [eH19]; exact (ShC_wi hsH14)
        obtain ⟨z20, E⟩ := gd_some E
        obtain ⟨H22, eH22, E⟩ := let_some E
        have hsH22 : ShC b0 H22 := by rw [eH22]; exact (shX11_franksAhead hsH19)
        obtain ⟨f23, E⟩ := gd_some E
        obtain ⟨H25, eH25, E⟩ := let_some E
        have hsH25 : ShC b0 H25 := by rw [eH25]; exact (ShC_wi hsH22)
        obtain ⟨z26, E⟩ := gd_some E
        obtain ⟨f28, E⟩ := gd_some E
        obtain ⟨H29, eH29, E⟩ := let_some E
        have hsH29 : ShC b0 H29 := by rw [eH29]; exact (ShC_wr (o := 31) rfl hsH25)
        obtain ⟨z30, E⟩ := gd_some E
        obtain ⟨H32, eH32, E⟩ := let_some E
        have hsH32 : ShC b0 H32 := by rw [eH32]; exact (shX8_price hsH29)
        obtain ⟨z33, E⟩ := gd_some E
        obtain ⟨H35, eH35, E⟩ := let_some E
        have hsH35 : ShC b0 H35 := by rw [eH35]; exact (shX1_begin_at32 hsH32)
        obtain ⟨H37, eH37, E⟩ := let_some E
        have hsH37 : ShC b0 H37 := by rw [eH37]; exact (ShC_wi hsH35)
        exact ea_shO E hsH37
      have E := (if_neg c38).symm.trans E
      exact ea_shO E hs
    have E := (if_neg c39).symm.trans E
    exact ea_shO E hs
theorem shX11_post {b0 : Nat} {x1 : Int32} {x2 : Int32} {x3 : Int32} {x4 : Int32} {x5 : Int32} {x6 : Int32} {h : ea_H} (hs : ShC b0 h) : ShC b0 (wX11_post b0 x1 x2 x3 x4 x5 x6 h) := by
  unfold wX11_post
  cases K : qX11_post b0 x1 x2 x3 x4 x5 x6 h with
  | none => exact hs
  | some x => obtain ⟨x, y⟩ := x; unfold qX11_post at K; exact zX11_post _ _ _ _ _ _ _ _ _ _ _ K hs
noncomputable def gX11_seekSeats (b0 : Nat) : Nat → Nat → Int32 → Int32 → Int32 → Int32 → Int32 → ea_H → Option (Unit × ea_H)
  | 0, _, _, _, _, _, _, _ => none
  | f + 1, lbl, x1, x2, x3, x4, x5, h =>
    if lbl = 0 then (if (ea_i h (b0 + 16) 0) ≤ (1 : Int32) then (ea_let (ea_wi h (b0 + 0) 13 2147483647) fun H2 => (gX11_seekSeats b0 f 53 ((ea_i h (b0 + 17) 0) : Int32) ((ea_i h (b0 + 17) 1) : Int32) (1 : Int32) (0 : Int32) 0 H2)) else (ea_let (ea_wi h (b0 + 0) 13 2147483647) fun H4 => (gX11_seekSeats b0 f 53 ((ea_i h (b0 + 17) 0) : Int32) ((ea_i h (b0 + 17) 1) : Int32) ((ea_i h (b0 + 5) 0) : Int32) (0 : Int32) 0 H4))) else
    if lbl = 53 then (if (ea_i h (b0 + 5) 0) ≤ x4 then (gd (vp_in 0 8) (ea_let (ea_wi h (b0 + 17) (Int32.toNatClampNeg 0) x1) fun H8 => (gd (vp_in 1 8) (ea_let (ea_wi H8 (b0 + 17) (Int32.toNatClampNeg 1) x2) fun H11 => (ea_let (ea_wi H11 (b0 + 0) 12 1) fun H13 => (some ((), H13))))))) else (gX11_seekSeats b0 f 68 (x1 : Int32) (x2 : Int32) (x3 : Int32) (x4 : Int32) (0 : Int32) h)) else
    if lbl = 68 then (if x3 ≤ x5 then (gX11_seekSeats b0 f 53 (x1 : Int32) (x2 : Int32) (x3 : Int32) ((x4 + (1 : Int32)) : Int32) 0 h) else (gd (vp_in 0 8) (ea_let (ea_wi h (b0 + 17) (Int32.toNatClampNeg 0) x4) fun H17 => (gd (vp_in 1 8) (ea_let (ea_wi H17 (b0 + 17) (Int32.toNatClampNeg 1) x5) fun H20 => (gd ((okX11_outcome b0 H20)) (ea_let (wX11_outcome b0 H20) fun H23 => (if (ea_i H23 (b0 + 0) 13) ≤ (vX11_outcome b0 H20) then (gX11_seekSeats b0 f 68 (x1 : Int32) (x2 : Int32) (x3 : Int32) (x4 : Int32) ((x5 + (1 : Int32)) : Int32) H23) else (ea_let (ea_wi H23 (b0 + 0) 13 (vX11_outcome b0 H20)) fun H25 => (ea_let (ea_wi H25 (b0 + 0) 14 x4) fun H27 => (ea_let (ea_wi H27 (b0 + 0) 15 x5) fun H29 => (gX11_seekSeats b0 f 68 (x1 : Int32) (x2 : Int32) (x3 : Int32) (x4 : Int32) ((x5 + (1 : Int32)) : Int32) H29)))))))))))) else none
theorem tX11_seekSeats {d : Nat} {b0 : Nat} {h0 : ea_H} (hd : 8 ≤ d) : ∀ (f lbl : Nat) (x1 : Int32) (x2 : Int32) (x3 : Int32) (x4 : Int32) (x5 : Int32) (h : ea_H) (r : Unit) (h' : ea_H), gX11_seekSeats b0 f lbl x1 x2 x3 x4 x5 h = some (r, h') → ShC b0 h → (lbl = 0 → ea_W mX11_seekSeats d h0 none h' 0 [(0, vR (some (b0 + 0)))] [] h) ∧ (lbl = 53 → ea_W mX11_seekSeats d h0 none h' 53 [(0, vR (some (b0 + 0))), (1, vI x1), (2, vI x2), (3, vI x3), (4, vI x4)] [] h) ∧ (lbl = 68 → ea_W mX11_seekSeats d h0 none h' 68 [(0, vR (some (b0 + 0))), (1, vI x1), (2, vI x2), (3, vI x3), (4, vI x4), (5, vI x5)] [] h) := by
  intro f
  induction f with
  | zero => intro lbl x1 x2 x3 x4 x5 h r h' E; cases E
  | succ f ih =>
    intro lbl x1 x2 x3 x4 x5 h r h' E hs
    unfold gX11_seekSeats at E
    refine ⟨?_, ?_⟩
    · intro el
      subst el
      have E := (if_pos rfl).symm.trans E
      refine ea_aload_n (pc := 0) dX11_seekSeats_0 rfl 0 rfl ?_
      refine ea_getR (pc := 1) dX11_seekSeats_1 ec_11 (k := 3) (Nat.le_of_ble_eq_true rfl) rfl (Or.inl ew_440) (hs.1 0 (by decide)).1 (hs.1 0 (by decide)).2.1 (hs.2 0 3 rfl) ?_
      refine ea_getR (pc := 4) dX11_seekSeats_4 ec_3 (k := 1) (Nat.le_of_ble_eq_true rfl) rfl (Or.inl ew_264) (hs.1 16 (by decide)).1 (hs.1 16 (by decide)).2.1 (hs.2 16 1 rfl) ?_
      refine ea_iconst (pc := 7) dX11_seekSeats_7 (v := 0) rfl ?_
      refine ea_iald (pc := 8) dX11_seekSeats_8 (hs.1 17 (by decide)).1 (hs.1 17 (by decide)).2.1 (ea_vpl (n := 8) (hs.1 17 (by decide)).2.2 (by unfold vp_in; decide)) ?_
      refine ea_istore_n (pc := 9) (lv' := [(0, vR (some (b0 + 0))), (1, vI (ea_i h (b0 + 17) 0))]) dX11_seekSeats_9 rfl (Nat.le_of_ble_eq_true rfl) [1, 0] rfl ?_
      refine ea_aload_n (pc := 10) dX11_seekSeats_10 rfl 0 rfl ?_
      refine ea_getR (pc := 11) dX11_seekSeats_11 ec_11 (k := 3) (Nat.le_of_ble_eq_true rfl) rfl (Or.inl ew_440) (hs.1 0 (by decide)).1 (hs.1 0 (by decide)).2.1 (hs.2 0 3 rfl) ?_
      refine ea_getR (pc := 14) dX11_seekSeats_14 ec_3 (k := 1) (Nat.le_of_ble_eq_true rfl) rfl (Or.inl ew_264) (hs.1 16 (by decide)).1 (hs.1 16 (by decide)).2.1 (hs.2 16 1 rfl) ?_
      refine ea_iconst (pc := 17) dX11_seekSeats_17 (v := 1) rfl ?_
      refine ea_iald (pc := 18) dX11_seekSeats_18 (hs.1 17 (by decide)).1 (hs.1 17 (by decide)).2.1 (ea_vpl (n := 8) (hs.1 17 (by decide)).2.2 (by unfold vp_in; decide)) ?_
      refine ea_istore_n (pc := 19) (lv' := [(0, vR (some (b0 + 0))), (1, vI (ea_i h (b0 + 17) 0)), (2, vI (ea_i h (b0 + 17) 1))]) dX11_seekSeats_19 rfl (Nat.le_of_ble_eq_true rfl) [1, 2, 0] rfl ?_
      refine ea_aload_n (pc := 20) dX11_seekSeats_20 rfl 0 rfl ?_
      refine ea_getR (pc := 21) dX11_seekSeats_21 ec_11 (k := 3) (Nat.le_of_ble_eq_true rfl) rfl (Or.inl ew_440) (hs.1 0 (by decide)).1 (hs.1 0 (by decide)).2.1 (hs.2 0 3 rfl) ?_
      refine ea_getI (pc := 24) dX11_seekSeats_24 ec_3 (k := 0) (Nat.le_of_ble_eq_true rfl) rfl (Or.inl ew_262) (hs.1 16 (by decide)).1 (hs.1 16 (by decide)).2.1 ?_
      refine ea_iconst (pc := 27) dX11_seekSeats_27 (v := 1) rfl ?_
      refine ea_icmp_le (pc := 28) (tgt := 41) dX11_seekSeats_28 rfl (fun c5 => ?_) (fun c5 => ?_)
      · have E := (if_pos c5).symm.trans E
        refine ea_iconst (pc := 41) dX11_seekSeats_41 (v := 1) rfl ?_
        refine ea_istore_n (pc := 42) (lv' := [(0, vR (some (b0 + 0))), (1, vI (ea_i h (b0 + 17) 0)), (2, vI (ea_i h (b0 + 17) 1)), (3, vI 1)]) dX11_seekSeats_42 rfl (Nat.le_of_ble_eq_true rfl) [1, 2, 3, 0] rfl ?_
        refine ea_aload_n (pc := 43) dX11_seekSeats_43 rfl 0 rfl ?_
        refine ea_ldcw (pc := 44) dX11_seekSeats_44 ew_1337 ?_
        refine ea_putI (pc := 47) dX11_seekSeats_47 ec_11 (k := 13) (Nat.le_of_ble_eq_true rfl) rfl (Or.inl ⟨rfl, Or.inl ew_450⟩) rfl rfl (hs.1 0 (by decide)).1 (hs.1 0 (by decide)).2.1 ?_
        have hs1 : ShC b0 (ea_wi h (b0 + 0) 13 2147483647) := ShC_wi hs
        obtain ⟨H2, eH2, E⟩ := let_some E
        refine ea_nm eH2 ?_
        have hsH2 : ShC b0 H2 := by rw [eH2]; exact hs1
        refine ea_iconst (pc := 50) dX11_seekSeats_50 (v := 0) rfl ?_
        refine ea_istore (pc := 51) (lv' := [(0, vR (some (b0 + 0))), (1, vI (ea_i h (b0 + 17) 0)), (2, vI (ea_i h (b0 + 17) 1)), (3, vI 1), (4, vI 0)]) dX11_seekSeats_51 (Nat.le_of_ble_eq_true rfl) [1, 2, 3, 4, 0] rfl ?_
        exact ((ih 53 ((ea_i h (b0 + 17) 0) : Int32) ((ea_i h (b0 + 17) 1) : Int32) (1 : Int32) (0 : Int32) 0 H2 _ _ E hsH2).2.1 rfl)
      · have E := (if_neg c5).symm.trans E
        refine ea_aload_n (pc := 31) dX11_seekSeats_31 rfl 0 rfl ?_
        refine ea_getR (pc := 32) dX11_seekSeats_32 ec_11 (k := 1) (Nat.le_of_ble_eq_true rfl) rfl (Or.inl ew_438) (hs.1 0 (by decide)).1 (hs.1 0 (by decide)).2.1 (hs.2 0 1 rfl) ?_
        refine ea_getI (pc := 35) dX11_seekSeats_35 ec_9 (k := 0) (Nat.le_of_ble_eq_true rfl) rfl (Or.inl ew_178) (hs.1 5 (by decide)).1 (hs.1 5 (by decide)).2.1 ?_
        refine ea_goto (pc := 38) (tgt := 42) dX11_seekSeats_38 rfl ?_
        refine ea_istore_n (pc := 42) (lv' := [(0, vR (some (b0 + 0))), (1, vI (ea_i h (b0 + 17) 0)), (2, vI (ea_i h (b0 + 17) 1)), (3, vI (ea_i h (b0 + 5) 0))]) dX11_seekSeats_42 rfl (Nat.le_of_ble_eq_true rfl) [1, 2, 3, 0] rfl ?_
        refine ea_aload_n (pc := 43) dX11_seekSeats_43 rfl 0 rfl ?_
        refine ea_ldcw (pc := 44) dX11_seekSeats_44 ew_1337 ?_
        refine ea_putI (pc := 47) dX11_seekSeats_47 ec_11 (k := 13) (Nat.le_of_ble_eq_true rfl) rfl (Or.inl ⟨rfl, Or.inl ew_450⟩) rfl rfl (hs.1 0 (by decide)).1 (hs.1 0 (by decide)).2.1 ?_
        have hs3 : ShC b0 (ea_wi h (b0 + 0) 13 2147483647) := ShC_wi hs
        obtain ⟨H4, eH4, E⟩ := let_some E
        refine ea_nm eH4 ?_
        have hsH4 : ShC b0 H4 := by rw [eH4]; exact hs3
        refine ea_iconst (pc := 50) dX11_seekSeats_50 (v := 0) rfl ?_
        refine ea_istore (pc := 51) (lv' := [(0, vR (some (b0 + 0))), (1, vI (ea_i h (b0 + 17) 0)), (2, vI (ea_i h (b0 + 17) 1)), (3, vI (ea_i h (b0 + 5) 0)), (4, vI 0)]) dX11_seekSeats_51 (Nat.le_of_ble_eq_true rfl) [1, 2, 3, 4, 0] rfl ?_
        exact ((ih 53 ((ea_i h (b0 + 17) 0) : Int32) ((ea_i h (b0 + 17) 1) : Int32) ((ea_i h (b0 + 5) 0) : Int32) (0 : Int32) 0 H4 _ _ E hsH4).2.1 rfl)
    refine ⟨?_, ?_⟩
    · intro el
      subst el
      have E := (if_neg (by decide)).symm.trans E
      have E := (if_pos rfl).symm.trans E
      refine ea_iload (pc := 53) dX11_seekSeats_53 4 rfl ?_
      refine ea_aload_n (pc := 55) dX11_seekSeats_55 rfl 0 rfl ?_
      refine ea_getR (pc := 56) dX11_seekSeats_56 ec_11 (k := 1) (Nat.le_of_ble_eq_true rfl) rfl (Or.inl ew_438) (hs.1 0 (by decide)).1 (hs.1 0 (by decide)).2.1 (hs.2 0 1 rfl) ?_
      refine ea_getI (pc := 59) dX11_seekSeats_59 ec_9 (k := 0) (Nat.le_of_ble_eq_true rfl) rfl (Or.inl ew_178) (hs.1 5 (by decide)).1 (hs.1 5 (by decide)).2.1 ?_
      refine ea_icmp_ge (pc := 62) (tgt := 141) dX11_seekSeats_62 rfl (fun c14 => ?_) (fun c14 => ?_)
      · have E := (if_pos c14).symm.trans E
        refine ea_aload_n (pc := 141) dX11_seekSeats_141 rfl 0 rfl ?_
        refine ea_getR (pc := 142) dX11_seekSeats_142 ec_11 (k := 3) (Nat.le_of_ble_eq_true rfl) rfl (Or.inl ew_440) (hs.1 0 (by decide)).1 (hs.1 0 (by decide)).2.1 (hs.2 0 3 rfl) ?_
        refine ea_getR (pc := 145) dX11_seekSeats_145 ec_3 (k := 1) (Nat.le_of_ble_eq_true rfl) rfl (Or.inl ew_264) (hs.1 16 (by decide)).1 (hs.1 16 (by decide)).2.1 (hs.2 16 1 rfl) ?_
        refine ea_iconst (pc := 148) dX11_seekSeats_148 (v := 0) rfl ?_
        refine ea_iload_n (pc := 149) dX11_seekSeats_149 rfl 1 rfl ?_
        obtain ⟨z6, E⟩ := gd_some E
        refine ea_iast (pc := 150) dX11_seekSeats_150 (hs.1 17 (by decide)).1 (hs.1 17 (by decide)).2.1 (ea_vpl (hs.1 17 (by decide)).2.2 z6) ?_
        have hs7 : ShC b0 (ea_wi h (b0 + 17) (Int32.toNatClampNeg 0) x1) := ShC_wi hs
        obtain ⟨H8, eH8, E⟩ := let_some E
        refine ea_nm eH8 ?_
        have hsH8 : ShC b0 H8 := by rw [eH8]; exact hs7
        refine ea_aload_n (pc := 151) dX11_seekSeats_151 rfl 0 rfl ?_
        refine ea_getR (pc := 152) dX11_seekSeats_152 ec_11 (k := 3) (Nat.le_of_ble_eq_true rfl) rfl (Or.inl ew_440) (hsH8.1 0 (by decide)).1 (hsH8.1 0 (by decide)).2.1 (hsH8.2 0 3 rfl) ?_
        refine ea_getR (pc := 155) dX11_seekSeats_155 ec_3 (k := 1) (Nat.le_of_ble_eq_true rfl) rfl (Or.inl ew_264) (hsH8.1 16 (by decide)).1 (hsH8.1 16 (by decide)).2.1 (hsH8.2 16 1 rfl) ?_
        refine ea_iconst (pc := 158) dX11_seekSeats_158 (v := 1) rfl ?_
        refine ea_iload_n (pc := 159) dX11_seekSeats_159 rfl 2 rfl ?_
        obtain ⟨z9, E⟩ := gd_some E
        refine ea_iast (pc := 160) dX11_seekSeats_160 (hsH8.1 17 (by decide)).1 (hsH8.1 17 (by decide)).2.1 (ea_vpl (hsH8.1 17 (by decide)).2.2 z9) ?_
        have hs10 : ShC b0 (ea_wi H8 (b0 + 17) (Int32.toNatClampNeg 1) x2) := ShC_wi hsH8
        obtain ⟨H11, eH11, E⟩ := let_some E
        refine ea_nm eH11 ?_
        have hsH11 : ShC b0 H11 := by rw [eH11]; exact hs10
        refine ea_aload_n (pc := 161) dX11_seekSeats_161 rfl 0 rfl ?_
        refine ea_iconst (pc := 162) dX11_seekSeats_162 (v := 1) rfl ?_
        refine ea_putI (pc := 163) dX11_seekSeats_163 ec_11 (k := 12) (Nat.le_of_ble_eq_true rfl) rfl (Or.inl ⟨rfl, Or.inl ew_449⟩) (ea_bn (Or.inr rfl)) (ea_bf (Or.inr rfl)) (hsH11.1 0 (by decide)).1 (hsH11.1 0 (by decide)).2.1 ?_
        have hs12 : ShC b0 (ea_wi H11 (b0 + 0) 12 1) := ShC_wi hsH11
        obtain ⟨H13, eH13, E⟩ := let_some E
        refine ea_nm eH13 ?_
        have hsH13 : ShC b0 H13 := by rw [eH13]; exact hs12
        exact ea_vretO (pc := 166) dX11_seekSeats_166 rfl E
      · have E := (if_neg c14).symm.trans E
        refine ea_iconst (pc := 65) dX11_seekSeats_65 (v := 0) rfl ?_
        refine ea_istore (pc := 66) (lv' := [(0, vR (some (b0 + 0))), (1, vI x1), (2, vI x2), (3, vI x3), (4, vI x4), (5, vI 0)]) dX11_seekSeats_66 (Nat.le_of_ble_eq_true rfl) [1, 2, 3, 4, 5, 0] rfl ?_
        exact ((ih 68 (x1 : Int32) (x2 : Int32) (x3 : Int32) (x4 : Int32) (0 : Int32) h _ _ E hs).2.2 rfl)
    intro el
    subst el
    have E := (if_neg (by decide)).symm.trans E
    have E := (if_neg (by decide)).symm.trans E
    have E := (if_pos rfl).symm.trans E
    refine ea_iload (pc := 68) dX11_seekSeats_68 5 rfl ?_
    refine ea_iload_n (pc := 70) dX11_seekSeats_70 rfl 3 rfl ?_
    refine ea_icmp_ge (pc := 71) (tgt := 135) dX11_seekSeats_71 rfl (fun c31 => ?_) (fun c31 => ?_)
    · have E := (if_pos c31).symm.trans E
      refine ea_iinc (pc := 135) (v := 1) (lv' := [(0, vR (some (b0 + 0))), (1, vI x1), (2, vI x2), (3, vI x3), (4, vI (x4 + (1 : Int32)))]) dX11_seekSeats_135 4 rfl rfl (Nat.le_of_ble_eq_true rfl) [1, 2, 3, 4, 0] rfl ?_
      refine ea_goto (pc := 138) (tgt := 53) dX11_seekSeats_138 rfl ?_
      exact ((ih 53 (x1 : Int32) (x2 : Int32) (x3 : Int32) ((x4 + (1 : Int32)) : Int32) 0 h _ _ E hs).2.1 rfl)
    · have E := (if_neg c31).symm.trans E
      refine ea_aload_n (pc := 74) dX11_seekSeats_74 rfl 0 rfl ?_
      refine ea_getR (pc := 75) dX11_seekSeats_75 ec_11 (k := 3) (Nat.le_of_ble_eq_true rfl) rfl (Or.inl ew_440) (hs.1 0 (by decide)).1 (hs.1 0 (by decide)).2.1 (hs.2 0 3 rfl) ?_
      refine ea_getR (pc := 78) dX11_seekSeats_78 ec_3 (k := 1) (Nat.le_of_ble_eq_true rfl) rfl (Or.inl ew_264) (hs.1 16 (by decide)).1 (hs.1 16 (by decide)).2.1 (hs.2 16 1 rfl) ?_
      refine ea_iconst (pc := 81) dX11_seekSeats_81 (v := 0) rfl ?_
      refine ea_iload (pc := 82) dX11_seekSeats_82 4 rfl ?_
      obtain ⟨z15, E⟩ := gd_some E
      refine ea_iast (pc := 84) dX11_seekSeats_84 (hs.1 17 (by decide)).1 (hs.1 17 (by decide)).2.1 (ea_vpl (hs.1 17 (by decide)).2.2 z15) ?_
      have hs16 : ShC b0 (ea_wi h (b0 + 17) (Int32.toNatClampNeg 0) x4) := ShC_wi hs
      obtain ⟨H17, eH17, E⟩ := let_some E
      refine ea_nm eH17 ?_
      have hsH17 : ShC b0 H17 := by rw [eH17]; exact hs16
      refine ea_aload_n (pc := 85) dX11_seekSeats_85 rfl 0 rfl ?_
      refine ea_getR (pc := 86) dX11_seekSeats_86 ec_11 (k := 3) (Nat.le_of_ble_eq_true rfl) rfl (Or.inl ew_440) (hsH17.1 0 (by decide)).1 (hsH17.1 0 (by decide)).2.1 (hsH17.2 0 3 rfl) ?_
      refine ea_getR (pc := 89) dX11_seekSeats_89 ec_3 (k := 1) (Nat.le_of_ble_eq_true rfl) rfl (Or.inl ew_264) (hsH17.1 16 (by decide)).1 (hsH17.1 16 (by decide)).2.1 (hsH17.2 16 1 rfl) ?_
      refine ea_iconst (pc := 92) dX11_seekSeats_92 (v := 1) rfl ?_
      refine ea_iload (pc := 93) dX11_seekSeats_93 5 rfl ?_
      obtain ⟨z18, E⟩ := gd_some E
      refine ea_iast (pc := 95) dX11_seekSeats_95 (hsH17.1 17 (by decide)).1 (hsH17.1 17 (by decide)).2.1 (ea_vpl (hsH17.1 17 (by decide)).2.2 z18) ?_
      have hs19 : ShC b0 (ea_wi H17 (b0 + 17) (Int32.toNatClampNeg 1) x5) := ShC_wi hsH17
      obtain ⟨H20, eH20, E⟩ := let_some E
      refine ea_nm eH20 ?_
      have hsH20 : ShC b0 H20 := by rw [eH20]; exact hs19
      refine ea_aload_n (pc := 96) dX11_seekSeats_96 rfl 0 rfl ?_
      obtain ⟨z21, E⟩ := gd_some E
      refine ea_callV (pc := 97) (d' := d - 1) (As := []) (st := []) dX11_seekSeats_97 kX11_outcome (sX11_outcome (d := d - 1) (by omega) hsH20 z21) (by omega) rfl (Nat.le_of_ble_eq_true rfl) ew_1316 ew_1318 ew_45 (ci := 11) rfl (by decide) (hsH20.1 0 (by decide)).1 (hsH20.1 0 (by decide)).2.1 ?_
      have hs22 : ShC b0 (wX11_outcome b0 H20) := shX11_outcome hsH20
      obtain ⟨H23, eH23, E⟩ := let_some E
      refine ea_nm eH23 ?_
      have hsH23 : ShC b0 H23 := by rw [eH23]; exact hs22
      refine ea_istore (pc := 100) (lv' := [(0, vR (some (b0 + 0))), (1, vI x1), (2, vI x2), (3, vI x3), (4, vI x4), (5, vI x5), (6, vI (vX11_outcome b0 H20))]) dX11_seekSeats_100 (Nat.le_of_ble_eq_true rfl) [1, 2, 3, 4, 5, 6, 0] rfl ?_
      refine ea_iload (pc := 102) dX11_seekSeats_102 6 rfl ?_
      refine ea_aload_n (pc := 104) dX11_seekSeats_104 rfl 0 rfl ?_
      refine ea_getI (pc := 105) dX11_seekSeats_105 ec_11 (k := 13) (Nat.le_of_ble_eq_true rfl) rfl (Or.inl ew_450) (hsH23.1 0 (by decide)).1 (hsH23.1 0 (by decide)).2.1 ?_
      refine ea_icmp_ge (pc := 108) (tgt := 129) dX11_seekSeats_108 rfl (fun c30 => ?_) (fun c30 => ?_)
      · have E := (if_pos c30).symm.trans E
        refine ea_iinc (pc := 129) (v := 1) (lv' := [(0, vR (some (b0 + 0))), (1, vI x1), (2, vI x2), (3, vI x3), (4, vI x4), (5, vI (x5 + (1 : Int32)))]) dX11_seekSeats_129 5 rfl rfl (Nat.le_of_ble_eq_true rfl) [1, 2, 3, 4, 5, 0] rfl ?_
        refine ea_goto (pc := 132) (tgt := 68) dX11_seekSeats_132 rfl ?_
        exact ((ih 68 (x1 : Int32) (x2 : Int32) (x3 : Int32) (x4 : Int32) ((x5 + (1 : Int32)) : Int32) H23 _ _ E hsH23).2.2 rfl)
      · have E := (if_neg c30).symm.trans E
        refine ea_aload_n (pc := 111) dX11_seekSeats_111 rfl 0 rfl ?_
        refine ea_iload (pc := 112) dX11_seekSeats_112 6 rfl ?_
        refine ea_putI (pc := 114) dX11_seekSeats_114 ec_11 (k := 13) (Nat.le_of_ble_eq_true rfl) rfl (Or.inl ⟨rfl, Or.inl ew_450⟩) rfl rfl (hsH23.1 0 (by decide)).1 (hsH23.1 0 (by decide)).2.1 ?_
        have hs24 : ShC b0 (ea_wi H23 (b0 + 0) 13 (vX11_outcome b0 H20)) := ShC_wi hsH23
        obtain ⟨H25, eH25, E⟩ := let_some E
        refine ea_nm eH25 ?_
        have hsH25 : ShC b0 H25 := by rw [eH25]; exact hs24
        refine ea_aload_n (pc := 117) dX11_seekSeats_117 rfl 0 rfl ?_
        refine ea_iload (pc := 118) dX11_seekSeats_118 4 rfl ?_
        refine ea_putI (pc := 120) dX11_seekSeats_120 ec_11 (k := 14) (Nat.le_of_ble_eq_true rfl) rfl (Or.inl ⟨rfl, Or.inl ew_451⟩) rfl rfl (hsH25.1 0 (by decide)).1 (hsH25.1 0 (by decide)).2.1 ?_
        have hs26 : ShC b0 (ea_wi H25 (b0 + 0) 14 x4) := ShC_wi hsH25
        obtain ⟨H27, eH27, E⟩ := let_some E
        refine ea_nm eH27 ?_
        have hsH27 : ShC b0 H27 := by rw [eH27]; exact hs26
        refine ea_aload_n (pc := 123) dX11_seekSeats_123 rfl 0 rfl ?_
        refine ea_iload (pc := 124) dX11_seekSeats_124 5 rfl ?_
        refine ea_putI (pc := 126) dX11_seekSeats_126 ec_11 (k := 15) (Nat.le_of_ble_eq_true rfl) rfl (Or.inl ⟨rfl, Or.inl ew_452⟩) rfl rfl (hsH27.1 0 (by decide)).1 (hsH27.1 0 (by decide)).2.1 ?_
        have hs28 : ShC b0 (ea_wi H27 (b0 + 0) 15 x5) := ShC_wi hsH27
        obtain ⟨H29, eH29, E⟩ := let_some E
        refine ea_nm eH29 ?_
        have hsH29 : ShC b0 H29 := by rw [eH29]; exact hs28
        refine ea_iinc (pc := 129) (v := 1) (lv' := [(0, vR (some (b0 + 0))), (1, vI x1), (2, vI x2), (3, vI x3), (4, vI x4), (5, vI (x5 + (1 : Int32)))]) dX11_seekSeats_129 5 rfl rfl (Nat.le_of_ble_eq_true rfl) [1, 2, 3, 4, 5, 0] rfl ?_
        refine ea_goto (pc := 132) (tgt := 68) dX11_seekSeats_132 rfl ?_
        exact ((ih 68 (x1 : Int32) (x2 : Int32) (x3 : Int32) (x4 : Int32) ((x5 + (1 : Int32)) : Int32) H29 _ _ E hsH29).2.2 rfl)
noncomputable def qX11_seekSeats (b0 : Nat) (h : ea_H) : Option (Unit × ea_H) := gX11_seekSeats b0 1000000000 0 0 0 0 0 0 h
def okX11_seekSeats (b0 : Nat) (h : ea_H) : Prop := ∃ x, qX11_seekSeats b0 h = some x
noncomputable def wX11_seekSeats (b0 : Nat) (h : ea_H) : ea_H := ((qX11_seekSeats b0 h).getD ((), h)).2
theorem sX11_seekSeats {d : Nat} {b0 : Nat} {h : ea_H} (hd : 8 ≤ d) (hs : ShC b0 h) (K : okX11_seekSeats b0 h) : ea_Met mX11_seekSeats d [vR (some (b0 + 0))] h none (wX11_seekSeats b0 h) := by
  obtain ⟨⟨x, y⟩, K⟩ := K
  unfold wX11_seekSeats
  rw [K]
  unfold qX11_seekSeats at K
  exact ea_enter rfl (Nat.le_of_ble_eq_true rfl) ((tX11_seekSeats hd 1000000000 0 0 0 0 0 0 h x y K hs).1 rfl)
theorem zX11_seekSeats {b0 : Nat} : ∀ (f lbl : Nat) (x1 : Int32) (x2 : Int32) (x3 : Int32) (x4 : Int32) (x5 : Int32) (h : ea_H) (r : Unit) (h' : ea_H), gX11_seekSeats b0 f lbl x1 x2 x3 x4 x5 h = some (r, h') → ShC b0 h → ShC b0 h' := by
  intro f
  induction f with
  | zero => intro lbl x1 x2 x3 x4 x5 h r h' E; cases E
  | succ f ih =>
    intro lbl x1 x2 x3 x4 x5 h r h' E hs
    unfold gX11_seekSeats at E
    by_cases el0 : lbl = 0
    · have E := (if_pos el0).symm.trans E
      by_cases c5 : (ea_i h (b0 + 16) 0) ≤ (1 : Int32)
      · have E := (if_pos c5).symm.trans E
        obtain ⟨H2, eH2, E⟩ := let_some E
        have hsH2 : ShC b0 H2 := by rw [eH2]; exact (ShC_wi hs)
        exact ih 53 ((ea_i h (b0 + 17) 0) : Int32) ((ea_i h (b0 + 17) 1) : Int32) (1 : Int32) (0 : Int32) 0 H2 _ _ E hsH2
      have E := (if_neg c5).symm.trans E
      obtain ⟨H4, eH4, E⟩ := let_some E
      have hsH4 : ShC b0 H4 := by rw [eH4]; exact (ShC_wi hs)
      exact ih 53 ((ea_i h (b0 + 17) 0) : Int32) ((ea_i h (b0 + 17) 1) : Int32) ((ea_i h (b0 + 5) 0) : Int32) (0 : Int32) 0 H4 _ _ E hsH4
    have E := (if_neg el0).symm.trans E
    by_cases el1 : lbl = 53
    · have E := (if_pos el1).symm.trans E
      by_cases c14 : (ea_i h (b0 + 5) 0) ≤ x4
      · have E := (if_pos c14).symm.trans E
        obtain ⟨z6, E⟩ := gd_some E
        obtain ⟨H8, eH8, E⟩ := let_some E
        have hsH8 : ShC b0 H8 := by rw [eH8]; exact (ShC_wi hs)
        obtain ⟨z9, E⟩ := gd_some E
        obtain ⟨H11, eH11, E⟩ := let_some E
        have hsH11 : ShC b0 H11 := by rw [eH11]; exact (ShC_wi hsH8)
        obtain ⟨H13, eH13, E⟩ := let_some E
        have hsH13 : ShC b0 H13 := by rw [eH13]; exact (ShC_wi hsH11)
        exact ea_shO E hsH13
      have E := (if_neg c14).symm.trans E
      exact ih 68 (x1 : Int32) (x2 : Int32) (x3 : Int32) (x4 : Int32) (0 : Int32) h _ _ E hs
    have E := (if_neg el1).symm.trans E
    by_cases el2 : lbl = 68
    · have E := (if_pos el2).symm.trans E
      by_cases c31 : x3 ≤ x5
      · have E := (if_pos c31).symm.trans E
        exact ih 53 (x1 : Int32) (x2 : Int32) (x3 : Int32) ((x4 + (1 : Int32)) : Int32) 0 h _ _ E hs
      have E := (if_neg c31).symm.trans E
      obtain ⟨z15, E⟩ := gd_some E
      obtain ⟨H17, eH17, E⟩ := let_some E
      have hsH17 : ShC b0 H17 := by rw [eH17]; exact (ShC_wi hs)
      obtain ⟨z18, E⟩ := gd_some E
      obtain ⟨H20, eH20, E⟩ := let_some E
      have hsH20 : ShC b0 H20 := by rw [eH20]; exact (ShC_wi hsH17)
      obtain ⟨z21, E⟩ := gd_some E
      obtain ⟨H23, eH23, E⟩ := let_some E
      have hsH23 : ShC b0 H23 := by rw [eH23]; exact (shX11_outcome hsH20)
      by_cases c30 : (ea_i H23 (b0 + 0) 13) ≤ (vX11_outcome b0 H20)
      · have E := (if_pos c30).symm.trans E
        exact ih 68 (x1 : Int32) (x2 : Int32) (x3 : Int32) (x4 : Int32) ((x5 + (1 : Int32)) : Int32) H23 _ _ E hsH23
      have E := (if_neg c30).symm.trans E
      obtain ⟨H25, eH25, E⟩ := let_some E
      have hsH25 : ShC b0 H25 := by rw [eH25]; exact (ShC_wi hsH23)
      obtain ⟨H27, eH27, E⟩ := let_some E
      have hsH27 : ShC b0 H27 := by rw [eH27]; exact (ShC_wi hsH25)
      obtain ⟨H29, eH29, E⟩ := let_some E
      have hsH29 : ShC b0 H29 := by rw [eH29]; exact (ShC_wi hsH27)
      exact ih 68 (x1 : Int32) (x2 : Int32) (x3 : Int32) (x4 : Int32) ((x5 + (1 : Int32)) : Int32) H29 _ _ E hsH29
    have E := (if_neg el2).symm.trans E
    cases E
theorem shX11_seekSeats {b0 : Nat} {h : ea_H} (hs : ShC b0 h) : ShC b0 (wX11_seekSeats b0 h) := by
  unfold wX11_seekSeats
  cases K : qX11_seekSeats b0 h with
  | none => exact hs
  | some x => obtain ⟨x, y⟩ := x; unfold qX11_seekSeats at K; exact zX11_seekSeats _ _ _ _ _ _ _ _ _ _ K hs
noncomputable def vX11_seats (b0 : Nat) (x1 : Int32) (h : ea_H) : Int32 := (if (ea_i h (b0 + 5) 0) = (0 : Int32) then ((-1) : Int32) else (if (ea_i h (b0 + 16) 0) = (0 : Int32) then ((-1) : Int32) else (if x1 = (0 : Int32) then (if (ea_i h (b0 + 0) 12) = (0 : Int32) then (if x1 = (0 : Int32) then (ea_i (wX11_seekSeats b0 h) (b0 + 0) 13) else (if x1 = (10 : Int32) then (ea_i (wX11_seekSeats b0 h) (b0 + 0) 14) else (ea_i (wX11_seekSeats b0 h) (b0 + 0) 15))) else (if x1 = (0 : Int32) then (ea_i h (b0 + 0) 13) else (if x1 = (10 : Int32) then (ea_i h (b0 + 0) 14) else (ea_i h (b0 + 0) 15)))) else (if x1 = (10 : Int32) then (if (ea_i h (b0 + 0) 12) = (0 : Int32) then (if x1 = (0 : Int32) then (ea_i (wX11_seekSeats b0 h) (b0 + 0) 13) else (if x1 = (10 : Int32) then (ea_i (wX11_seekSeats b0 h) (b0 + 0) 14) else (ea_i (wX11_seekSeats b0 h) (b0 + 0) 15))) else (if x1 = (0 : Int32) then (ea_i h (b0 + 0) 13) else (if x1 = (10 : Int32) then (ea_i h (b0 + 0) 14) else (ea_i h (b0 + 0) 15)))) else (if x1 = (11 : Int32) then (if (2 : Int32) ≤ (ea_i h (b0 + 16) 0) then (if (ea_i h (b0 + 0) 12) = (0 : Int32) then (if x1 = (0 : Int32) then (ea_i (wX11_seekSeats b0 h) (b0 + 0) 13) else (if x1 = (10 : Int32) then (ea_i (wX11_seekSeats b0 h) (b0 + 0) 14) else (ea_i (wX11_seekSeats b0 h) (b0 + 0) 15))) else (if x1 = (0 : Int32) then (ea_i h (b0 + 0) 13) else (if x1 = (10 : Int32) then (ea_i h (b0 + 0) 14) else (ea_i h (b0 + 0) 15)))) else ((-1) : Int32)) else ((-1) : Int32))))))
noncomputable def wX11_seats (b0 : Nat) (x1 : Int32) (h : ea_H) : ea_H := (if (ea_i h (b0 + 5) 0) = (0 : Int32) then h else (if (ea_i h (b0 + 16) 0) = (0 : Int32) then h else (if x1 = (0 : Int32) then (if (ea_i h (b0 + 0) 12) = (0 : Int32) then (wX11_seekSeats b0 h) else h) else (if x1 = (10 : Int32) then (if (ea_i h (b0 + 0) 12) = (0 : Int32) then (wX11_seekSeats b0 h) else h) else (if x1 = (11 : Int32) then (if (2 : Int32) ≤ (ea_i h (b0 + 16) 0) then (if (ea_i h (b0 + 0) 12) = (0 : Int32) then (wX11_seekSeats b0 h) else h) else h) else h)))))
def okX11_seats (b0 : Nat) (x1 : Int32) (h : ea_H) : Prop := ((ea_i h (b0 + 5) 0) = (0 : Int32) → True) ∧ (¬ (ea_i h (b0 + 5) 0) = (0 : Int32) → ((ea_i h (b0 + 16) 0) = (0 : Int32) → True) ∧ (¬ (ea_i h (b0 + 16) 0) = (0 : Int32) → (x1 = (0 : Int32) → ((ea_i h (b0 + 0) 12) = (0 : Int32) → (okX11_seekSeats b0 h)) ∧ (¬ (ea_i h (b0 + 0) 12) = (0 : Int32) → True)) ∧ (¬ x1 = (0 : Int32) → (x1 = (10 : Int32) → ((ea_i h (b0 + 0) 12) = (0 : Int32) → (okX11_seekSeats b0 h)) ∧ (¬ (ea_i h (b0 + 0) 12) = (0 : Int32) → True)) ∧ (¬ x1 = (10 : Int32) → (x1 = (11 : Int32) → ((2 : Int32) ≤ (ea_i h (b0 + 16) 0) → ((ea_i h (b0 + 0) 12) = (0 : Int32) → (okX11_seekSeats b0 h)) ∧ (¬ (ea_i h (b0 + 0) 12) = (0 : Int32) → True)) ∧ (¬ (2 : Int32) ≤ (ea_i h (b0 + 16) 0) → True)) ∧ (¬ x1 = (11 : Int32) → True)))))
theorem shX11_seats {b0 : Nat} {x1 : Int32} {h : ea_H} (hs : ShC b0 h) : ShC b0 (wX11_seats b0 x1 h) := (ShC_it hs (ShC_it hs (ShC_it (ShC_it (shX11_seekSeats hs) hs) (ShC_it (ShC_it (shX11_seekSeats hs) hs) (ShC_it (ShC_it (ShC_it (shX11_seekSeats hs) hs) hs) hs)))))
theorem sX11_seats {d : Nat} {b0 : Nat} {x1 : Int32} {h : ea_H} (hd : 9 ≤ d) (hs : ShC b0 h) (K : okX11_seats b0 x1 h) : ea_Met mX11_seats d [vR (some (b0 + 0)), vI x1] h (some (vI (vX11_seats b0 x1 h))) (wX11_seats b0 x1 h) := by
  obtain ⟨X, EX⟩ : ∃ z, z = vX11_seats b0 x1 h := ⟨_, rfl⟩
  rw [← EX]
  unfold vX11_seats at EX
  obtain ⟨Y, EY⟩ : ∃ z, z = wX11_seats b0 x1 h := ⟨_, rfl⟩
  rw [← EY]
  unfold wX11_seats at EY
  unfold okX11_seats at K
  refine ea_enter rfl (Nat.le_of_ble_eq_true rfl) ?_
  refine ea_aload_n (pc := 0) dX11_seats_0 rfl 0 rfl ?_
  refine ea_getR (pc := 1) dX11_seats_1 ec_11 (k := 1) (Nat.le_of_ble_eq_true rfl) rfl (Or.inl ew_438) (hs.1 0 (by decide)).1 (hs.1 0 (by decide)).2.1 (hs.2 0 1 rfl) ?_
  refine ea_getI (pc := 4) dX11_seats_4 ec_9 (k := 0) (Nat.le_of_ble_eq_true rfl) rfl (Or.inl ew_178) (hs.1 5 (by decide)).1 (hs.1 5 (by decide)).2.1 ?_
  refine ea_if_eq (pc := 7) (tgt := 20) dX11_seats_7 rfl (fun c27 => ?_) (fun c27 => ?_)
  · have EX := EX.trans (if_pos c27)
    have EY := EY.trans (if_pos c27)
    refine ea_iconst (pc := 20) dX11_seats_20 (v := (-1)) rfl ?_
    exact ea_iretE (pc := 21) dX11_seats_21 rfl rfl EX EY
  · have EX := EX.trans (if_neg c27)
    have EY := EY.trans (if_neg c27)
    have K := K.2 c27
    refine ea_aload_n (pc := 10) dX11_seats_10 rfl 0 rfl ?_
    refine ea_getR (pc := 11) dX11_seats_11 ec_11 (k := 3) (Nat.le_of_ble_eq_true rfl) rfl (Or.inl ew_440) (hs.1 0 (by decide)).1 (hs.1 0 (by decide)).2.1 (hs.2 0 3 rfl) ?_
    refine ea_getI (pc := 14) dX11_seats_14 ec_3 (k := 0) (Nat.le_of_ble_eq_true rfl) rfl (Or.inl ew_262) (hs.1 16 (by decide)).1 (hs.1 16 (by decide)).2.1 ?_
    refine ea_if_ne (pc := 17) (tgt := 22) dX11_seats_17 rfl (fun c26 => ?_) (fun c26 => ?_)
    · have EX := EX.trans (if_neg c26)
      have EY := EY.trans (if_neg c26)
      have K := K.2 c26
      refine ea_iload_n (pc := 22) dX11_seats_22 rfl 1 rfl ?_
      refine ea_if_eq (pc := 23) (tgt := 51) dX11_seats_23 rfl (fun c25 => ?_) (fun c25 => ?_)
      · have EX := EX.trans (if_pos c25)
        have EY := EY.trans (if_pos c25)
        have K := K.1 c25
        refine ea_aload_n (pc := 51) dX11_seats_51 rfl 0 rfl ?_
        refine ea_getI (pc := 52) dX11_seats_52 ec_11 (k := 12) (Nat.le_of_ble_eq_true rfl) rfl (Or.inl ew_449) (hs.1 0 (by decide)).1 (hs.1 0 (by decide)).2.1 ?_
        refine ea_if_ne (pc := 55) (tgt := 62) dX11_seats_55 rfl (fun c7 => ?_) (fun c7 => ?_)
        · have EX := EX.trans (if_neg c7)
          have EY := EY.trans (if_neg c7)
          refine ea_iload_n (pc := 62) dX11_seats_62 rfl 1 rfl ?_
          refine ea_if_ne (pc := 63) (tgt := 71) dX11_seats_63 rfl (fun c2 => ?_) (fun c2 => ?_)
          · have EX := EX.trans (if_neg c2)
            refine ea_iload_n (pc := 71) dX11_seats_71 rfl 1 rfl ?_
            refine ea_bipush (pc := 72) dX11_seats_72 (v := 10) rfl ?_
            refine ea_icmp_ne (pc := 74) (tgt := 84) dX11_seats_74 rfl (fun c1 => ?_) (fun c1 => ?_)
            · have EX := EX.trans (if_neg c1)
              refine ea_aload_n (pc := 84) dX11_seats_84 rfl 0 rfl ?_
              refine ea_getI (pc := 85) dX11_seats_85 ec_11 (k := 15) (Nat.le_of_ble_eq_true rfl) rfl (Or.inl ew_452) (hs.1 0 (by decide)).1 (hs.1 0 (by decide)).2.1 ?_
              exact ea_iretE (pc := 88) dX11_seats_88 rfl rfl EX EY
            · have EX := EX.trans (if_pos c1)
              refine ea_aload_n (pc := 77) dX11_seats_77 rfl 0 rfl ?_
              refine ea_getI (pc := 78) dX11_seats_78 ec_11 (k := 14) (Nat.le_of_ble_eq_true rfl) rfl (Or.inl ew_451) (hs.1 0 (by decide)).1 (hs.1 0 (by decide)).2.1 ?_
              refine ea_goto (pc := 81) (tgt := 88) dX11_seats_81 rfl ?_
              exact ea_iretE (pc := 88) dX11_seats_88 rfl rfl EX EY
          · have EX := EX.trans (if_pos c2)
            refine ea_aload_n (pc := 66) dX11_seats_66 rfl 0 rfl ?_
            refine ea_getI (pc := 67) dX11_seats_67 ec_11 (k := 13) (Nat.le_of_ble_eq_true rfl) rfl (Or.inl ew_450) (hs.1 0 (by decide)).1 (hs.1 0 (by decide)).2.1 ?_
            exact ea_iretE (pc := 70) dX11_seats_70 rfl rfl EX EY
        · have EX := EX.trans (if_pos c7)
          have EY := EY.trans (if_pos c7)
          have K := K.1 c7
          refine ea_aload_n (pc := 58) dX11_seats_58 rfl 0 rfl ?_
          have z3 := K
          refine ea_callV (pc := 59) (d' := d - 1) (As := []) (st := []) dX11_seats_59 kX11_seekSeats (sX11_seekSeats (d := d - 1) (by omega) hs z3) (by omega) rfl (Nat.le_of_ble_eq_true rfl) ew_1333 ew_1335 ew_46 (ci := 11) rfl (by decide) (hs.1 0 (by decide)).1 (hs.1 0 (by decide)).2.1 ?_
          have hs4 : ShC b0 (wX11_seekSeats b0 h) := shX11_seekSeats hs
          refine ea_iload_n (pc := 62) dX11_seats_62 rfl 1 rfl ?_
          refine ea_if_ne (pc := 63) (tgt := 71) dX11_seats_63 rfl (fun c6 => ?_) (fun c6 => ?_)
          · have EX := EX.trans (if_neg c6)
            refine ea_iload_n (pc := 71) dX11_seats_71 rfl 1 rfl ?_
            refine ea_bipush (pc := 72) dX11_seats_72 (v := 10) rfl ?_
            refine ea_icmp_ne (pc := 74) (tgt := 84) dX11_seats_74 rfl (fun c5 => ?_) (fun c5 => ?_)
            · have EX := EX.trans (if_neg c5)
              refine ea_aload_n (pc := 84) dX11_seats_84 rfl 0 rfl ?_
              refine ea_getI (pc := 85) dX11_seats_85 ec_11 (k := 15) (Nat.le_of_ble_eq_true rfl) rfl (Or.inl ew_452) (hs4.1 0 (by decide)).1 (hs4.1 0 (by decide)).2.1 ?_
              exact ea_iretE (pc := 88) dX11_seats_88 rfl rfl EX EY
            · have EX := EX.trans (if_pos c5)
              refine ea_aload_n (pc := 77) dX11_seats_77 rfl 0 rfl ?_
              refine ea_getI (pc := 78) dX11_seats_78 ec_11 (k := 14) (Nat.le_of_ble_eq_true rfl) rfl (Or.inl ew_451) (hs4.1 0 (by decide)).1 (hs4.1 0 (by decide)).2.1 ?_
              refine ea_goto (pc := 81) (tgt := 88) dX11_seats_81 rfl ?_
              exact ea_iretE (pc := 88) dX11_seats_88 rfl rfl EX EY
          · have EX := EX.trans (if_pos c6)
            refine ea_aload_n (pc := 66) dX11_seats_66 rfl 0 rfl ?_
            refine ea_getI (pc := 67) dX11_seats_67 ec_11 (k := 13) (Nat.le_of_ble_eq_true rfl) rfl (Or.inl ew_450) (hs4.1 0 (by decide)).1 (hs4.1 0 (by decide)).2.1 ?_
            exact ea_iretE (pc := 70) dX11_seats_70 rfl rfl EX EY
      · have EX := EX.trans (if_neg c25)
        have EY := EY.trans (if_neg c25)
        have K := K.2 c25
        refine ea_iload_n (pc := 26) dX11_seats_26 rfl 1 rfl ?_
        refine ea_bipush (pc := 27) dX11_seats_27 (v := 10) rfl ?_
        refine ea_icmp_eq (pc := 29) (tgt := 51) dX11_seats_29 rfl (fun c24 => ?_) (fun c24 => ?_)
        · have EX := EX.trans (if_pos c24)
          have EY := EY.trans (if_pos c24)
          have K := K.1 c24
          refine ea_aload_n (pc := 51) dX11_seats_51 rfl 0 rfl ?_
          refine ea_getI (pc := 52) dX11_seats_52 ec_11 (k := 12) (Nat.le_of_ble_eq_true rfl) rfl (Or.inl ew_449) (hs.1 0 (by decide)).1 (hs.1 0 (by decide)).2.1 ?_
          refine ea_if_ne (pc := 55) (tgt := 62) dX11_seats_55 rfl (fun c14 => ?_) (fun c14 => ?_)
          · have EX := EX.trans (if_neg c14)
            have EY := EY.trans (if_neg c14)
            refine ea_iload_n (pc := 62) dX11_seats_62 rfl 1 rfl ?_
            refine ea_if_ne (pc := 63) (tgt := 71) dX11_seats_63 rfl (fun c9 => ?_) (fun c9 => ?_)
            · have EX := EX.trans (if_neg c9)
              refine ea_iload_n (pc := 71) dX11_seats_71 rfl 1 rfl ?_
              refine ea_bipush (pc := 72) dX11_seats_72 (v := 10) rfl ?_
              refine ea_icmp_ne (pc := 74) (tgt := 84) dX11_seats_74 rfl (fun c8 => ?_) (fun c8 => ?_)
              · have EX := EX.trans (if_neg c8)
                refine ea_aload_n (pc := 84) dX11_seats_84 rfl 0 rfl ?_
                refine ea_getI (pc := 85) dX11_seats_85 ec_11 (k := 15) (Nat.le_of_ble_eq_true rfl) rfl (Or.inl ew_452) (hs.1 0 (by decide)).1 (hs.1 0 (by decide)).2.1 ?_
                exact ea_iretE (pc := 88) dX11_seats_88 rfl rfl EX EY
              · have EX := EX.trans (if_pos c8)
                refine ea_aload_n (pc := 77) dX11_seats_77 rfl 0 rfl ?_
                refine ea_getI (pc := 78) dX11_seats_78 ec_11 (k := 14) (Nat.le_of_ble_eq_true rfl) rfl (Or.inl ew_451) (hs.1 0 (by decide)).1 (hs.1 0 (by decide)).2.1 ?_
                refine ea_goto (pc := 81) (tgt := 88) dX11_seats_81 rfl ?_
                exact ea_iretE (pc := 88) dX11_seats_88 rfl rfl EX EY
            · have EX := EX.trans (if_pos c9)
              refine ea_aload_n (pc := 66) dX11_seats_66 rfl 0 rfl ?_
              refine ea_getI (pc := 67) dX11_seats_67 ec_11 (k := 13) (Nat.le_of_ble_eq_true rfl) rfl (Or.inl ew_450) (hs.1 0 (by decide)).1 (hs.1 0 (by decide)).2.1 ?_
              exact ea_iretE (pc := 70) dX11_seats_70 rfl rfl EX EY
          · have EX := EX.trans (if_pos c14)
            have EY := EY.trans (if_pos c14)
            have K := K.1 c14
            refine ea_aload_n (pc := 58) dX11_seats_58 rfl 0 rfl ?_
            have z10 := K
            refine ea_callV (pc := 59) (d' := d - 1) (As := []) (st := []) dX11_seats_59 kX11_seekSeats (sX11_seekSeats (d := d - 1) (by omega) hs z10) (by omega) rfl (Nat.le_of_ble_eq_true rfl) ew_1333 ew_1335 ew_46 (ci := 11) rfl (by decide) (hs.1 0 (by decide)).1 (hs.1 0 (by decide)).2.1 ?_
            have hs11 : ShC b0 (wX11_seekSeats b0 h) := shX11_seekSeats hs
            refine ea_iload_n (pc := 62) dX11_seats_62 rfl 1 rfl ?_
            refine ea_if_ne (pc := 63) (tgt := 71) dX11_seats_63 rfl (fun c13 => ?_) (fun c13 => ?_)
            · have EX := EX.trans (if_neg c13)
              refine ea_iload_n (pc := 71) dX11_seats_71 rfl 1 rfl ?_
              refine ea_bipush (pc := 72) dX11_seats_72 (v := 10) rfl ?_
              refine ea_icmp_ne (pc := 74) (tgt := 84) dX11_seats_74 rfl (fun c12 => ?_) (fun c12 => ?_)
              · have EX := EX.trans (if_neg c12)
                refine ea_aload_n (pc := 84) dX11_seats_84 rfl 0 rfl ?_
                refine ea_getI (pc := 85) dX11_seats_85 ec_11 (k := 15) (Nat.le_of_ble_eq_true rfl) rfl (Or.inl ew_452) (hs11.1 0 (by decide)).1 (hs11.1 0 (by decide)).2.1 ?_
                exact ea_iretE (pc := 88) dX11_seats_88 rfl rfl EX EY
              · have EX := EX.trans (if_pos c12)
                refine ea_aload_n (pc := 77) dX11_seats_77 rfl 0 rfl ?_
                refine ea_getI (pc := 78) dX11_seats_78 ec_11 (k := 14) (Nat.le_of_ble_eq_true rfl) rfl (Or.inl ew_451) (hs11.1 0 (by decide)).1 (hs11.1 0 (by decide)).2.1 ?_
                refine ea_goto (pc := 81) (tgt := 88) dX11_seats_81 rfl ?_
                exact ea_iretE (pc := 88) dX11_seats_88 rfl rfl EX EY
            · have EX := EX.trans (if_pos c13)
              refine ea_aload_n (pc := 66) dX11_seats_66 rfl 0 rfl ?_
              refine ea_getI (pc := 67) dX11_seats_67 ec_11 (k := 13) (Nat.le_of_ble_eq_true rfl) rfl (Or.inl ew_450) (hs11.1 0 (by decide)).1 (hs11.1 0 (by decide)).2.1 ?_
              exact ea_iretE (pc := 70) dX11_seats_70 rfl rfl EX EY
        · have EX := EX.trans (if_neg c24)
          have EY := EY.trans (if_neg c24)
          have K := K.2 c24
          refine ea_iload_n (pc := 32) dX11_seats_32 rfl 1 rfl ?_
          refine ea_bipush (pc := 33) dX11_seats_33 (v := 11) rfl ?_
          refine ea_icmp_ne (pc := 35) (tgt := 49) dX11_seats_35 rfl (fun c23 => ?_) (fun c23 => ?_)
          · have EX := EX.trans (if_neg c23)
            have EY := EY.trans (if_neg c23)
            refine ea_iconst (pc := 49) dX11_seats_49 (v := (-1)) rfl ?_
            exact ea_iretE (pc := 50) dX11_seats_50 rfl rfl EX EY
          · have EX := EX.trans (if_pos c23)
            have EY := EY.trans (if_pos c23)
            have K := K.1 c23
            refine ea_aload_n (pc := 38) dX11_seats_38 rfl 0 rfl ?_
            refine ea_getR (pc := 39) dX11_seats_39 ec_11 (k := 3) (Nat.le_of_ble_eq_true rfl) rfl (Or.inl ew_440) (hs.1 0 (by decide)).1 (hs.1 0 (by decide)).2.1 (hs.2 0 3 rfl) ?_
            refine ea_getI (pc := 42) dX11_seats_42 ec_3 (k := 0) (Nat.le_of_ble_eq_true rfl) rfl (Or.inl ew_262) (hs.1 16 (by decide)).1 (hs.1 16 (by decide)).2.1 ?_
            refine ea_iconst (pc := 45) dX11_seats_45 (v := 2) rfl ?_
            refine ea_icmp_ge (pc := 46) (tgt := 51) dX11_seats_46 rfl (fun c22 => ?_) (fun c22 => ?_)
            · have EX := EX.trans (if_pos c22)
              have EY := EY.trans (if_pos c22)
              have K := K.1 c22
              refine ea_aload_n (pc := 51) dX11_seats_51 rfl 0 rfl ?_
              refine ea_getI (pc := 52) dX11_seats_52 ec_11 (k := 12) (Nat.le_of_ble_eq_true rfl) rfl (Or.inl ew_449) (hs.1 0 (by decide)).1 (hs.1 0 (by decide)).2.1 ?_
              refine ea_if_ne (pc := 55) (tgt := 62) dX11_seats_55 rfl (fun c21 => ?_) (fun c21 => ?_)
              · have EX := EX.trans (if_neg c21)
                have EY := EY.trans (if_neg c21)
                refine ea_iload_n (pc := 62) dX11_seats_62 rfl 1 rfl ?_
                refine ea_if_ne (pc := 63) (tgt := 71) dX11_seats_63 rfl (fun c16 => ?_) (fun c16 => ?_)
                · have EX := EX.trans (if_neg c16)
                  refine ea_iload_n (pc := 71) dX11_seats_71 rfl 1 rfl ?_
                  refine ea_bipush (pc := 72) dX11_seats_72 (v := 10) rfl ?_
                  refine ea_icmp_ne (pc := 74) (tgt := 84) dX11_seats_74 rfl (fun c15 => ?_) (fun c15 => ?_)
                  · have EX := EX.trans (if_neg c15)
                    refine ea_aload_n (pc := 84) dX11_seats_84 rfl 0 rfl ?_
                    refine ea_getI (pc := 85) dX11_seats_85 ec_11 (k := 15) (Nat.le_of_ble_eq_true rfl) rfl (Or.inl ew_452) (hs.1 0 (by decide)).1 (hs.1 0 (by decide)).2.1 ?_
                    exact ea_iretE (pc := 88) dX11_seats_88 rfl rfl EX EY
                  · have EX := EX.trans (if_pos c15)
                    refine ea_aload_n (pc := 77) dX11_seats_77 rfl 0 rfl ?_
                    refine ea_getI (pc := 78) dX11_seats_78 ec_11 (k := 14) (Nat.le_of_ble_eq_true rfl) rfl (Or.inl ew_451) (hs.1 0 (by decide)).1 (hs.1 0 (by decide)).2.1 ?_
                    refine ea_goto (pc := 81) (tgt := 88) dX11_seats_81 rfl ?_
                    exact ea_iretE (pc := 88) dX11_seats_88 rfl rfl EX EY
                · have EX := EX.trans (if_pos c16)
                  refine ea_aload_n (pc := 66) dX11_seats_66 rfl 0 rfl ?_
                  refine ea_getI (pc := 67) dX11_seats_67 ec_11 (k := 13) (Nat.le_of_ble_eq_true rfl) rfl (Or.inl ew_450) (hs.1 0 (by decide)).1 (hs.1 0 (by decide)).2.1 ?_
                  exact ea_iretE (pc := 70) dX11_seats_70 rfl rfl EX EY
              · have EX := EX.trans (if_pos c21)
                have EY := EY.trans (if_pos c21)
                have K := K.1 c21
                refine ea_aload_n (pc := 58) dX11_seats_58 rfl 0 rfl ?_
                have z17 := K
                refine ea_callV (pc := 59) (d' := d - 1) (As := []) (st := []) dX11_seats_59 kX11_seekSeats (sX11_seekSeats (d := d - 1) (by omega) hs z17) (by omega) rfl (Nat.le_of_ble_eq_true rfl) ew_1333 ew_1335 ew_46 (ci := 11) rfl (by decide) (hs.1 0 (by decide)).1 (hs.1 0 (by decide)).2.1 ?_
                have hs18 : ShC b0 (wX11_seekSeats b0 h) := shX11_seekSeats hs
                refine ea_iload_n (pc := 62) dX11_seats_62 rfl 1 rfl ?_
                refine ea_if_ne (pc := 63) (tgt := 71) dX11_seats_63 rfl (fun c20 => ?_) (fun c20 => ?_)
                · have EX := EX.trans (if_neg c20)
                  refine ea_iload_n (pc := 71) dX11_seats_71 rfl 1 rfl ?_
                  refine ea_bipush (pc := 72) dX11_seats_72 (v := 10) rfl ?_
                  refine ea_icmp_ne (pc := 74) (tgt := 84) dX11_seats_74 rfl (fun c19 => ?_) (fun c19 => ?_)
                  · have EX := EX.trans (if_neg c19)
                    refine ea_aload_n (pc := 84) dX11_seats_84 rfl 0 rfl ?_
                    refine ea_getI (pc := 85) dX11_seats_85 ec_11 (k := 15) (Nat.le_of_ble_eq_true rfl) rfl (Or.inl ew_452) (hs18.1 0 (by decide)).1 (hs18.1 0 (by decide)).2.1 ?_
                    exact ea_iretE (pc := 88) dX11_seats_88 rfl rfl EX EY
                  · have EX := EX.trans (if_pos c19)
                    refine ea_aload_n (pc := 77) dX11_seats_77 rfl 0 rfl ?_
                    refine ea_getI (pc := 78) dX11_seats_78 ec_11 (k := 14) (Nat.le_of_ble_eq_true rfl) rfl (Or.inl ew_451) (hs18.1 0 (by decide)).1 (hs18.1 0 (by decide)).2.1 ?_
                    refine ea_goto (pc := 81) (tgt := 88) dX11_seats_81 rfl ?_
                    exact ea_iretE (pc := 88) dX11_seats_88 rfl rfl EX EY
                · have EX := EX.trans (if_pos c20)
                  refine ea_aload_n (pc := 66) dX11_seats_66 rfl 0 rfl ?_
                  refine ea_getI (pc := 67) dX11_seats_67 ec_11 (k := 13) (Nat.le_of_ble_eq_true rfl) rfl (Or.inl ew_450) (hs18.1 0 (by decide)).1 (hs18.1 0 (by decide)).2.1 ?_
                  exact ea_iretE (pc := 70) dX11_seats_70 rfl rfl EX EY
            · have EX := EX.trans (if_neg c22)
              have EY := EY.trans (if_neg c22)
              refine ea_iconst (pc := 49) dX11_seats_49 (v := (-1)) rfl ?_
              exact ea_iretE (pc := 50) dX11_seats_50 rfl rfl EX EY
    · have EX := EX.trans (if_pos c26)
      have EY := EY.trans (if_pos c26)
      refine ea_iconst (pc := 20) dX11_seats_20 (v := (-1)) rfl ?_
      exact ea_iretE (pc := 21) dX11_seats_21 rfl rfl EX EY
noncomputable def gCG (b0 : Nat) : Nat → Nat → Nat → Int32 → Int32 → Int32 → Int32 → ea_H → Option (Int32 × ea_H)
  | 0, _, _, _, _, _, _, _ => none
  | f + 1, dep, lbl, sx0, x1, x2, x3, h =>
    if lbl = 1000 then (gd (0 < dep) (Option.bind (gCG b0 f (dep - 1) 2000 0 (x1 : Int32) 0 0 h) fun y1 => (if (y1.1) = (0 : Int32) then (some ((0 : Int32), (y1.2))) else (gCG b0 f dep 1012 0 (x1 : Int32) (0 : Int32) 0 (y1.2))))) else
    if lbl = 1012 then (if (600 : Int32) < x2 then (some ((1 : Int32), h)) else (if (ea_i h (b0 + 22) 9) = (43 : Int32) then (gCG b0 f dep 1037 0 (x1 : Int32) (x2 : Int32) 0 h) else (if (ea_i h (b0 + 22) 9) = (45 : Int32) then (gCG b0 f dep 1037 0 (x1 : Int32) (x2 : Int32) 0 h) else (some ((1 : Int32), h))))) else
    if lbl = 1037 then (if (ea_i h (b0 + 22) 9) = (43 : Int32) then (gCG b0 f dep 1053 ((-10) : Int32) (x1 : Int32) (x2 : Int32) 0 h) else (gCG b0 f dep 1053 ((-11) : Int32) (x1 : Int32) (x2 : Int32) 0 h)) else
    if lbl = 1053 then (gd ((okX5_step b0 h)) (ea_let (wX5_step b0 h) fun H10 => (gd (0 < dep) (Option.bind (gCG b0 f (dep - 1) 2000 0 (x1 : Int32) 0 0 H10) fun y11 => (if (y11.1) = (0 : Int32) then (some ((0 : Int32), (y11.2))) else (gd ((okX5_put b0 (sx0 : Int32) (y11.2))) (ea_let (wX5_put b0 (sx0 : Int32) (y11.2)) fun H15 => (gCG b0 f dep 1012 0 (x1 : Int32) ((x2 + (1 : Int32)) : Int32) 0 H15)))))))) else
    if lbl = 2000 then (gd (0 < dep) (Option.bind (gCG b0 f (dep - 1) 3000 0 (x1 : Int32) 0 0 h) fun y10001 => (if (y10001.1) = (0 : Int32) then (some ((0 : Int32), (y10001.2))) else (gCG b0 f dep 2012 0 (x1 : Int32) (0 : Int32) 0 (y10001.2))))) else
    if lbl = 2012 then (if (600 : Int32) < x2 then (some ((1 : Int32), h)) else (if (ea_i h (b0 + 22) 9) = (42 : Int32) then (gCG b0 f dep 2037 0 (x1 : Int32) (x2 : Int32) 0 h) else (if (ea_i h (b0 + 22) 9) = (47 : Int32) then (gCG b0 f dep 2037 0 (x1 : Int32) (x2 : Int32) 0 h) else (some ((1 : Int32), h))))) else
    if lbl = 2037 then (if (ea_i h (b0 + 22) 9) = (47 : Int32) then (gCG b0 f dep 2051 (1 : Int32) (x1 : Int32) (x2 : Int32) 0 h) else (gCG b0 f dep 2051 (0 : Int32) (x1 : Int32) (x2 : Int32) 0 h)) else
    if lbl = 2051 then (gd ((okX5_step b0 h)) (ea_let (wX5_step b0 h) fun H10010 => (if sx0 = (0 : Int32) then (gCG b0 f dep 2075 0 (x1 : Int32) (x2 : Int32) (sx0 : Int32) H10010) else (if (ea_i H10010 (b0 + 22) 9) = (18 : Int32) then (gCG b0 f dep 2075 0 (x1 : Int32) (x2 : Int32) (sx0 : Int32) H10010) else (gd ((okX5_refuse b0 (1 : Int32) H10010)) (ea_let (wX5_refuse b0 (1 : Int32) H10010) fun H10013 => (some ((vX5_refuse b0 (1 : Int32) H10010), H10013)))))))) else
    if lbl = 2075 then (if x3 = (0 : Int32) then (gCG b0 f dep 2097 0 (x1 : Int32) (x2 : Int32) (x3 : Int32) h) else (gd (vp_in (ea_i h (b0 + 22) 8) 601) (if (ea_i h (b0 + 26) (Int32.toNatClampNeg (ea_i h (b0 + 22) 8))) = (0 : Int32) then (gd ((okX5_refuse b0 (2 : Int32) h)) (ea_let (wX5_refuse b0 (2 : Int32) h) fun H10019 => (some ((vX5_refuse b0 (2 : Int32) h), H10019)))) else (gCG b0 f dep 2097 0 (x1 : Int32) (x2 : Int32) (x3 : Int32) h)))) else
    if lbl = 2097 then (gd (0 < dep) (Option.bind (gCG b0 f (dep - 1) 3000 0 (x1 : Int32) 0 0 h) fun y10022 => (if (y10022.1) = (0 : Int32) then (some ((0 : Int32), (y10022.2))) else (if x3 = (0 : Int32) then (gd ((okX5_put b0 ((-12) : Int32) (y10022.2))) (ea_let (wX5_put b0 ((-12) : Int32) (y10022.2)) fun H10026 => (gCG b0 f dep 2012 0 (x1 : Int32) ((x2 + (1 : Int32)) : Int32) 0 H10026))) else (gd ((okX5_put b0 ((-13) : Int32) (y10022.2))) (ea_let (wX5_put b0 ((-13) : Int32) (y10022.2)) fun H10029 => (gCG b0 f dep 2012 0 (x1 : Int32) ((x2 + (1 : Int32)) : Int32) 0 H10029))))))) else
    if lbl = 3000 then (if (ea_i h (b0 + 22) 9) = (18 : Int32) then (gd (vp_in (ea_i h (b0 + 22) 8) 601) (gd ((okX5_put b0 ((ea_i h (b0 + 26) (Int32.toNatClampNeg (ea_i h (b0 + 22) 8))) : Int32) h)) (ea_let (wX5_put b0 ((ea_i h (b0 + 26) (Int32.toNatClampNeg (ea_i h (b0 + 22) 8))) : Int32) h) fun H20012 => (gd ((okX5_step b0 H20012)) (ea_let (wX5_step b0 H20012) fun H20015 => (some ((1 : Int32), H20015))))))) else (if (ea_i h (b0 + 22) 9) < (6 : Int32) then (gCG b0 f dep 3065 0 (x1 : Int32) 0 0 h) else (if (12 : Int32) < (ea_i h (b0 + 22) 9) then (gCG b0 f dep 3065 0 (x1 : Int32) 0 0 h) else (gd ((okX5_put b0 ((((-1) : Int32) - ((ea_i h (b0 + 22) 9) - (6 : Int32))) : Int32) h)) (ea_let (wX5_put b0 ((((-1) : Int32) - ((ea_i h (b0 + 22) 9) - (6 : Int32))) : Int32) h) fun H20003 => (gd ((okX5_step b0 H20003)) (ea_let (wX5_step b0 H20003) fun H20006 => (some ((1 : Int32), H20006))))))))) else
    if lbl = 3065 then (if (ea_i h (b0 + 22) 9) = (40 : Int32) then (if x1 < (8 : Int32) then (gd ((okX5_step b0 h)) (ea_let (wX5_step b0 h) fun H20019 => (gd (0 < dep) (Option.bind (gCG b0 f (dep - 1) 1000 0 ((x1 + (1 : Int32)) : Int32) 0 0 H20019) fun y20020 => (if (y20020.1) = (0 : Int32) then (some ((0 : Int32), (y20020.2))) else (if (ea_i (y20020.2) (b0 + 22) 9) = (41 : Int32) then (gd ((okX5_step b0 (y20020.2))) (ea_let (wX5_step b0 (y20020.2)) fun H20024 => (some ((1 : Int32), H20024)))) else (gd ((okX5_refuse b0 (1 : Int32) (y20020.2))) (ea_let (wX5_refuse b0 (1 : Int32) (y20020.2)) fun H20027 => (some ((vX5_refuse b0 (1 : Int32) (y20020.2)), H20027)))))))))) else (gd ((okX5_refuse b0 (3 : Int32) h)) (ea_let (wX5_refuse b0 (3 : Int32) h) fun H20032 => (some ((vX5_refuse b0 (3 : Int32) h), H20032))))) else (gd ((okX5_refuse b0 (1 : Int32) h)) (ea_let (wX5_refuse b0 (1 : Int32) h) fun H20036 => (some ((vX5_refuse b0 (1 : Int32) h), H20036))))) else none
theorem zCG (b0 : Nat) : ∀ (f dep lbl : Nat) (sx0 : Int32) (x1 : Int32) (x2 : Int32) (x3 : Int32) (h : ea_H) (r : Int32) (h' : ea_H), gCG b0 f dep lbl sx0 x1 x2 x3 h = some (r, h') → ShC b0 h → ShC b0 h' := by
  intro f
  induction f with
  | zero => intro dep lbl sx0 x1 x2 x3 h r h' E; cases E
  | succ f ih =>
    intro dep lbl sx0 x1 x2 x3 h r h' E hs
    unfold gCG at E
    by_cases el0 : lbl = 1000
    · have E := (if_pos el0).symm.trans E
      obtain ⟨zd2, E⟩ := gd_some E
      obtain ⟨y1, Ey1, E⟩ := bd_some E
      have hsy1 : ShC b0 y1.2 := ih _ _ _ _ _ _ _ _ _ Ey1 hs
      by_cases c3 : (y1.1) = (0 : Int32)
      · have E := (if_pos c3).symm.trans E
        exact ea_shO E hsy1
      have E := (if_neg c3).symm.trans E
      exact ih dep 1012 0 (x1 : Int32) (0 : Int32) 0 (y1.2) _ _ E hsy1
    have E := (if_neg el0).symm.trans E
    by_cases el1 : lbl = 1012
    · have E := (if_pos el1).symm.trans E
      by_cases c6 : (600 : Int32) < x2
      · have E := (if_pos c6).symm.trans E
        exact ea_shO E hs
      have E := (if_neg c6).symm.trans E
      by_cases c5 : (ea_i h (b0 + 22) 9) = (43 : Int32)
      · have E := (if_pos c5).symm.trans E
        exact ih dep 1037 0 (x1 : Int32) (x2 : Int32) 0 h _ _ E hs
      have E := (if_neg c5).symm.trans E
      by_cases c4 : (ea_i h (b0 + 22) 9) = (45 : Int32)
      · have E := (if_pos c4).symm.trans E
        exact ih dep 1037 0 (x1 : Int32) (x2 : Int32) 0 h _ _ E hs
      have E := (if_neg c4).symm.trans E
      exact ea_shO E hs
    have E := (if_neg el1).symm.trans E
    by_cases el2 : lbl = 1037
    · have E := (if_pos el2).symm.trans E
      by_cases c7 : (ea_i h (b0 + 22) 9) = (43 : Int32)
      · have E := (if_pos c7).symm.trans E
        exact ih dep 1053 ((-10) : Int32) (x1 : Int32) (x2 : Int32) 0 h _ _ E hs
      have E := (if_neg c7).symm.trans E
      exact ih dep 1053 ((-11) : Int32) (x1 : Int32) (x2 : Int32) 0 h _ _ E hs
    have E := (if_neg el2).symm.trans E
    by_cases el3 : lbl = 1053
    · have E := (if_pos el3).symm.trans E
      obtain ⟨z8, E⟩ := gd_some E
      obtain ⟨H10, eH10, E⟩ := let_some E
      have hsH10 : ShC b0 H10 := by rw [eH10]; exact (shX5_step hs)
      obtain ⟨zd12, E⟩ := gd_some E
      obtain ⟨y11, Ey11, E⟩ := bd_some E
      have hsy11 : ShC b0 y11.2 := ih _ _ _ _ _ _ _ _ _ Ey11 hsH10
      by_cases c16 : (y11.1) = (0 : Int32)
      · have E := (if_pos c16).symm.trans E
        exact ea_shO E hsy11
      have E := (if_neg c16).symm.trans E
      obtain ⟨z13, E⟩ := gd_some E
      obtain ⟨H15, eH15, E⟩ := let_some E
      have hsH15 : ShC b0 H15 := by rw [eH15]; exact (shX5_put hsy11)
      exact ih dep 1012 0 (x1 : Int32) ((x2 + (1 : Int32)) : Int32) 0 H15 _ _ E hsH15
    have E := (if_neg el3).symm.trans E
    by_cases el4 : lbl = 2000
    · have E := (if_pos el4).symm.trans E
      obtain ⟨zd10002, E⟩ := gd_some E
      obtain ⟨y10001, Ey10001, E⟩ := bd_some E
      have hsy10001 : ShC b0 y10001.2 := ih _ _ _ _ _ _ _ _ _ Ey10001 hs
      by_cases c10003 : (y10001.1) = (0 : Int32)
      · have E := (if_pos c10003).symm.trans E
        exact ea_shO E hsy10001
      have E := (if_neg c10003).symm.trans E
      exact ih dep 2012 0 (x1 : Int32) (0 : Int32) 0 (y10001.2) _ _ E hsy10001
    have E := (if_neg el4).symm.trans E
    by_cases el5 : lbl = 2012
    · have E := (if_pos el5).symm.trans E
      by_cases c10006 : (600 : Int32) < x2
      · have E := (if_pos c10006).symm.trans E
        exact ea_shO E hs
      have E := (if_neg c10006).symm.trans E
      by_cases c10005 : (ea_i h (b0 + 22) 9) = (42 : Int32)
      · have E := (if_pos c10005).symm.trans E
        exact ih dep 2037 0 (x1 : Int32) (x2 : Int32) 0 h _ _ E hs
      have E := (if_neg c10005).symm.trans E
      by_cases c10004 : (ea_i h (b0 + 22) 9) = (47 : Int32)
      · have E := (if_pos c10004).symm.trans E
        exact ih dep 2037 0 (x1 : Int32) (x2 : Int32) 0 h _ _ E hs
      have E := (if_neg c10004).symm.trans E
      exact ea_shO E hs
    have E := (if_neg el5).symm.trans E
    by_cases el6 : lbl = 2037
    · have E := (if_pos el6).symm.trans E
      by_cases c10007 : (ea_i h (b0 + 22) 9) = (47 : Int32)
      · have E := (if_pos c10007).symm.trans E
        exact ih dep 2051 (1 : Int32) (x1 : Int32) (x2 : Int32) 0 h _ _ E hs
      have E := (if_neg c10007).symm.trans E
      exact ih dep 2051 (0 : Int32) (x1 : Int32) (x2 : Int32) 0 h _ _ E hs
    have E := (if_neg el6).symm.trans E
    by_cases el7 : lbl = 2051
    · have E := (if_pos el7).symm.trans E
      obtain ⟨z10008, E⟩ := gd_some E
      obtain ⟨H10010, eH10010, E⟩ := let_some E
      have hsH10010 : ShC b0 H10010 := by rw [eH10010]; exact (shX5_step hs)
      by_cases c10015 : sx0 = (0 : Int32)
      · have E := (if_pos c10015).symm.trans E
        exact ih dep 2075 0 (x1 : Int32) (x2 : Int32) (sx0 : Int32) H10010 _ _ E hsH10010
      have E := (if_neg c10015).symm.trans E
      by_cases c10014 : (ea_i H10010 (b0 + 22) 9) = (18 : Int32)
      · have E := (if_pos c10014).symm.trans E
        exact ih dep 2075 0 (x1 : Int32) (x2 : Int32) (sx0 : Int32) H10010 _ _ E hsH10010
      have E := (if_neg c10014).symm.trans E
      obtain ⟨z10011, E⟩ := gd_some E
      obtain ⟨H10013, eH10013, E⟩ := let_some E
      have hsH10013 : ShC b0 H10013 := by rw [eH10013]; exact (shX5_refuse hsH10010)
      exact ea_shO E hsH10013
    have E := (if_neg el7).symm.trans E
    by_cases el8 : lbl = 2075
    · have E := (if_pos el8).symm.trans E
      by_cases c10021 : x3 = (0 : Int32)
      · have E := (if_pos c10021).symm.trans E
        exact ih dep 2097 0 (x1 : Int32) (x2 : Int32) (x3 : Int32) h _ _ E hs
      have E := (if_neg c10021).symm.trans E
      obtain ⟨z10016, E⟩ := gd_some E
      by_cases c10020 : (ea_i h (b0 + 26) (Int32.toNatClampNeg (ea_i h (b0 + 22) 8))) = (0 : Int32)
      · have E := (if_pos c10020).symm.trans E
        obtain ⟨z10017, E⟩ := gd_some E
        obtain ⟨H10019, eH10019, E⟩ := let_some E
        have hsH10019 : ShC b0 H10019 := by rw [eH10019]; exact (shX5_refuse hs)
        exact ea_shO E hsH10019
      have E := (if_neg c10020).symm.trans E
      exact ih dep 2097 0 (x1 : Int32) (x2 : Int32) (x3 : Int32) h _ _ E hs
    have E := (if_neg el8).symm.trans E
    by_cases el9 : lbl = 2097
    · have E := (if_pos el9).symm.trans E
      obtain ⟨zd10023, E⟩ := gd_some E
      obtain ⟨y10022, Ey10022, E⟩ := bd_some E
      have hsy10022 : ShC b0 y10022.2 := ih _ _ _ _ _ _ _ _ _ Ey10022 hs
      by_cases c10031 : (y10022.1) = (0 : Int32)
      · have E := (if_pos c10031).symm.trans E
        exact ea_shO E hsy10022
      have E := (if_neg c10031).symm.trans E
      by_cases c10030 : x3 = (0 : Int32)
      · have E := (if_pos c10030).symm.trans E
        obtain ⟨z10024, E⟩ := gd_some E
        obtain ⟨H10026, eH10026, E⟩ := let_some E
        have hsH10026 : ShC b0 H10026 := by rw [eH10026]; exact (shX5_put hsy10022)
        exact ih dep 2012 0 (x1 : Int32) ((x2 + (1 : Int32)) : Int32) 0 H10026 _ _ E hsH10026
      have E := (if_neg c10030).symm.trans E
      obtain ⟨z10027, E⟩ := gd_some E
      obtain ⟨H10029, eH10029, E⟩ := let_some E
      have hsH10029 : ShC b0 H10029 := by rw [eH10029]; exact (shX5_put hsy10022)
      exact ih dep 2012 0 (x1 : Int32) ((x2 + (1 : Int32)) : Int32) 0 H10029 _ _ E hsH10029
    have E := (if_neg el9).symm.trans E
    by_cases el10 : lbl = 3000
    · have E := (if_pos el10).symm.trans E
      by_cases c20016 : (ea_i h (b0 + 22) 9) = (18 : Int32)
      · have E := (if_pos c20016).symm.trans E
        obtain ⟨z20009, E⟩ := gd_some E
        obtain ⟨z20010, E⟩ := gd_some E
        obtain ⟨H20012, eH20012, E⟩ := let_some E
        have hsH20012 : ShC b0 H20012 := by rw [eH20012]; exact (shX5_put hs)
        obtain ⟨z20013, E⟩ := gd_some E
        obtain ⟨H20015, eH20015, E⟩ := let_some E
        have hsH20015 : ShC b0 H20015 := by rw [eH20015]; exact (shX5_step hsH20012)
        exact ea_shO E hsH20015
      have E := (if_neg c20016).symm.trans E
      by_cases c20008 : (ea_i h (b0 + 22) 9) < (6 : Int32)
      · have E := (if_pos c20008).symm.trans E
        exact ih dep 3065 0 (x1 : Int32) 0 0 h _ _ E hs
      have E := (if_neg c20008).symm.trans E
      by_cases c20007 : (12 : Int32) < (ea_i h (b0 + 22) 9)
      · have E := (if_pos c20007).symm.trans E
        exact ih dep 3065 0 (x1 : Int32) 0 0 h _ _ E hs
      have E := (if_neg c20007).symm.trans E
      obtain ⟨z20001, E⟩ := gd_some E
      obtain ⟨H20003, eH20003, E⟩ := let_some E
      have hsH20003 : ShC b0 H20003 := by rw [eH20003]; exact (shX5_put hs)
      obtain ⟨z20004, E⟩ := gd_some E
      obtain ⟨H20006, eH20006, E⟩ := let_some E
      have hsH20006 : ShC b0 H20006 := by rw [eH20006]; exact (shX5_step hsH20003)
      exact ea_shO E hsH20006
    have E := (if_neg el10).symm.trans E
    by_cases el11 : lbl = 3065
    · have E := (if_pos el11).symm.trans E
      by_cases c20037 : (ea_i h (b0 + 22) 9) = (40 : Int32)
      · have E := (if_pos c20037).symm.trans E
        by_cases c20033 : x1 < (8 : Int32)
        · have E := (if_pos c20033).symm.trans E
          obtain ⟨z20017, E⟩ := gd_some E
          obtain ⟨H20019, eH20019, E⟩ := let_some E
          have hsH20019 : ShC b0 H20019 := by rw [eH20019]; exact (shX5_step hs)
          obtain ⟨zd20021, E⟩ := gd_some E
          obtain ⟨y20020, Ey20020, E⟩ := bd_some E
          have hsy20020 : ShC b0 y20020.2 := ih _ _ _ _ _ _ _ _ _ Ey20020 hsH20019
          by_cases c20029 : (y20020.1) = (0 : Int32)
          · have E := (if_pos c20029).symm.trans E
            exact ea_shO E hsy20020
          have E := (if_neg c20029).symm.trans E
          by_cases c20028 : (ea_i (y20020.2) (b0 + 22) 9) = (41 : Int32)
          · have E := (if_pos c20028).symm.trans E
            obtain ⟨z20022, E⟩ := gd_some E
            obtain ⟨H20024, eH20024, E⟩ := let_some E
            have hsH20024 : ShC b0 H20024 := by rw [eH20024]; exact (shX5_step hsy20020)
            exact ea_shO E hsH20024
          have E := (if_neg c20028).symm.trans E
          obtain ⟨z20025, E⟩ := gd_some E
          obtain ⟨H20027, eH20027, E⟩ := let_some E
          have hsH20027 : ShC b0 H20027 := by rw [eH20027]; exact (shX5_refuse hsy20020)
          exact ea_shO E hsH20027
        have E := (if_neg c20033).symm.trans E
        obtain ⟨z20030, E⟩ := gd_some E
        obtain ⟨H20032, eH20032, E⟩ := let_some E
        have hsH20032 : ShC b0 H20032 := by rw [eH20032]; exact (shX5_refuse hs)
        exact ea_shO E hsH20032
      have E := (if_neg c20037).symm.trans E
      obtain ⟨z20034, E⟩ := gd_some E
      obtain ⟨H20036, eH20036, E⟩ := let_some E
      have hsH20036 : ShC b0 H20036 := by rw [eH20036]; exact (shX5_refuse hs)
      exact ea_shO E hsH20036
    have E := (if_neg el11).symm.trans E
    cases E
theorem tCG (b0 : Nat) : ∀ (f dep lbl : Nat) (sx0 : Int32) (x1 : Int32) (x2 : Int32) (x3 : Int32) (h : ea_H) (r : Int32) (h' : ea_H), gCG b0 f dep lbl sx0 x1 x2 x3 h = some (r, h') → ShC b0 h → ∀ (d : Nat) (h0 : ea_H), 2 + dep ≤ d → (lbl = 1000 → ea_W mX5_readSum d h0 (some (vI r)) h' 0 [(0, vR (some (b0 + 22))), (1, vI x1)] [] h) ∧ (lbl = 1012 → ea_W mX5_readSum d h0 (some (vI r)) h' 12 [(0, vR (some (b0 + 22))), (1, vI x1), (2, vI x2)] [] h) ∧ (lbl = 1037 → ea_W mX5_readSum d h0 (some (vI r)) h' 37 [(0, vR (some (b0 + 22))), (1, vI x1), (2, vI x2)] [] h) ∧ (lbl = 1053 → ea_W mX5_readSum d h0 (some (vI r)) h' 53 [(0, vR (some (b0 + 22))), (1, vI x1), (2, vI x2)] [vI sx0] h) ∧ (lbl = 2000 → ea_W mX5_readProduct d h0 (some (vI r)) h' 0 [(0, vR (some (b0 + 22))), (1, vI x1)] [] h) ∧ (lbl = 2012 → ea_W mX5_readProduct d h0 (some (vI r)) h' 12 [(0, vR (some (b0 + 22))), (1, vI x1), (2, vI x2)] [] h) ∧ (lbl = 2037 → ea_W mX5_readProduct d h0 (some (vI r)) h' 37 [(0, vR (some (b0 + 22))), (1, vI x1), (2, vI x2)] [] h) ∧ (lbl = 2051 → ea_W mX5_readProduct d h0 (some (vI r)) h' 51 [(0, vR (some (b0 + 22))), (1, vI x1), (2, vI x2)] [vI sx0] h) ∧ (lbl = 2075 → ea_W mX5_readProduct d h0 (some (vI r)) h' 75 [(0, vR (some (b0 + 22))), (1, vI x1), (2, vI x2), (3, vI x3)] [] h) ∧ (lbl = 2097 → ea_W mX5_readProduct d h0 (some (vI r)) h' 97 [(0, vR (some (b0 + 22))), (1, vI x1), (2, vI x2), (3, vI x3)] [] h) ∧ (lbl = 3000 → ea_W mX5_readUnit d h0 (some (vI r)) h' 0 [(0, vR (some (b0 + 22))), (1, vI x1)] [] h) ∧ (lbl = 3065 → ea_W mX5_readUnit d h0 (some (vI r)) h' 65 [(0, vR (some (b0 + 22))), (1, vI x1)] [] h) := by
  intro f
  induction f with
  | zero => intro dep lbl sx0 x1 x2 x3 h r h' E; cases E
  | succ f ih =>
    intro dep lbl sx0 x1 x2 x3 h r h' E hs d h0 hd
    unfold gCG at E
    refine ⟨?_, ?_⟩
    · intro el
      subst el
      have E := (if_pos rfl).symm.trans E
      refine ea_aload_n (pc := 0) dX5_readSum_0 rfl 0 rfl ?_
      refine ea_iload_n (pc := 1) dX5_readSum_1 rfl 1 rfl ?_
      obtain ⟨zd2, E⟩ := gd_some E
      obtain ⟨y1, Ey1, E⟩ := bd_some E
      have hsy1 : ShC b0 y1.2 := zCG b0 f _ _ _ _ _ _ _ _ _ Ey1 hs
      refine ea_callV (pc := 2) (d' := d - 1) (As := [vI x1]) (st := []) dX5_readSum_2 kX5_readProduct (ea_enter rfl (Nat.le_of_ble_eq_true rfl) ((ih (dep - 1) 2000 0 (x1 : Int32) 0 0 h _ _ Ey1 hs (d - 1) h (by omega)).2.2.2.2.1 rfl)) (by omega) rfl (Nat.le_of_ble_eq_true rfl) ew_867 ew_869 ew_24 (ci := 5) rfl (by decide) (hs.1 22 (by decide)).1 (hs.1 22 (by decide)).2.1 ?_
      refine ea_if_ne (pc := 5) (tgt := 10) dX5_readSum_5 rfl (fun c3 => ?_) (fun c3 => ?_)
      · have E := (if_neg c3).symm.trans E
        refine ea_iconst (pc := 10) dX5_readSum_10 (v := 0) rfl ?_
        refine ea_istore_n (pc := 11) (lv' := [(0, vR (some (b0 + 22))), (1, vI x1), (2, vI 0)]) dX5_readSum_11 rfl (Nat.le_of_ble_eq_true rfl) [1, 2, 0] rfl ?_
        exact ((ih dep 1012 0 (x1 : Int32) (0 : Int32) 0 (y1.2) _ _ E hsy1 d h0 hd).2.1 rfl)
      · have E := (if_pos c3).symm.trans E
        refine ea_iconst (pc := 8) dX5_readSum_8 (v := 0) rfl ?_
        exact ea_iretO (pc := 9) dX5_readSum_9 rfl (ea_bn (Or.inl rfl)) E
    refine ⟨?_, ?_⟩
    · intro el
      subst el
      have E := (if_neg (by decide)).symm.trans E
      have E := (if_pos rfl).symm.trans E
      refine ea_iload_n (pc := 12) dX5_readSum_12 rfl 2 rfl ?_
      refine ea_sipush (pc := 13) dX5_readSum_13 (v := 600) rfl ?_
      refine ea_icmp_gt (pc := 16) (tgt := 79) dX5_readSum_16 rfl (fun c6 => ?_) (fun c6 => ?_)
      · have E := (if_pos c6).symm.trans E
        refine ea_iconst (pc := 79) dX5_readSum_79 (v := 1) rfl ?_
        exact ea_iretO (pc := 80) dX5_readSum_80 rfl (ea_bn (Or.inr rfl)) E
      · have E := (if_neg c6).symm.trans E
        refine ea_aload_n (pc := 19) dX5_readSum_19 rfl 0 rfl ?_
        refine ea_getI (pc := 20) dX5_readSum_20 ec_5 (k := 9) (Nat.le_of_ble_eq_true rfl) rfl (Or.inl ew_303) (hs.1 22 (by decide)).1 (hs.1 22 (by decide)).2.1 ?_
        refine ea_bipush (pc := 23) dX5_readSum_23 (v := 43) rfl ?_
        refine ea_icmp_eq (pc := 25) (tgt := 37) dX5_readSum_25 rfl (fun c5 => ?_) (fun c5 => ?_)
        · have E := (if_pos c5).symm.trans E
          exact ((ih dep 1037 0 (x1 : Int32) (x2 : Int32) 0 h _ _ E hs d h0 hd).2.2.1 rfl)
        · have E := (if_neg c5).symm.trans E
          refine ea_aload_n (pc := 28) dX5_readSum_28 rfl 0 rfl ?_
          refine ea_getI (pc := 29) dX5_readSum_29 ec_5 (k := 9) (Nat.le_of_ble_eq_true rfl) rfl (Or.inl ew_303) (hs.1 22 (by decide)).1 (hs.1 22 (by decide)).2.1 ?_
          refine ea_bipush (pc := 32) dX5_readSum_32 (v := 45) rfl ?_
          refine ea_icmp_ne (pc := 34) (tgt := 79) dX5_readSum_34 rfl (fun c4 => ?_) (fun c4 => ?_)
          · have E := (if_neg c4).symm.trans E
            refine ea_iconst (pc := 79) dX5_readSum_79 (v := 1) rfl ?_
            exact ea_iretO (pc := 80) dX5_readSum_80 rfl (ea_bn (Or.inr rfl)) E
          · have E := (if_pos c4).symm.trans E
            exact ((ih dep 1037 0 (x1 : Int32) (x2 : Int32) 0 h _ _ E hs d h0 hd).2.2.1 rfl)
    refine ⟨?_, ?_⟩
    · intro el
      subst el
      have E := (if_neg (by decide)).symm.trans E
      have E := (if_neg (by decide)).symm.trans E
      have E := (if_pos rfl).symm.trans E
      refine ea_aload_n (pc := 37) dX5_readSum_37 rfl 0 rfl ?_
      refine ea_getI (pc := 38) dX5_readSum_38 ec_5 (k := 9) (Nat.le_of_ble_eq_true rfl) rfl (Or.inl ew_303) (hs.1 22 (by decide)).1 (hs.1 22 (by decide)).2.1 ?_
      refine ea_bipush (pc := 41) dX5_readSum_41 (v := 43) rfl ?_
      refine ea_icmp_ne (pc := 43) (tgt := 51) dX5_readSum_43 rfl (fun c7 => ?_) (fun c7 => ?_)
      · have E := (if_neg c7).symm.trans E
        refine ea_bipush (pc := 51) dX5_readSum_51 (v := (-11)) rfl ?_
        exact ((ih dep 1053 ((-11) : Int32) (x1 : Int32) (x2 : Int32) 0 h _ _ E hs d h0 hd).2.2.2.1 rfl)
      · have E := (if_pos c7).symm.trans E
        refine ea_bipush (pc := 46) dX5_readSum_46 (v := (-10)) rfl ?_
        refine ea_goto (pc := 48) (tgt := 53) dX5_readSum_48 rfl ?_
        exact ((ih dep 1053 ((-10) : Int32) (x1 : Int32) (x2 : Int32) 0 h _ _ E hs d h0 hd).2.2.2.1 rfl)
    refine ⟨?_, ?_⟩
    · intro el
      subst el
      have E := (if_neg (by decide)).symm.trans E
      have E := (if_neg (by decide)).symm.trans E
      have E := (if_neg (by decide)).symm.trans E
      have E := (if_pos rfl).symm.trans E
      refine ea_istore_n (pc := 53) (lv' := [(0, vR (some (b0 + 22))), (1, vI x1), (2, vI x2), (3, vI sx0)]) dX5_readSum_53 rfl (Nat.le_of_ble_eq_true rfl) [1, 2, 3, 0] rfl ?_
      refine ea_aload_n (pc := 54) dX5_readSum_54 rfl 0 rfl ?_
      obtain ⟨z8, E⟩ := gd_some E
      refine ea_callV (pc := 55) (d' := d - 1) (As := []) (st := []) dX5_readSum_55 kX5_step (sX5_step (d := d - 1) (by omega) hs z8) (by omega) rfl (Nat.le_of_ble_eq_true rfl) ew_859 ew_861 ew_22 (ci := 5) rfl (by decide) (hs.1 22 (by decide)).1 (hs.1 22 (by decide)).2.1 ?_
      have hs9 : ShC b0 (wX5_step b0 h) := shX5_step hs
      obtain ⟨H10, eH10, E⟩ := let_some E
      refine ea_nm eH10 ?_
      have hsH10 : ShC b0 H10 := by rw [eH10]; exact hs9
      refine ea_aload_n (pc := 58) dX5_readSum_58 rfl 0 rfl ?_
      refine ea_iload_n (pc := 59) dX5_readSum_59 rfl 1 rfl ?_
      obtain ⟨zd12, E⟩ := gd_some E
      obtain ⟨y11, Ey11, E⟩ := bd_some E
      have hsy11 : ShC b0 y11.2 := zCG b0 f _ _ _ _ _ _ _ _ _ Ey11 hsH10
      refine ea_callV (pc := 60) (d' := d - 1) (As := [vI x1]) (st := []) dX5_readSum_60 kX5_readProduct (ea_enter rfl (Nat.le_of_ble_eq_true rfl) ((ih (dep - 1) 2000 0 (x1 : Int32) 0 0 H10 _ _ Ey11 hsH10 (d - 1) H10 (by omega)).2.2.2.2.1 rfl)) (by omega) rfl (Nat.le_of_ble_eq_true rfl) ew_867 ew_869 ew_24 (ci := 5) rfl (by decide) (hsH10.1 22 (by decide)).1 (hsH10.1 22 (by decide)).2.1 ?_
      refine ea_if_ne (pc := 63) (tgt := 68) dX5_readSum_63 rfl (fun c16 => ?_) (fun c16 => ?_)
      · have E := (if_neg c16).symm.trans E
        refine ea_aload_n (pc := 68) dX5_readSum_68 rfl 0 rfl ?_
        refine ea_iload_n (pc := 69) dX5_readSum_69 rfl 3 rfl ?_
        obtain ⟨z13, E⟩ := gd_some E
        refine ea_callV (pc := 70) (d' := d - 1) (As := [vI sx0]) (st := []) dX5_readSum_70 kX5_put (sX5_put (d := d - 1) (by omega) hsy11 z13) (by omega) rfl (Nat.le_of_ble_eq_true rfl) ew_875 ew_877 ew_26 (ci := 5) rfl (by decide) (hsy11.1 22 (by decide)).1 (hsy11.1 22 (by decide)).2.1 ?_
        have hs14 : ShC b0 (wX5_put b0 (sx0 : Int32) (y11.2)) := shX5_put hsy11
        obtain ⟨H15, eH15, E⟩ := let_some E
        refine ea_nm eH15 ?_
        have hsH15 : ShC b0 H15 := by rw [eH15]; exact hs14
        refine ea_iinc (pc := 73) (v := 1) (lv' := [(0, vR (some (b0 + 22))), (1, vI x1), (2, vI (x2 + (1 : Int32)))]) dX5_readSum_73 2 rfl rfl (Nat.le_of_ble_eq_true rfl) [1, 2, 0] rfl ?_
        refine ea_goto (pc := 76) (tgt := 12) dX5_readSum_76 rfl ?_
        exact ((ih dep 1012 0 (x1 : Int32) ((x2 + (1 : Int32)) : Int32) 0 H15 _ _ E hsH15 d h0 hd).2.1 rfl)
      · have E := (if_pos c16).symm.trans E
        refine ea_iconst (pc := 66) dX5_readSum_66 (v := 0) rfl ?_
        exact ea_iretO (pc := 67) dX5_readSum_67 rfl (ea_bn (Or.inl rfl)) E
    refine ⟨?_, ?_⟩
    · intro el
      subst el
      have E := (if_neg (by decide)).symm.trans E
      have E := (if_neg (by decide)).symm.trans E
      have E := (if_neg (by decide)).symm.trans E
      have E := (if_neg (by decide)).symm.trans E
      have E := (if_pos rfl).symm.trans E
      refine ea_aload_n (pc := 0) dX5_readProduct_0 rfl 0 rfl ?_
      refine ea_iload_n (pc := 1) dX5_readProduct_1 rfl 1 rfl ?_
      obtain ⟨zd10002, E⟩ := gd_some E
      obtain ⟨y10001, Ey10001, E⟩ := bd_some E
      have hsy10001 : ShC b0 y10001.2 := zCG b0 f _ _ _ _ _ _ _ _ _ Ey10001 hs
      refine ea_callV (pc := 2) (d' := d - 1) (As := [vI x1]) (st := []) dX5_readProduct_2 kX5_readUnit (ea_enter rfl (Nat.le_of_ble_eq_true rfl) ((ih (dep - 1) 3000 0 (x1 : Int32) 0 0 h _ _ Ey10001 hs (d - 1) h (by omega)).2.2.2.2.2.2.2.2.2.2.1 rfl)) (by omega) rfl (Nat.le_of_ble_eq_true rfl) ew_871 ew_873 ew_25 (ci := 5) rfl (by decide) (hs.1 22 (by decide)).1 (hs.1 22 (by decide)).2.1 ?_
      refine ea_if_ne (pc := 5) (tgt := 10) dX5_readProduct_5 rfl (fun c10003 => ?_) (fun c10003 => ?_)
      · have E := (if_neg c10003).symm.trans E
        refine ea_iconst (pc := 10) dX5_readProduct_10 (v := 0) rfl ?_
        refine ea_istore_n (pc := 11) (lv' := [(0, vR (some (b0 + 22))), (1, vI x1), (2, vI 0)]) dX5_readProduct_11 rfl (Nat.le_of_ble_eq_true rfl) [1, 2, 0] rfl ?_
        exact ((ih dep 2012 0 (x1 : Int32) (0 : Int32) 0 (y10001.2) _ _ E hsy10001 d h0 hd).2.2.2.2.2.1 rfl)
      · have E := (if_pos c10003).symm.trans E
        refine ea_iconst (pc := 8) dX5_readProduct_8 (v := 0) rfl ?_
        exact ea_iretO (pc := 9) dX5_readProduct_9 rfl (ea_bn (Or.inl rfl)) E
    refine ⟨?_, ?_⟩
    · intro el
      subst el
      have E := (if_neg (by decide)).symm.trans E
      have E := (if_neg (by decide)).symm.trans E
      have E := (if_neg (by decide)).symm.trans E
      have E := (if_neg (by decide)).symm.trans E
      have E := (if_neg (by decide)).symm.trans E
      have E := (if_pos rfl).symm.trans E
      refine ea_iload_n (pc := 12) dX5_readProduct_12 rfl 2 rfl ?_
      refine ea_sipush (pc := 13) dX5_readProduct_13 (v := 600) rfl ?_
      refine ea_icmp_gt (pc := 16) (tgt := 128) dX5_readProduct_16 rfl (fun c10006 => ?_) (fun c10006 => ?_)
      · have E := (if_pos c10006).symm.trans E
        refine ea_iconst (pc := 128) dX5_readProduct_128 (v := 1) rfl ?_
        exact ea_iretO (pc := 129) dX5_readProduct_129 rfl (ea_bn (Or.inr rfl)) E
      · have E := (if_neg c10006).symm.trans E
        refine ea_aload_n (pc := 19) dX5_readProduct_19 rfl 0 rfl ?_
        refine ea_getI (pc := 20) dX5_readProduct_20 ec_5 (k := 9) (Nat.le_of_ble_eq_true rfl) rfl (Or.inl ew_303) (hs.1 22 (by decide)).1 (hs.1 22 (by decide)).2.1 ?_
        refine ea_bipush (pc := 23) dX5_readProduct_23 (v := 42) rfl ?_
        refine ea_icmp_eq (pc := 25) (tgt := 37) dX5_readProduct_25 rfl (fun c10005 => ?_) (fun c10005 => ?_)
        · have E := (if_pos c10005).symm.trans E
          exact ((ih dep 2037 0 (x1 : Int32) (x2 : Int32) 0 h _ _ E hs d h0 hd).2.2.2.2.2.2.1 rfl)
        · have E := (if_neg c10005).symm.trans E
          refine ea_aload_n (pc := 28) dX5_readProduct_28 rfl 0 rfl ?_
          refine ea_getI (pc := 29) dX5_readProduct_29 ec_5 (k := 9) (Nat.le_of_ble_eq_true rfl) rfl (Or.inl ew_303) (hs.1 22 (by decide)).1 (hs.1 22 (by decide)).2.1 ?_
          refine ea_bipush (pc := 32) dX5_readProduct_32 (v := 47) rfl ?_
          refine ea_icmp_ne (pc := 34) (tgt := 128) dX5_readProduct_34 rfl (fun c10004 => ?_) (fun c10004 => ?_)
          · have E := (if_neg c10004).symm.trans E
            refine ea_iconst (pc := 128) dX5_readProduct_128 (v := 1) rfl ?_
            exact ea_iretO (pc := 129) dX5_readProduct_129 rfl (ea_bn (Or.inr rfl)) E
          · have E := (if_pos c10004).symm.trans E
            exact ((ih dep 2037 0 (x1 : Int32) (x2 : Int32) 0 h _ _ E hs d h0 hd).2.2.2.2.2.2.1 rfl)
    refine ⟨?_, ?_⟩
    · intro el
      subst el
      have E := (if_neg (by decide)).symm.trans E
      have E := (if_neg (by decide)).symm.trans E
      have E := (if_neg (by decide)).symm.trans E
      have E := (if_neg (by decide)).symm.trans E
      have E := (if_neg (by decide)).symm.trans E
      have E := (if_neg (by decide)).symm.trans E
      have E := (if_pos rfl).symm.trans E
      refine ea_aload_n (pc := 37) dX5_readProduct_37 rfl 0 rfl ?_
      refine ea_getI (pc := 38) dX5_readProduct_38 ec_5 (k := 9) (Nat.le_of_ble_eq_true rfl) rfl (Or.inl ew_303) (hs.1 22 (by decide)).1 (hs.1 22 (by decide)).2.1 ?_
      refine ea_bipush (pc := 41) dX5_readProduct_41 (v := 47) rfl ?_
      refine ea_icmp_ne (pc := 43) (tgt := 50) dX5_readProduct_43 rfl (fun c10007 => ?_) (fun c10007 => ?_)
      · have E := (if_neg c10007).symm.trans E
        refine ea_iconst (pc := 50) dX5_readProduct_50 (v := 0) rfl ?_
        exact ((ih dep 2051 (0 : Int32) (x1 : Int32) (x2 : Int32) 0 h _ _ E hs d h0 hd).2.2.2.2.2.2.2.1 rfl)
      · have E := (if_pos c10007).symm.trans E
        refine ea_iconst (pc := 46) dX5_readProduct_46 (v := 1) rfl ?_
        refine ea_goto (pc := 47) (tgt := 51) dX5_readProduct_47 rfl ?_
        exact ((ih dep 2051 (1 : Int32) (x1 : Int32) (x2 : Int32) 0 h _ _ E hs d h0 hd).2.2.2.2.2.2.2.1 rfl)
    refine ⟨?_, ?_⟩
    · intro el
      subst el
      have E := (if_neg (by decide)).symm.trans E
      have E := (if_neg (by decide)).symm.trans E
      have E := (if_neg (by decide)).symm.trans E
      have E := (if_neg (by decide)).symm.trans E
      have E := (if_neg (by decide)).symm.trans E
      have E := (if_neg (by decide)).symm.trans E
      have E := (if_neg (by decide)).symm.trans E
      have E := (if_pos rfl).symm.trans E
      refine ea_istore_n (pc := 51) (lv' := [(0, vR (some (b0 + 22))), (1, vI x1), (2, vI x2), (3, vI sx0)]) dX5_readProduct_51 rfl (Nat.le_of_ble_eq_true rfl) [1, 2, 3, 0] rfl ?_
      refine ea_aload_n (pc := 52) dX5_readProduct_52 rfl 0 rfl ?_
      obtain ⟨z10008, E⟩ := gd_some E
      refine ea_callV (pc := 53) (d' := d - 1) (As := []) (st := []) dX5_readProduct_53 kX5_step (sX5_step (d := d - 1) (by omega) hs z10008) (by omega) rfl (Nat.le_of_ble_eq_true rfl) ew_859 ew_861 ew_22 (ci := 5) rfl (by decide) (hs.1 22 (by decide)).1 (hs.1 22 (by decide)).2.1 ?_
      have hs10009 : ShC b0 (wX5_step b0 h) := shX5_step hs
      obtain ⟨H10010, eH10010, E⟩ := let_some E
      refine ea_nm eH10010 ?_
      have hsH10010 : ShC b0 H10010 := by rw [eH10010]; exact hs10009
      refine ea_iload_n (pc := 56) dX5_readProduct_56 rfl 3 rfl ?_
      refine ea_if_eq (pc := 57) (tgt := 75) dX5_readProduct_57 rfl (fun c10015 => ?_) (fun c10015 => ?_)
      · have E := (if_pos c10015).symm.trans E
        exact ((ih dep 2075 0 (x1 : Int32) (x2 : Int32) (sx0 : Int32) H10010 _ _ E hsH10010 d h0 hd).2.2.2.2.2.2.2.2.1 rfl)
      · have E := (if_neg c10015).symm.trans E
        refine ea_aload_n (pc := 60) dX5_readProduct_60 rfl 0 rfl ?_
        refine ea_getI (pc := 61) dX5_readProduct_61 ec_5 (k := 9) (Nat.le_of_ble_eq_true rfl) rfl (Or.inl ew_303) (hsH10010.1 22 (by decide)).1 (hsH10010.1 22 (by decide)).2.1 ?_
        refine ea_bipush (pc := 64) dX5_readProduct_64 (v := 18) rfl ?_
        refine ea_icmp_eq (pc := 66) (tgt := 75) dX5_readProduct_66 rfl (fun c10014 => ?_) (fun c10014 => ?_)
        · have E := (if_pos c10014).symm.trans E
          exact ((ih dep 2075 0 (x1 : Int32) (x2 : Int32) (sx0 : Int32) H10010 _ _ E hsH10010 d h0 hd).2.2.2.2.2.2.2.2.1 rfl)
        · have E := (if_neg c10014).symm.trans E
          refine ea_aload_n (pc := 69) dX5_readProduct_69 rfl 0 rfl ?_
          refine ea_iconst (pc := 70) dX5_readProduct_70 (v := 1) rfl ?_
          obtain ⟨z10011, E⟩ := gd_some E
          refine ea_callV (pc := 71) (d' := d - 1) (As := [vI 1]) (st := []) dX5_readProduct_71 kX5_refuse (sX5_refuse (d := d - 1) (by omega) hsH10010 z10011) (by omega) rfl (Nat.le_of_ble_eq_true rfl) ew_851 ew_853 ew_20 (ci := 5) rfl (by decide) (hsH10010.1 22 (by decide)).1 (hsH10010.1 22 (by decide)).2.1 ?_
          have hs10012 : ShC b0 (wX5_refuse b0 (1 : Int32) H10010) := shX5_refuse hsH10010
          obtain ⟨H10013, eH10013, E⟩ := let_some E
          refine ea_nm eH10013 ?_
          have hsH10013 : ShC b0 H10013 := by rw [eH10013]; exact hs10012
          exact ea_iretO (pc := 74) dX5_readProduct_74 rfl (ea_bn (bo_vX5_refuse _ _ _)) E
    refine ⟨?_, ?_⟩
    · intro el
      subst el
      have E := (if_neg (by decide)).symm.trans E
      have E := (if_neg (by decide)).symm.trans E
      have E := (if_neg (by decide)).symm.trans E
      have E := (if_neg (by decide)).symm.trans E
      have E := (if_neg (by decide)).symm.trans E
      have E := (if_neg (by decide)).symm.trans E
      have E := (if_neg (by decide)).symm.trans E
      have E := (if_neg (by decide)).symm.trans E
      have E := (if_pos rfl).symm.trans E
      refine ea_iload_n (pc := 75) dX5_readProduct_75 rfl 3 rfl ?_
      refine ea_if_eq (pc := 76) (tgt := 97) dX5_readProduct_76 rfl (fun c10021 => ?_) (fun c10021 => ?_)
      · have E := (if_pos c10021).symm.trans E
        exact ((ih dep 2097 0 (x1 : Int32) (x2 : Int32) (x3 : Int32) h _ _ E hs d h0 hd).2.2.2.2.2.2.2.2.2.1 rfl)
      · have E := (if_neg c10021).symm.trans E
        refine ea_aload_n (pc := 79) dX5_readProduct_79 rfl 0 rfl ?_
        refine ea_getR (pc := 80) dX5_readProduct_80 ec_5 (k := 6) (Nat.le_of_ble_eq_true rfl) rfl (Or.inl ew_300) (hs.1 22 (by decide)).1 (hs.1 22 (by decide)).2.1 (hs.2 22 6 rfl) ?_
        refine ea_aload_n (pc := 83) dX5_readProduct_83 rfl 0 rfl ?_
        refine ea_getI (pc := 84) dX5_readProduct_84 ec_5 (k := 8) (Nat.le_of_ble_eq_true rfl) rfl (Or.inl ew_302) (hs.1 22 (by decide)).1 (hs.1 22 (by decide)).2.1 ?_
        obtain ⟨z10016, E⟩ := gd_some E
        refine ea_iald (pc := 87) dX5_readProduct_87 (hs.1 26 (by decide)).1 (hs.1 26 (by decide)).2.1 (ea_vpl (hs.1 26 (by decide)).2.2 z10016) ?_
        refine ea_if_ne (pc := 88) (tgt := 97) dX5_readProduct_88 rfl (fun c10020 => ?_) (fun c10020 => ?_)
        · have E := (if_neg c10020).symm.trans E
          exact ((ih dep 2097 0 (x1 : Int32) (x2 : Int32) (x3 : Int32) h _ _ E hs d h0 hd).2.2.2.2.2.2.2.2.2.1 rfl)
        · have E := (if_pos c10020).symm.trans E
          refine ea_aload_n (pc := 91) dX5_readProduct_91 rfl 0 rfl ?_
          refine ea_iconst (pc := 92) dX5_readProduct_92 (v := 2) rfl ?_
          obtain ⟨z10017, E⟩ := gd_some E
          refine ea_callV (pc := 93) (d' := d - 1) (As := [vI 2]) (st := []) dX5_readProduct_93 kX5_refuse (sX5_refuse (d := d - 1) (by omega) hs z10017) (by omega) rfl (Nat.le_of_ble_eq_true rfl) ew_851 ew_853 ew_20 (ci := 5) rfl (by decide) (hs.1 22 (by decide)).1 (hs.1 22 (by decide)).2.1 ?_
          have hs10018 : ShC b0 (wX5_refuse b0 (2 : Int32) h) := shX5_refuse hs
          obtain ⟨H10019, eH10019, E⟩ := let_some E
          refine ea_nm eH10019 ?_
          have hsH10019 : ShC b0 H10019 := by rw [eH10019]; exact hs10018
          exact ea_iretO (pc := 96) dX5_readProduct_96 rfl (ea_bn (bo_vX5_refuse _ _ _)) E
    refine ⟨?_, ?_⟩
    · intro el
      subst el
      have E := (if_neg (by decide)).symm.trans E
      have E := (if_neg (by decide)).symm.trans E
      have E := (if_neg (by decide)).symm.trans E
      have E := (if_neg (by decide)).symm.trans E
      have E := (if_neg (by decide)).symm.trans E
      have E := (if_neg (by decide)).symm.trans E
      have E := (if_neg (by decide)).symm.trans E
      have E := (if_neg (by decide)).symm.trans E
      have E := (if_neg (by decide)).symm.trans E
      have E := (if_pos rfl).symm.trans E
      refine ea_aload_n (pc := 97) dX5_readProduct_97 rfl 0 rfl ?_
      refine ea_iload_n (pc := 98) dX5_readProduct_98 rfl 1 rfl ?_
      obtain ⟨zd10023, E⟩ := gd_some E
      obtain ⟨y10022, Ey10022, E⟩ := bd_some E
      have hsy10022 : ShC b0 y10022.2 := zCG b0 f _ _ _ _ _ _ _ _ _ Ey10022 hs
      refine ea_callV (pc := 99) (d' := d - 1) (As := [vI x1]) (st := []) dX5_readProduct_99 kX5_readUnit (ea_enter rfl (Nat.le_of_ble_eq_true rfl) ((ih (dep - 1) 3000 0 (x1 : Int32) 0 0 h _ _ Ey10022 hs (d - 1) h (by omega)).2.2.2.2.2.2.2.2.2.2.1 rfl)) (by omega) rfl (Nat.le_of_ble_eq_true rfl) ew_871 ew_873 ew_25 (ci := 5) rfl (by decide) (hs.1 22 (by decide)).1 (hs.1 22 (by decide)).2.1 ?_
      refine ea_if_ne (pc := 102) (tgt := 107) dX5_readProduct_102 rfl (fun c10031 => ?_) (fun c10031 => ?_)
      · have E := (if_neg c10031).symm.trans E
        refine ea_aload_n (pc := 107) dX5_readProduct_107 rfl 0 rfl ?_
        refine ea_iload_n (pc := 108) dX5_readProduct_108 rfl 3 rfl ?_
        refine ea_if_eq (pc := 109) (tgt := 117) dX5_readProduct_109 rfl (fun c10030 => ?_) (fun c10030 => ?_)
        · have E := (if_pos c10030).symm.trans E
          refine ea_bipush (pc := 117) dX5_readProduct_117 (v := (-12)) rfl ?_
          obtain ⟨z10024, E⟩ := gd_some E
          refine ea_callV (pc := 119) (d' := d - 1) (As := [vI (-12)]) (st := []) dX5_readProduct_119 kX5_put (sX5_put (d := d - 1) (by omega) hsy10022 z10024) (by omega) rfl (Nat.le_of_ble_eq_true rfl) ew_875 ew_877 ew_26 (ci := 5) rfl (by decide) (hsy10022.1 22 (by decide)).1 (hsy10022.1 22 (by decide)).2.1 ?_
          have hs10025 : ShC b0 (wX5_put b0 ((-12) : Int32) (y10022.2)) := shX5_put hsy10022
          obtain ⟨H10026, eH10026, E⟩ := let_some E
          refine ea_nm eH10026 ?_
          have hsH10026 : ShC b0 H10026 := by rw [eH10026]; exact hs10025
          refine ea_iinc (pc := 122) (v := 1) (lv' := [(0, vR (some (b0 + 22))), (1, vI x1), (2, vI (x2 + (1 : Int32)))]) dX5_readProduct_122 2 rfl rfl (Nat.le_of_ble_eq_true rfl) [1, 2, 0] rfl ?_
          refine ea_goto (pc := 125) (tgt := 12) dX5_readProduct_125 rfl ?_
          exact ((ih dep 2012 0 (x1 : Int32) ((x2 + (1 : Int32)) : Int32) 0 H10026 _ _ E hsH10026 d h0 hd).2.2.2.2.2.1 rfl)
        · have E := (if_neg c10030).symm.trans E
          refine ea_bipush (pc := 112) dX5_readProduct_112 (v := (-13)) rfl ?_
          refine ea_goto (pc := 114) (tgt := 119) dX5_readProduct_114 rfl ?_
          obtain ⟨z10027, E⟩ := gd_some E
          refine ea_callV (pc := 119) (d' := d - 1) (As := [vI (-13)]) (st := []) dX5_readProduct_119 kX5_put (sX5_put (d := d - 1) (by omega) hsy10022 z10027) (by omega) rfl (Nat.le_of_ble_eq_true rfl) ew_875 ew_877 ew_26 (ci := 5) rfl (by decide) (hsy10022.1 22 (by decide)).1 (hsy10022.1 22 (by decide)).2.1 ?_
          have hs10028 : ShC b0 (wX5_put b0 ((-13) : Int32) (y10022.2)) := shX5_put hsy10022
          obtain ⟨H10029, eH10029, E⟩ := let_some E
          refine ea_nm eH10029 ?_
          have hsH10029 : ShC b0 H10029 := by rw [eH10029]; exact hs10028
          refine ea_iinc (pc := 122) (v := 1) (lv' := [(0, vR (some (b0 + 22))), (1, vI x1), (2, vI (x2 + (1 : Int32)))]) dX5_readProduct_122 2 rfl rfl (Nat.le_of_ble_eq_true rfl) [1, 2, 0] rfl ?_
          refine ea_goto (pc := 125) (tgt := 12) dX5_readProduct_125 rfl ?_
          exact ((ih dep 2012 0 (x1 : Int32) ((x2 + (1 : Int32)) : Int32) 0 H10029 _ _ E hsH10029 d h0 hd).2.2.2.2.2.1 rfl)
      · have E := (if_pos c10031).symm.trans E
        refine ea_iconst (pc := 105) dX5_readProduct_105 (v := 0) rfl ?_
        exact ea_iretO (pc := 106) dX5_readProduct_106 rfl (ea_bn (Or.inl rfl)) E
    refine ⟨?_, ?_⟩
    · intro el
      subst el
      have E := (if_neg (by decide)).symm.trans E
      have E := (if_neg (by decide)).symm.trans E
      have E := (if_neg (by decide)).symm.trans E
      have E := (if_neg (by decide)).symm.trans E
      have E := (if_neg (by decide)).symm.trans E
      have E := (if_neg (by decide)).symm.trans E
      have E := (if_neg (by decide)).symm.trans E
      have E := (if_neg (by decide)).symm.trans E
      have E := (if_neg (by decide)).symm.trans E
      have E := (if_neg (by decide)).symm.trans E
      have E := (if_pos rfl).symm.trans E
      refine ea_aload_n (pc := 0) dX5_readUnit_0 rfl 0 rfl ?_
      refine ea_getI (pc := 1) dX5_readUnit_1 ec_5 (k := 9) (Nat.le_of_ble_eq_true rfl) rfl (Or.inl ew_303) (hs.1 22 (by decide)).1 (hs.1 22 (by decide)).2.1 ?_
      refine ea_bipush (pc := 4) dX5_readUnit_4 (v := 18) rfl ?_
      refine ea_icmp_ne (pc := 6) (tgt := 28) dX5_readUnit_6 rfl (fun c20016 => ?_) (fun c20016 => ?_)
      · have E := (if_neg c20016).symm.trans E
        refine ea_aload_n (pc := 28) dX5_readUnit_28 rfl 0 rfl ?_
        refine ea_getI (pc := 29) dX5_readUnit_29 ec_5 (k := 9) (Nat.le_of_ble_eq_true rfl) rfl (Or.inl ew_303) (hs.1 22 (by decide)).1 (hs.1 22 (by decide)).2.1 ?_
        refine ea_bipush (pc := 32) dX5_readUnit_32 (v := 6) rfl ?_
        refine ea_icmp_lt (pc := 34) (tgt := 65) dX5_readUnit_34 rfl (fun c20008 => ?_) (fun c20008 => ?_)
        · have E := (if_pos c20008).symm.trans E
          exact ((ih dep 3065 0 (x1 : Int32) 0 0 h _ _ E hs d h0 hd).2.2.2.2.2.2.2.2.2.2.2 rfl)
        · have E := (if_neg c20008).symm.trans E
          refine ea_aload_n (pc := 37) dX5_readUnit_37 rfl 0 rfl ?_
          refine ea_getI (pc := 38) dX5_readUnit_38 ec_5 (k := 9) (Nat.le_of_ble_eq_true rfl) rfl (Or.inl ew_303) (hs.1 22 (by decide)).1 (hs.1 22 (by decide)).2.1 ?_
          refine ea_bipush (pc := 41) dX5_readUnit_41 (v := 12) rfl ?_
          refine ea_icmp_gt (pc := 43) (tgt := 65) dX5_readUnit_43 rfl (fun c20007 => ?_) (fun c20007 => ?_)
          · have E := (if_pos c20007).symm.trans E
            exact ((ih dep 3065 0 (x1 : Int32) 0 0 h _ _ E hs d h0 hd).2.2.2.2.2.2.2.2.2.2.2 rfl)
          · have E := (if_neg c20007).symm.trans E
            refine ea_aload_n (pc := 46) dX5_readUnit_46 rfl 0 rfl ?_
            refine ea_iconst (pc := 47) dX5_readUnit_47 (v := (-1)) rfl ?_
            refine ea_aload_n (pc := 48) dX5_readUnit_48 rfl 0 rfl ?_
            refine ea_getI (pc := 49) dX5_readUnit_49 ec_5 (k := 9) (Nat.le_of_ble_eq_true rfl) rfl (Or.inl ew_303) (hs.1 22 (by decide)).1 (hs.1 22 (by decide)).2.1 ?_
            refine ea_bipush (pc := 52) dX5_readUnit_52 (v := 6) rfl ?_
            refine ea_isub (pc := 54) dX5_readUnit_54 ?_
            refine ea_isub (pc := 55) dX5_readUnit_55 ?_
            obtain ⟨z20001, E⟩ := gd_some E
            refine ea_callV (pc := 56) (d' := d - 1) (As := [vI (((-1) : Int32) - ((ea_i h (b0 + 22) 9) - (6 : Int32)))]) (st := []) dX5_readUnit_56 kX5_put (sX5_put (d := d - 1) (by omega) hs z20001) (by omega) rfl (Nat.le_of_ble_eq_true rfl) ew_875 ew_877 ew_26 (ci := 5) rfl (by decide) (hs.1 22 (by decide)).1 (hs.1 22 (by decide)).2.1 ?_
            have hs20002 : ShC b0 (wX5_put b0 ((((-1) : Int32) - ((ea_i h (b0 + 22) 9) - (6 : Int32))) : Int32) h) := shX5_put hs
            obtain ⟨H20003, eH20003, E⟩ := let_some E
            refine ea_nm eH20003 ?_
            have hsH20003 : ShC b0 H20003 := by rw [eH20003]; exact hs20002
            refine ea_aload_n (pc := 59) dX5_readUnit_59 rfl 0 rfl ?_
            obtain ⟨z20004, E⟩ := gd_some E
            refine ea_callV (pc := 60) (d' := d - 1) (As := []) (st := []) dX5_readUnit_60 kX5_step (sX5_step (d := d - 1) (by omega) hsH20003 z20004) (by omega) rfl (Nat.le_of_ble_eq_true rfl) ew_859 ew_861 ew_22 (ci := 5) rfl (by decide) (hsH20003.1 22 (by decide)).1 (hsH20003.1 22 (by decide)).2.1 ?_
            have hs20005 : ShC b0 (wX5_step b0 H20003) := shX5_step hsH20003
            obtain ⟨H20006, eH20006, E⟩ := let_some E
            refine ea_nm eH20006 ?_
            have hsH20006 : ShC b0 H20006 := by rw [eH20006]; exact hs20005
            refine ea_iconst (pc := 63) dX5_readUnit_63 (v := 1) rfl ?_
            exact ea_iretO (pc := 64) dX5_readUnit_64 rfl (ea_bn (Or.inr rfl)) E
      · have E := (if_pos c20016).symm.trans E
        refine ea_aload_n (pc := 9) dX5_readUnit_9 rfl 0 rfl ?_
        refine ea_aload_n (pc := 10) dX5_readUnit_10 rfl 0 rfl ?_
        refine ea_getR (pc := 11) dX5_readUnit_11 ec_5 (k := 6) (Nat.le_of_ble_eq_true rfl) rfl (Or.inl ew_300) (hs.1 22 (by decide)).1 (hs.1 22 (by decide)).2.1 (hs.2 22 6 rfl) ?_
        refine ea_aload_n (pc := 14) dX5_readUnit_14 rfl 0 rfl ?_
        refine ea_getI (pc := 15) dX5_readUnit_15 ec_5 (k := 8) (Nat.le_of_ble_eq_true rfl) rfl (Or.inl ew_302) (hs.1 22 (by decide)).1 (hs.1 22 (by decide)).2.1 ?_
        obtain ⟨z20009, E⟩ := gd_some E
        refine ea_iald (pc := 18) dX5_readUnit_18 (hs.1 26 (by decide)).1 (hs.1 26 (by decide)).2.1 (ea_vpl (hs.1 26 (by decide)).2.2 z20009) ?_
        obtain ⟨z20010, E⟩ := gd_some E
        refine ea_callV (pc := 19) (d' := d - 1) (As := [vI (ea_i h (b0 + 26) (Int32.toNatClampNeg (ea_i h (b0 + 22) 8)))]) (st := []) dX5_readUnit_19 kX5_put (sX5_put (d := d - 1) (by omega) hs z20010) (by omega) rfl (Nat.le_of_ble_eq_true rfl) ew_875 ew_877 ew_26 (ci := 5) rfl (by decide) (hs.1 22 (by decide)).1 (hs.1 22 (by decide)).2.1 ?_
        have hs20011 : ShC b0 (wX5_put b0 ((ea_i h (b0 + 26) (Int32.toNatClampNeg (ea_i h (b0 + 22) 8))) : Int32) h) := shX5_put hs
        obtain ⟨H20012, eH20012, E⟩ := let_some E
        refine ea_nm eH20012 ?_
        have hsH20012 : ShC b0 H20012 := by rw [eH20012]; exact hs20011
        refine ea_aload_n (pc := 22) dX5_readUnit_22 rfl 0 rfl ?_
        obtain ⟨z20013, E⟩ := gd_some E
        refine ea_callV (pc := 23) (d' := d - 1) (As := []) (st := []) dX5_readUnit_23 kX5_step (sX5_step (d := d - 1) (by omega) hsH20012 z20013) (by omega) rfl (Nat.le_of_ble_eq_true rfl) ew_859 ew_861 ew_22 (ci := 5) rfl (by decide) (hsH20012.1 22 (by decide)).1 (hsH20012.1 22 (by decide)).2.1 ?_
        have hs20014 : ShC b0 (wX5_step b0 H20012) := shX5_step hsH20012
        obtain ⟨H20015, eH20015, E⟩ := let_some E
        refine ea_nm eH20015 ?_
        have hsH20015 : ShC b0 H20015 := by rw [eH20015]; exact hs20014
        refine ea_iconst (pc := 26) dX5_readUnit_26 (v := 1) rfl ?_
        exact ea_iretO (pc := 27) dX5_readUnit_27 rfl (ea_bn (Or.inr rfl)) E
    intro el
    subst el
    have E := (if_neg (by decide)).symm.trans E
    have E := (if_neg (by decide)).symm.trans E
    have E := (if_neg (by decide)).symm.trans E
    have E := (if_neg (by decide)).symm.trans E
    have E := (if_neg (by decide)).symm.trans E
    have E := (if_neg (by decide)).symm.trans E
    have E := (if_neg (by decide)).symm.trans E
    have E := (if_neg (by decide)).symm.trans E
    have E := (if_neg (by decide)).symm.trans E
    have E := (if_neg (by decide)).symm.trans E
    have E := (if_neg (by decide)).symm.trans E
    have E := (if_pos rfl).symm.trans E
    refine ea_aload_n (pc := 65) dX5_readUnit_65 rfl 0 rfl ?_
    refine ea_getI (pc := 66) dX5_readUnit_66 ec_5 (k := 9) (Nat.le_of_ble_eq_true rfl) rfl (Or.inl ew_303) (hs.1 22 (by decide)).1 (hs.1 22 (by decide)).2.1 ?_
    refine ea_bipush (pc := 69) dX5_readUnit_69 (v := 40) rfl ?_
    refine ea_icmp_eq (pc := 71) (tgt := 80) dX5_readUnit_71 rfl (fun c20037 => ?_) (fun c20037 => ?_)
    · have E := (if_pos c20037).symm.trans E
      refine ea_iload_n (pc := 80) dX5_readUnit_80 rfl 1 rfl ?_
      refine ea_bipush (pc := 81) dX5_readUnit_81 (v := 8) rfl ?_
      refine ea_icmp_lt (pc := 83) (tgt := 92) dX5_readUnit_83 rfl (fun c20033 => ?_) (fun c20033 => ?_)
      · have E := (if_pos c20033).symm.trans E
        refine ea_aload_n (pc := 92) dX5_readUnit_92 rfl 0 rfl ?_
        obtain ⟨z20017, E⟩ := gd_some E
        refine ea_callV (pc := 93) (d' := d - 1) (As := []) (st := []) dX5_readUnit_93 kX5_step (sX5_step (d := d - 1) (by omega) hs z20017) (by omega) rfl (Nat.le_of_ble_eq_true rfl) ew_859 ew_861 ew_22 (ci := 5) rfl (by decide) (hs.1 22 (by decide)).1 (hs.1 22 (by decide)).2.1 ?_
        have hs20018 : ShC b0 (wX5_step b0 h) := shX5_step hs
        obtain ⟨H20019, eH20019, E⟩ := let_some E
        refine ea_nm eH20019 ?_
        have hsH20019 : ShC b0 H20019 := by rw [eH20019]; exact hs20018
        refine ea_aload_n (pc := 96) dX5_readUnit_96 rfl 0 rfl ?_
        refine ea_iload_n (pc := 97) dX5_readUnit_97 rfl 1 rfl ?_
        refine ea_iconst (pc := 98) dX5_readUnit_98 (v := 1) rfl ?_
        refine ea_iadd (pc := 99) dX5_readUnit_99 ?_
        obtain ⟨zd20021, E⟩ := gd_some E
        obtain ⟨y20020, Ey20020, E⟩ := bd_some E
        have hsy20020 : ShC b0 y20020.2 := zCG b0 f _ _ _ _ _ _ _ _ _ Ey20020 hsH20019
        refine ea_callV (pc := 100) (d' := d - 1) (As := [vI (x1 + (1 : Int32))]) (st := []) dX5_readUnit_100 kX5_readSum (ea_enter rfl (Nat.le_of_ble_eq_true rfl) ((ih (dep - 1) 1000 0 ((x1 + (1 : Int32)) : Int32) 0 0 H20019 _ _ Ey20020 hsH20019 (d - 1) H20019 (by omega)).1 rfl)) (by omega) rfl (Nat.le_of_ble_eq_true rfl) ew_863 ew_865 ew_23 (ci := 5) rfl (by decide) (hsH20019.1 22 (by decide)).1 (hsH20019.1 22 (by decide)).2.1 ?_
        refine ea_if_ne (pc := 103) (tgt := 108) dX5_readUnit_103 rfl (fun c20029 => ?_) (fun c20029 => ?_)
        · have E := (if_neg c20029).symm.trans E
          refine ea_aload_n (pc := 108) dX5_readUnit_108 rfl 0 rfl ?_
          refine ea_getI (pc := 109) dX5_readUnit_109 ec_5 (k := 9) (Nat.le_of_ble_eq_true rfl) rfl (Or.inl ew_303) (hsy20020.1 22 (by decide)).1 (hsy20020.1 22 (by decide)).2.1 ?_
          refine ea_bipush (pc := 112) dX5_readUnit_112 (v := 41) rfl ?_
          refine ea_icmp_eq (pc := 114) (tgt := 123) dX5_readUnit_114 rfl (fun c20028 => ?_) (fun c20028 => ?_)
          · have E := (if_pos c20028).symm.trans E
            refine ea_aload_n (pc := 123) dX5_readUnit_123 rfl 0 rfl ?_
            obtain ⟨z20022, E⟩ := gd_some E
            refine ea_callV (pc := 124) (d' := d - 1) (As := []) (st := []) dX5_readUnit_124 kX5_step (sX5_step (d := d - 1) (by omega) hsy20020 z20022) (by omega) rfl (Nat.le_of_ble_eq_true rfl) ew_859 ew_861 ew_22 (ci := 5) rfl (by decide) (hsy20020.1 22 (by decide)).1 (hsy20020.1 22 (by decide)).2.1 ?_
            have hs20023 : ShC b0 (wX5_step b0 (y20020.2)) := shX5_step hsy20020
            obtain ⟨H20024, eH20024, E⟩ := let_some E
            refine ea_nm eH20024 ?_
            have hsH20024 : ShC b0 H20024 := by rw [eH20024]; exact hs20023
            refine ea_iconst (pc := 127) dX5_readUnit_127 (v := 1) rfl ?_
            exact ea_iretO (pc := 128) dX5_readUnit_128 rfl (ea_bn (Or.inr rfl)) E
          · have E := (if_neg c20028).symm.trans E
            refine ea_aload_n (pc := 117) dX5_readUnit_117 rfl 0 rfl ?_
            refine ea_iconst (pc := 118) dX5_readUnit_118 (v := 1) rfl ?_
            obtain ⟨z20025, E⟩ := gd_some E
            refine ea_callV (pc := 119) (d' := d - 1) (As := [vI 1]) (st := []) dX5_readUnit_119 kX5_refuse (sX5_refuse (d := d - 1) (by omega) hsy20020 z20025) (by omega) rfl (Nat.le_of_ble_eq_true rfl) ew_851 ew_853 ew_20 (ci := 5) rfl (by decide) (hsy20020.1 22 (by decide)).1 (hsy20020.1 22 (by decide)).2.1 ?_
            have hs20026 : ShC b0 (wX5_refuse b0 (1 : Int32) (y20020.2)) := shX5_refuse hsy20020
            obtain ⟨H20027, eH20027, E⟩ := let_some E
            refine ea_nm eH20027 ?_
            have hsH20027 : ShC b0 H20027 := by rw [eH20027]; exact hs20026
            exact ea_iretO (pc := 122) dX5_readUnit_122 rfl (ea_bn (bo_vX5_refuse _ _ _)) E
        · have E := (if_pos c20029).symm.trans E
          refine ea_iconst (pc := 106) dX5_readUnit_106 (v := 0) rfl ?_
          exact ea_iretO (pc := 107) dX5_readUnit_107 rfl (ea_bn (Or.inl rfl)) E
      · have E := (if_neg c20033).symm.trans E
        refine ea_aload_n (pc := 86) dX5_readUnit_86 rfl 0 rfl ?_
        refine ea_iconst (pc := 87) dX5_readUnit_87 (v := 3) rfl ?_
        obtain ⟨z20030, E⟩ := gd_some E
        refine ea_callV (pc := 88) (d' := d - 1) (As := [vI 3]) (st := []) dX5_readUnit_88 kX5_refuse (sX5_refuse (d := d - 1) (by omega) hs z20030) (by omega) rfl (Nat.le_of_ble_eq_true rfl) ew_851 ew_853 ew_20 (ci := 5) rfl (by decide) (hs.1 22 (by decide)).1 (hs.1 22 (by decide)).2.1 ?_
        have hs20031 : ShC b0 (wX5_refuse b0 (3 : Int32) h) := shX5_refuse hs
        obtain ⟨H20032, eH20032, E⟩ := let_some E
        refine ea_nm eH20032 ?_
        have hsH20032 : ShC b0 H20032 := by rw [eH20032]; exact hs20031
        exact ea_iretO (pc := 91) dX5_readUnit_91 rfl (ea_bn (bo_vX5_refuse _ _ _)) E
    · have E := (if_neg c20037).symm.trans E
      refine ea_aload_n (pc := 74) dX5_readUnit_74 rfl 0 rfl ?_
      refine ea_iconst (pc := 75) dX5_readUnit_75 (v := 1) rfl ?_
      obtain ⟨z20034, E⟩ := gd_some E
      refine ea_callV (pc := 76) (d' := d - 1) (As := [vI 1]) (st := []) dX5_readUnit_76 kX5_refuse (sX5_refuse (d := d - 1) (by omega) hs z20034) (by omega) rfl (Nat.le_of_ble_eq_true rfl) ew_851 ew_853 ew_20 (ci := 5) rfl (by decide) (hs.1 22 (by decide)).1 (hs.1 22 (by decide)).2.1 ?_
      have hs20035 : ShC b0 (wX5_refuse b0 (1 : Int32) h) := shX5_refuse hs
      obtain ⟨H20036, eH20036, E⟩ := let_some E
      refine ea_nm eH20036 ?_
      have hsH20036 : ShC b0 H20036 := by rw [eH20036]; exact hs20035
      exact ea_iretO (pc := 79) dX5_readUnit_79 rfl (ea_bn (bo_vX5_refuse _ _ _)) E
noncomputable def qX5_readSum (b0 : Nat) (x1 : Int32) (h : ea_H) : Option (Int32 × ea_H) := gCG b0 1000000000 40 1000 0 x1 0 0 h
def okX5_readSum (b0 : Nat) (x1 : Int32) (h : ea_H) : Prop := ∃ x, qX5_readSum b0 x1 h = some x
noncomputable def vX5_readSum (b0 : Nat) (x1 : Int32) (h : ea_H) : Int32 := ((qX5_readSum b0 x1 h).getD (0, h)).1
noncomputable def wX5_readSum (b0 : Nat) (x1 : Int32) (h : ea_H) : ea_H := ((qX5_readSum b0 x1 h).getD (0, h)).2
theorem sX5_readSum {d : Nat} {b0 : Nat} {x1 : Int32} {h : ea_H} (hd : 42 ≤ d) (hs : ShC b0 h) (K : okX5_readSum b0 x1 h) : ea_Met mX5_readSum d [vR (some (b0 + 22)), vI x1] h (some (vI (vX5_readSum b0 x1 h))) (wX5_readSum b0 x1 h) := by
  obtain ⟨⟨x, y⟩, K⟩ := K
  unfold wX5_readSum vX5_readSum
  rw [K]
  unfold qX5_readSum at K
  exact ea_enter rfl (Nat.le_of_ble_eq_true rfl) ((tCG b0 1000000000 40 1000 0 x1 0 0 h x y K hs d h hd).1 rfl)
theorem shX5_readSum {b0 : Nat} {x1 : Int32} {h : ea_H} (hs : ShC b0 h) : ShC b0 (wX5_readSum b0 x1 h) := by
  unfold wX5_readSum
  cases K : qX5_readSum b0 x1 h with
  | none => exact hs
  | some x => obtain ⟨x, y⟩ := x; unfold qX5_readSum at K; exact zCG b0 _ _ _ _ _ _ _ _ _ _ K hs
noncomputable def qX5_readProduct (b0 : Nat) (x1 : Int32) (h : ea_H) : Option (Int32 × ea_H) := gCG b0 1000000000 40 2000 0 x1 0 0 h
def okX5_readProduct (b0 : Nat) (x1 : Int32) (h : ea_H) : Prop := ∃ x, qX5_readProduct b0 x1 h = some x
noncomputable def vX5_readProduct (b0 : Nat) (x1 : Int32) (h : ea_H) : Int32 := ((qX5_readProduct b0 x1 h).getD (0, h)).1
noncomputable def wX5_readProduct (b0 : Nat) (x1 : Int32) (h : ea_H) : ea_H := ((qX5_readProduct b0 x1 h).getD (0, h)).2
theorem sX5_readProduct {d : Nat} {b0 : Nat} {x1 : Int32} {h : ea_H} (hd : 42 ≤ d) (hs : ShC b0 h) (K : okX5_readProduct b0 x1 h) : ea_Met mX5_readProduct d [vR (some (b0 + 22)), vI x1] h (some (vI (vX5_readProduct b0 x1 h))) (wX5_readProduct b0 x1 h) := by
  obtain ⟨⟨x, y⟩, K⟩ := K
  unfold wX5_readProduct vX5_readProduct
  rw [K]
  unfold qX5_readProduct at K
  exact ea_enter rfl (Nat.le_of_ble_eq_true rfl) ((tCG b0 1000000000 40 2000 0 x1 0 0 h x y K hs d h hd).2.2.2.2.1 rfl)
theorem shX5_readProduct {b0 : Nat} {x1 : Int32} {h : ea_H} (hs : ShC b0 h) : ShC b0 (wX5_readProduct b0 x1 h) := by
  unfold wX5_readProduct
  cases K : qX5_readProduct b0 x1 h with
  | none => exact hs
  | some x => obtain ⟨x, y⟩ := x; unfold qX5_readProduct at K; exact zCG b0 _ _ _ _ _ _ _ _ _ _ K hs
noncomputable def qX5_readUnit (b0 : Nat) (x1 : Int32) (h : ea_H) : Option (Int32 × ea_H) := gCG b0 1000000000 40 3000 0 x1 0 0 h
def okX5_readUnit (b0 : Nat) (x1 : Int32) (h : ea_H) : Prop := ∃ x, qX5_readUnit b0 x1 h = some x
noncomputable def vX5_readUnit (b0 : Nat) (x1 : Int32) (h : ea_H) : Int32 := ((qX5_readUnit b0 x1 h).getD (0, h)).1
noncomputable def wX5_readUnit (b0 : Nat) (x1 : Int32) (h : ea_H) : ea_H := ((qX5_readUnit b0 x1 h).getD (0, h)).2
theorem sX5_readUnit {d : Nat} {b0 : Nat} {x1 : Int32} {h : ea_H} (hd : 42 ≤ d) (hs : ShC b0 h) (K : okX5_readUnit b0 x1 h) : ea_Met mX5_readUnit d [vR (some (b0 + 22)), vI x1] h (some (vI (vX5_readUnit b0 x1 h))) (wX5_readUnit b0 x1 h) := by
  obtain ⟨⟨x, y⟩, K⟩ := K
  unfold wX5_readUnit vX5_readUnit
  rw [K]
  unfold qX5_readUnit at K
  exact ea_enter rfl (Nat.le_of_ble_eq_true rfl) ((tCG b0 1000000000 40 3000 0 x1 0 0 h x y K hs d h hd).2.2.2.2.2.2.2.2.2.2.1 rfl)
theorem shX5_readUnit {b0 : Nat} {x1 : Int32} {h : ea_H} (hs : ShC b0 h) : ShC b0 (wX5_readUnit b0 x1 h) := by
  unfold wX5_readUnit
  cases K : qX5_readUnit b0 x1 h with
  | none => exact hs
  | some x => obtain ⟨x, y⟩ := x; unfold qX5_readUnit at K; exact zCG b0 _ _ _ _ _ _ _ _ _ _ K hs
noncomputable def gX5_readWhen (b0 : Nat) : Nat → Nat → Int32 → Int32 → Int32 → Int32 → ea_H → Option (Int32 × ea_H)
  | 0, _, _, _, _, _, _ => none
  | f + 1, lbl, sx0, x1, x2, x3, h =>
    if lbl = 0 then (gX5_readWhen b0 f 7 0 (0 : Int32) (13 : Int32) (0 : Int32) h) else
    if lbl = 7 then (if (600 : Int32) < x3 then (some ((0 : Int32), h)) else (gd ((okX5_readNots b0 h)) (ea_let (wX5_readNots b0 h) fun H3 => (if (vX5_readNots b0 h) = ((-1) : Int32) then (some ((0 : Int32), H3)) else (gd ((okX5_readSum b0 ((vX5_readNots b0 h) : Int32) H3)) (ea_let (wX5_readSum b0 ((vX5_readNots b0 h) : Int32) H3) fun H6 => (if (vX5_readSum b0 ((vX5_readNots b0 h) : Int32) H3) = (0 : Int32) then (some ((0 : Int32), H6)) else (if (vX5_comparison b0 H6) = ((-1) : Int32) then (gd ((okX5_refuse b0 (1 : Int32) H6)) (ea_let (wX5_refuse b0 (1 : Int32) H6) fun H24 => (some ((vX5_refuse b0 (1 : Int32) H6), H24)))) else (gd ((okX5_step b0 H6)) (ea_let (wX5_step b0 H6) fun H10 => (gd ((okX5_readSum b0 ((vX5_readNots b0 h) : Int32) H10)) (ea_let (wX5_readSum b0 ((vX5_readNots b0 h) : Int32) H10) fun H13 => (if (vX5_readSum b0 ((vX5_readNots b0 h) : Int32) H10) = (0 : Int32) then (some ((0 : Int32), H13)) else (gd ((okX5_put b0 ((vX5_comparison b0 H6) : Int32) H13)) (ea_let (wX5_put b0 ((vX5_comparison b0 H6) : Int32) H13) fun H16 => (if ((vX5_readNots b0 h) - (vX5_readNots b0 h) / (2 : Int32) * (2 : Int32)) = (1 : Int32) then (gd ((okX5_put b0 ((-17) : Int32) H16)) (ea_let (wX5_put b0 ((-17) : Int32) H16) fun H19 => (gX5_readWhen b0 f 90 0 (x1 : Int32) (x2 : Int32) (x3 : Int32) H19))) else (gX5_readWhen b0 f 90 0 (x1 : Int32) (x2 : Int32) (x3 : Int32) H16))))))))))))))))) else
    if lbl = 90 then (if x2 = (16 : Int32) then (gd ((okX5_put b0 ((-18) : Int32) h)) (ea_let (wX5_put b0 ((-18) : Int32) h) fun H31 => (gX5_readWhen b0 f 102 0 (x1 : Int32) 0 (x3 : Int32) H31))) else (gX5_readWhen b0 f 102 0 (x1 : Int32) 0 (x3 : Int32) h)) else
    if lbl = 102 then (if (ea_i h (b0 + 22) 9) = (16 : Int32) then (gd ((okX5_step b0 h)) (ea_let (wX5_step b0 h) fun H35 => (gX5_readWhen b0 f 7 0 (x1 : Int32) ((ea_i h (b0 + 22) 9) : Int32) ((x3 + (1 : Int32)) : Int32) H35))) else (if x1 = (0 : Int32) then (gX5_readWhen b0 f 123 0 0 ((ea_i h (b0 + 22) 9) : Int32) (x3 : Int32) h) else (gd ((okX5_put b0 ((-19) : Int32) h)) (ea_let (wX5_put b0 ((-19) : Int32) h) fun H38 => (gX5_readWhen b0 f 123 0 0 ((ea_i h (b0 + 22) 9) : Int32) (x3 : Int32) H38))))) else
    if lbl = 123 then (if x2 = (17 : Int32) then (gX5_readWhen b0 f 134 (1 : Int32) 0 (x2 : Int32) (x3 : Int32) h) else (gX5_readWhen b0 f 134 (0 : Int32) 0 (x2 : Int32) (x3 : Int32) h)) else
    if lbl = 134 then (if sx0 = (0 : Int32) then (some ((1 : Int32), h)) else (gd ((okX5_step b0 h)) (ea_let (wX5_step b0 h) fun H44 => (gX5_readWhen b0 f 7 0 (sx0 : Int32) (x2 : Int32) ((x3 + (1 : Int32)) : Int32) H44)))) else none
theorem tX5_readWhen {d : Nat} {b0 : Nat} {h0 : ea_H} (hd : 43 ≤ d) : ∀ (f lbl : Nat) (sx0 : Int32) (x1 : Int32) (x2 : Int32) (x3 : Int32) (h : ea_H) (r : Int32) (h' : ea_H), gX5_readWhen b0 f lbl sx0 x1 x2 x3 h = some (r, h') → ShC b0 h → (lbl = 0 → ea_W mX5_readWhen d h0 (some (vI r)) h' 0 [(0, vR (some (b0 + 22)))] [] h) ∧ (lbl = 7 → ea_W mX5_readWhen d h0 (some (vI r)) h' 7 [(0, vR (some (b0 + 22))), (1, vI x1), (2, vI x2), (3, vI x3)] [] h) ∧ (lbl = 90 → ea_W mX5_readWhen d h0 (some (vI r)) h' 90 [(0, vR (some (b0 + 22))), (1, vI x1), (2, vI x2), (3, vI x3)] [] h) ∧ (lbl = 102 → ea_W mX5_readWhen d h0 (some (vI r)) h' 102 [(0, vR (some (b0 + 22))), (1, vI x1), (3, vI x3)] [] h) ∧ (lbl = 123 → ea_W mX5_readWhen d h0 (some (vI r)) h' 123 [(0, vR (some (b0 + 22))), (2, vI x2), (3, vI x3)] [] h) ∧ (lbl = 134 → ea_W mX5_readWhen d h0 (some (vI r)) h' 134 [(0, vR (some (b0 + 22))), (2, vI x2), (3, vI x3)] [vI sx0] h) := by
  intro f
  induction f with
  | zero => intro lbl sx0 x1 x2 x3 h r h' E; cases E
  | succ f ih =>
    intro lbl sx0 x1 x2 x3 h r h' E hs
    unfold gX5_readWhen at E
    refine ⟨?_, ?_⟩
    · intro el
      subst el
      have E := (if_pos rfl).symm.trans E
      refine ea_iconst (pc := 0) dX5_readWhen_0 (v := 0) rfl ?_
      refine ea_istore_n (pc := 1) (lv' := [(0, vR (some (b0 + 22))), (1, vI 0)]) dX5_readWhen_1 rfl (Nat.le_of_ble_eq_true rfl) [1, 0] rfl ?_
      refine ea_bipush (pc := 2) dX5_readWhen_2 (v := 13) rfl ?_
      refine ea_istore_n (pc := 4) (lv' := [(0, vR (some (b0 + 22))), (1, vI 0), (2, vI 13)]) dX5_readWhen_4 rfl (Nat.le_of_ble_eq_true rfl) [1, 2, 0] rfl ?_
      refine ea_iconst (pc := 5) dX5_readWhen_5 (v := 0) rfl ?_
      refine ea_istore_n (pc := 6) (lv' := [(0, vR (some (b0 + 22))), (1, vI 0), (2, vI 13), (3, vI 0)]) dX5_readWhen_6 rfl (Nat.le_of_ble_eq_true rfl) [1, 2, 3, 0] rfl ?_
      exact ((ih 7 0 (0 : Int32) (13 : Int32) (0 : Int32) h _ _ E hs).2.1 rfl)
    refine ⟨?_, ?_⟩
    · intro el
      subst el
      have E := (if_neg (by decide)).symm.trans E
      have E := (if_pos rfl).symm.trans E
      refine ea_iload_n (pc := 7) dX5_readWhen_7 rfl 3 rfl ?_
      refine ea_sipush (pc := 8) dX5_readWhen_8 (v := 600) rfl ?_
      refine ea_icmp_gt (pc := 11) (tgt := 151) dX5_readWhen_11 rfl (fun c28 => ?_) (fun c28 => ?_)
      · have E := (if_pos c28).symm.trans E
        refine ea_iconst (pc := 151) dX5_readWhen_151 (v := 0) rfl ?_
        exact ea_iretO (pc := 152) dX5_readWhen_152 rfl (ea_bn (Or.inl rfl)) E
      · have E := (if_neg c28).symm.trans E
        refine ea_aload_n (pc := 14) dX5_readWhen_14 rfl 0 rfl ?_
        obtain ⟨z1, E⟩ := gd_some E
        refine ea_callV (pc := 15) (d' := d - 1) (As := []) (st := []) dX5_readWhen_15 kX5_readNots (sX5_readNots (d := d - 1) (by omega) hs z1) (by omega) rfl (Nat.le_of_ble_eq_true rfl) ew_883 ew_885 ew_28 (ci := 5) rfl (by decide) (hs.1 22 (by decide)).1 (hs.1 22 (by decide)).2.1 ?_
        have hs2 : ShC b0 (wX5_readNots b0 h) := shX5_readNots hs
        obtain ⟨H3, eH3, E⟩ := let_some E
        refine ea_nm eH3 ?_
        have hsH3 : ShC b0 H3 := by rw [eH3]; exact hs2
        refine ea_istore (pc := 18) (lv' := [(0, vR (some (b0 + 22))), (1, vI x1), (2, vI x2), (3, vI x3), (4, vI (vX5_readNots b0 h))]) dX5_readWhen_18 (Nat.le_of_ble_eq_true rfl) [1, 2, 3, 4, 0] rfl ?_
        refine ea_iload (pc := 20) dX5_readWhen_20 4 rfl ?_
        refine ea_iconst (pc := 22) dX5_readWhen_22 (v := (-1)) rfl ?_
        refine ea_icmp_eq (pc := 23) (tgt := 35) dX5_readWhen_23 rfl (fun c27 => ?_) (fun c27 => ?_)
        · have E := (if_pos c27).symm.trans E
          refine ea_iconst (pc := 35) dX5_readWhen_35 (v := 0) rfl ?_
          exact ea_iretO (pc := 36) dX5_readWhen_36 rfl (ea_bn (Or.inl rfl)) E
        · have E := (if_neg c27).symm.trans E
          refine ea_aload_n (pc := 26) dX5_readWhen_26 rfl 0 rfl ?_
          refine ea_iload (pc := 27) dX5_readWhen_27 4 rfl ?_
          obtain ⟨z4, E⟩ := gd_some E
          refine ea_callV (pc := 29) (d' := d - 1) (As := [vI (vX5_readNots b0 h)]) (st := []) dX5_readWhen_29 kX5_readSum (sX5_readSum (d := d - 1) (by omega) hsH3 z4) (by omega) rfl (Nat.le_of_ble_eq_true rfl) ew_863 ew_865 ew_23 (ci := 5) rfl (by decide) (hsH3.1 22 (by decide)).1 (hsH3.1 22 (by decide)).2.1 ?_
          have hs5 : ShC b0 (wX5_readSum b0 ((vX5_readNots b0 h) : Int32) H3) := shX5_readSum hsH3
          obtain ⟨H6, eH6, E⟩ := let_some E
          refine ea_nm eH6 ?_
          have hsH6 : ShC b0 H6 := by rw [eH6]; exact hs5
          refine ea_if_ne (pc := 32) (tgt := 37) dX5_readWhen_32 rfl (fun c26 => ?_) (fun c26 => ?_)
          · have E := (if_neg c26).symm.trans E
            refine ea_aload_n (pc := 37) dX5_readWhen_37 rfl 0 rfl ?_
            refine ea_callV (pc := 38) (d' := d - 1) (As := []) (st := []) dX5_readWhen_38 kX5_comparison (sX5_comparison (d := d - 1) (by omega) hsH6) (by omega) rfl (Nat.le_of_ble_eq_true rfl) ew_887 ew_889 ew_29 (ci := 5) rfl (by decide) (hsH6.1 22 (by decide)).1 (hsH6.1 22 (by decide)).2.1 ?_
            refine ea_istore (pc := 41) (lv' := [(0, vR (some (b0 + 22))), (1, vI x1), (2, vI x2), (3, vI x3), (4, vI (vX5_readNots b0 h)), (5, vI (vX5_comparison b0 H6))]) dX5_readWhen_41 (Nat.le_of_ble_eq_true rfl) [1, 2, 3, 4, 5, 0] rfl ?_
            refine ea_iload (pc := 43) dX5_readWhen_43 5 rfl ?_
            refine ea_iconst (pc := 45) dX5_readWhen_45 (v := (-1)) rfl ?_
            refine ea_icmp_ne (pc := 46) (tgt := 55) dX5_readWhen_46 rfl (fun c25 => ?_) (fun c25 => ?_)
            · have E := (if_neg c25).symm.trans E
              refine ea_aload_n (pc := 55) dX5_readWhen_55 rfl 0 rfl ?_
              obtain ⟨z8, E⟩ := gd_some E
              refine ea_callV (pc := 56) (d' := d - 1) (As := []) (st := []) dX5_readWhen_56 kX5_step (sX5_step (d := d - 1) (by omega) hsH6 z8) (by omega) rfl (Nat.le_of_ble_eq_true rfl) ew_859 ew_861 ew_22 (ci := 5) rfl (by decide) (hsH6.1 22 (by decide)).1 (hsH6.1 22 (by decide)).2.1 ?_
              have hs9 : ShC b0 (wX5_step b0 H6) := shX5_step hsH6
              obtain ⟨H10, eH10, E⟩ := let_some E
              refine ea_nm eH10 ?_
              have hsH10 : ShC b0 H10 := by rw [eH10]; exact hs9
              refine ea_aload_n (pc := 59) dX5_readWhen_59 rfl 0 rfl ?_
              refine ea_iload (pc := 60) dX5_readWhen_60 4 rfl ?_
              obtain ⟨z11, E⟩ := gd_some E
              refine ea_callV (pc := 62) (d' := d - 1) (As := [vI (vX5_readNots b0 h)]) (st := []) dX5_readWhen_62 kX5_readSum (sX5_readSum (d := d - 1) (by omega) hsH10 z11) (by omega) rfl (Nat.le_of_ble_eq_true rfl) ew_863 ew_865 ew_23 (ci := 5) rfl (by decide) (hsH10.1 22 (by decide)).1 (hsH10.1 22 (by decide)).2.1 ?_
              have hs12 : ShC b0 (wX5_readSum b0 ((vX5_readNots b0 h) : Int32) H10) := shX5_readSum hsH10
              obtain ⟨H13, eH13, E⟩ := let_some E
              refine ea_nm eH13 ?_
              have hsH13 : ShC b0 H13 := by rw [eH13]; exact hs12
              refine ea_if_ne (pc := 65) (tgt := 70) dX5_readWhen_65 rfl (fun c21 => ?_) (fun c21 => ?_)
              · have E := (if_neg c21).symm.trans E
                refine ea_aload_n (pc := 70) dX5_readWhen_70 rfl 0 rfl ?_
                refine ea_iload (pc := 71) dX5_readWhen_71 5 rfl ?_
                obtain ⟨z14, E⟩ := gd_some E
                refine ea_callV (pc := 73) (d' := d - 1) (As := [vI (vX5_comparison b0 H6)]) (st := []) dX5_readWhen_73 kX5_put (sX5_put (d := d - 1) (by omega) hsH13 z14) (by omega) rfl (Nat.le_of_ble_eq_true rfl) ew_875 ew_877 ew_26 (ci := 5) rfl (by decide) (hsH13.1 22 (by decide)).1 (hsH13.1 22 (by decide)).2.1 ?_
                have hs15 : ShC b0 (wX5_put b0 ((vX5_comparison b0 H6) : Int32) H13) := shX5_put hsH13
                obtain ⟨H16, eH16, E⟩ := let_some E
                refine ea_nm eH16 ?_
                have hsH16 : ShC b0 H16 := by rw [eH16]; exact hs15
                refine ea_iload (pc := 76) dX5_readWhen_76 4 rfl ?_
                refine ea_iconst (pc := 78) dX5_readWhen_78 (v := 2) rfl ?_
                refine ea_irem (pc := 79) dX5_readWhen_79 (by decide) ?_
                refine ea_iconst (pc := 80) dX5_readWhen_80 (v := 1) rfl ?_
                refine ea_icmp_ne (pc := 81) (tgt := 90) dX5_readWhen_81 rfl (fun c20 => ?_) (fun c20 => ?_)
                · have E := (if_neg c20).symm.trans E
                  exact (ea_fewer [0, 1, 2, 3] rfl ((ih 90 0 (x1 : Int32) (x2 : Int32) (x3 : Int32) H16 _ _ E hsH16).2.2.1 rfl))
                · have E := (if_pos c20).symm.trans E
                  refine ea_aload_n (pc := 84) dX5_readWhen_84 rfl 0 rfl ?_
                  refine ea_bipush (pc := 85) dX5_readWhen_85 (v := (-17)) rfl ?_
                  obtain ⟨z17, E⟩ := gd_some E
                  refine ea_callV (pc := 87) (d' := d - 1) (As := [vI (-17)]) (st := []) dX5_readWhen_87 kX5_put (sX5_put (d := d - 1) (by omega) hsH16 z17) (by omega) rfl (Nat.le_of_ble_eq_true rfl) ew_875 ew_877 ew_26 (ci := 5) rfl (by decide) (hsH16.1 22 (by decide)).1 (hsH16.1 22 (by decide)).2.1 ?_
                  have hs18 : ShC b0 (wX5_put b0 ((-17) : Int32) H16) := shX5_put hsH16
                  obtain ⟨H19, eH19, E⟩ := let_some E
                  refine ea_nm eH19 ?_
                  have hsH19 : ShC b0 H19 := by rw [eH19]; exact hs18
                  exact (ea_fewer [0, 1, 2, 3] rfl ((ih 90 0 (x1 : Int32) (x2 : Int32) (x3 : Int32) H19 _ _ E hsH19).2.2.1 rfl))
              · have E := (if_pos c21).symm.trans E
                refine ea_iconst (pc := 68) dX5_readWhen_68 (v := 0) rfl ?_
                exact ea_iretO (pc := 69) dX5_readWhen_69 rfl (ea_bn (Or.inl rfl)) E
            · have E := (if_pos c25).symm.trans E
              refine ea_aload_n (pc := 49) dX5_readWhen_49 rfl 0 rfl ?_
              refine ea_iconst (pc := 50) dX5_readWhen_50 (v := 1) rfl ?_
              obtain ⟨z22, E⟩ := gd_some E
              refine ea_callV (pc := 51) (d' := d - 1) (As := [vI 1]) (st := []) dX5_readWhen_51 kX5_refuse (sX5_refuse (d := d - 1) (by omega) hsH6 z22) (by omega) rfl (Nat.le_of_ble_eq_true rfl) ew_851 ew_853 ew_20 (ci := 5) rfl (by decide) (hsH6.1 22 (by decide)).1 (hsH6.1 22 (by decide)).2.1 ?_
              have hs23 : ShC b0 (wX5_refuse b0 (1 : Int32) H6) := shX5_refuse hsH6
              obtain ⟨H24, eH24, E⟩ := let_some E
              refine ea_nm eH24 ?_
              have hsH24 : ShC b0 H24 := by rw [eH24]; exact hs23
              exact ea_iretO (pc := 54) dX5_readWhen_54 rfl (ea_bn (bo_vX5_refuse _ _ _)) E
          · have E := (if_pos c26).symm.trans E
            refine ea_iconst (pc := 35) dX5_readWhen_35 (v := 0) rfl ?_
            exact ea_iretO (pc := 36) dX5_readWhen_36 rfl (ea_bn (Or.inl rfl)) E
    refine ⟨?_, ?_⟩
    · intro el
      subst el
      have E := (if_neg (by decide)).symm.trans E
      have E := (if_neg (by decide)).symm.trans E
      have E := (if_pos rfl).symm.trans E
      refine ea_iload_n (pc := 90) dX5_readWhen_90 rfl 2 rfl ?_
      refine ea_bipush (pc := 91) dX5_readWhen_91 (v := 16) rfl ?_
      refine ea_icmp_ne (pc := 93) (tgt := 102) dX5_readWhen_93 rfl (fun c32 => ?_) (fun c32 => ?_)
      · have E := (if_neg c32).symm.trans E
        exact (ea_fewer [0, 1, 3] rfl ((ih 102 0 (x1 : Int32) 0 (x3 : Int32) h _ _ E hs).2.2.2.1 rfl))
      · have E := (if_pos c32).symm.trans E
        refine ea_aload_n (pc := 96) dX5_readWhen_96 rfl 0 rfl ?_
        refine ea_bipush (pc := 97) dX5_readWhen_97 (v := (-18)) rfl ?_
        obtain ⟨z29, E⟩ := gd_some E
        refine ea_callV (pc := 99) (d' := d - 1) (As := [vI (-18)]) (st := []) dX5_readWhen_99 kX5_put (sX5_put (d := d - 1) (by omega) hs z29) (by omega) rfl (Nat.le_of_ble_eq_true rfl) ew_875 ew_877 ew_26 (ci := 5) rfl (by decide) (hs.1 22 (by decide)).1 (hs.1 22 (by decide)).2.1 ?_
        have hs30 : ShC b0 (wX5_put b0 ((-18) : Int32) h) := shX5_put hs
        obtain ⟨H31, eH31, E⟩ := let_some E
        refine ea_nm eH31 ?_
        have hsH31 : ShC b0 H31 := by rw [eH31]; exact hs30
        exact (ea_fewer [0, 1, 3] rfl ((ih 102 0 (x1 : Int32) 0 (x3 : Int32) H31 _ _ E hsH31).2.2.2.1 rfl))
    refine ⟨?_, ?_⟩
    · intro el
      subst el
      have E := (if_neg (by decide)).symm.trans E
      have E := (if_neg (by decide)).symm.trans E
      have E := (if_neg (by decide)).symm.trans E
      have E := (if_pos rfl).symm.trans E
      refine ea_aload_n (pc := 102) dX5_readWhen_102 rfl 0 rfl ?_
      refine ea_getI (pc := 103) dX5_readWhen_103 ec_5 (k := 9) (Nat.le_of_ble_eq_true rfl) rfl (Or.inl ew_303) (hs.1 22 (by decide)).1 (hs.1 22 (by decide)).2.1 ?_
      refine ea_istore_n (pc := 106) (lv' := [(0, vR (some (b0 + 22))), (1, vI x1), (2, vI (ea_i h (b0 + 22) 9)), (3, vI x3)]) dX5_readWhen_106 rfl (Nat.le_of_ble_eq_true rfl) [1, 2, 0, 3] rfl ?_
      refine ea_iload_n (pc := 107) dX5_readWhen_107 rfl 2 rfl ?_
      refine ea_bipush (pc := 108) dX5_readWhen_108 (v := 16) rfl ?_
      refine ea_icmp_eq (pc := 110) (tgt := 141) dX5_readWhen_110 rfl (fun c40 => ?_) (fun c40 => ?_)
      · have E := (if_pos c40).symm.trans E
        refine ea_aload_n (pc := 141) dX5_readWhen_141 rfl 0 rfl ?_
        obtain ⟨z33, E⟩ := gd_some E
        refine ea_callV (pc := 142) (d' := d - 1) (As := []) (st := []) dX5_readWhen_142 kX5_step (sX5_step (d := d - 1) (by omega) hs z33) (by omega) rfl (Nat.le_of_ble_eq_true rfl) ew_859 ew_861 ew_22 (ci := 5) rfl (by decide) (hs.1 22 (by decide)).1 (hs.1 22 (by decide)).2.1 ?_
        have hs34 : ShC b0 (wX5_step b0 h) := shX5_step hs
        obtain ⟨H35, eH35, E⟩ := let_some E
        refine ea_nm eH35 ?_
        have hsH35 : ShC b0 H35 := by rw [eH35]; exact hs34
        refine ea_iinc (pc := 145) (v := 1) (lv' := [(0, vR (some (b0 + 22))), (1, vI x1), (2, vI (ea_i h (b0 + 22) 9)), (3, vI (x3 + (1 : Int32)))]) dX5_readWhen_145 3 rfl rfl (Nat.le_of_ble_eq_true rfl) [1, 2, 3, 0] rfl ?_
        refine ea_goto (pc := 148) (tgt := 7) dX5_readWhen_148 rfl ?_
        exact ((ih 7 0 (x1 : Int32) ((ea_i h (b0 + 22) 9) : Int32) ((x3 + (1 : Int32)) : Int32) H35 _ _ E hsH35).2.1 rfl)
      · have E := (if_neg c40).symm.trans E
        refine ea_iload_n (pc := 113) dX5_readWhen_113 rfl 1 rfl ?_
        refine ea_if_eq (pc := 114) (tgt := 123) dX5_readWhen_114 rfl (fun c39 => ?_) (fun c39 => ?_)
        · have E := (if_pos c39).symm.trans E
          exact (ea_fewer [0, 2, 3] rfl ((ih 123 0 0 ((ea_i h (b0 + 22) 9) : Int32) (x3 : Int32) h _ _ E hs).2.2.2.2.1 rfl))
        · have E := (if_neg c39).symm.trans E
          refine ea_aload_n (pc := 117) dX5_readWhen_117 rfl 0 rfl ?_
          refine ea_bipush (pc := 118) dX5_readWhen_118 (v := (-19)) rfl ?_
          obtain ⟨z36, E⟩ := gd_some E
          refine ea_callV (pc := 120) (d' := d - 1) (As := [vI (-19)]) (st := []) dX5_readWhen_120 kX5_put (sX5_put (d := d - 1) (by omega) hs z36) (by omega) rfl (Nat.le_of_ble_eq_true rfl) ew_875 ew_877 ew_26 (ci := 5) rfl (by decide) (hs.1 22 (by decide)).1 (hs.1 22 (by decide)).2.1 ?_
          have hs37 : ShC b0 (wX5_put b0 ((-19) : Int32) h) := shX5_put hs
          obtain ⟨H38, eH38, E⟩ := let_some E
          refine ea_nm eH38 ?_
          have hsH38 : ShC b0 H38 := by rw [eH38]; exact hs37
          exact (ea_fewer [0, 2, 3] rfl ((ih 123 0 0 ((ea_i h (b0 + 22) 9) : Int32) (x3 : Int32) H38 _ _ E hsH38).2.2.2.2.1 rfl))
    refine ⟨?_, ?_⟩
    · intro el
      subst el
      have E := (if_neg (by decide)).symm.trans E
      have E := (if_neg (by decide)).symm.trans E
      have E := (if_neg (by decide)).symm.trans E
      have E := (if_neg (by decide)).symm.trans E
      have E := (if_pos rfl).symm.trans E
      refine ea_iload_n (pc := 123) dX5_readWhen_123 rfl 1 rfl ?_
      refine ea_bipush (pc := 124) dX5_readWhen_124 (v := 17) rfl ?_
      refine ea_icmp_ne (pc := 126) (tgt := 133) dX5_readWhen_126 rfl (fun c41 => ?_) (fun c41 => ?_)
      · have E := (if_neg c41).symm.trans E
        refine ea_iconst (pc := 133) dX5_readWhen_133 (v := 0) rfl ?_
        exact ((ih 134 (0 : Int32) 0 (x2 : Int32) (x3 : Int32) h _ _ E hs).2.2.2.2.2 rfl)
      · have E := (if_pos c41).symm.trans E
        refine ea_iconst (pc := 129) dX5_readWhen_129 (v := 1) rfl ?_
        refine ea_goto (pc := 130) (tgt := 134) dX5_readWhen_130 rfl ?_
        exact ((ih 134 (1 : Int32) 0 (x2 : Int32) (x3 : Int32) h _ _ E hs).2.2.2.2.2 rfl)
    intro el
    subst el
    have E := (if_neg (by decide)).symm.trans E
    have E := (if_neg (by decide)).symm.trans E
    have E := (if_neg (by decide)).symm.trans E
    have E := (if_neg (by decide)).symm.trans E
    have E := (if_neg (by decide)).symm.trans E
    have E := (if_pos rfl).symm.trans E
    refine ea_istore_n (pc := 134) (lv' := [(0, vR (some (b0 + 22))), (1, vI sx0), (2, vI x2), (3, vI x3)]) dX5_readWhen_134 rfl (Nat.le_of_ble_eq_true rfl) [1, 0, 2, 3] rfl ?_
    refine ea_iload_n (pc := 135) dX5_readWhen_135 rfl 1 rfl ?_
    refine ea_if_ne (pc := 136) (tgt := 141) dX5_readWhen_136 rfl (fun c45 => ?_) (fun c45 => ?_)
    · have E := (if_neg c45).symm.trans E
      refine ea_aload_n (pc := 141) dX5_readWhen_141 rfl 0 rfl ?_
      obtain ⟨z42, E⟩ := gd_some E
      refine ea_callV (pc := 142) (d' := d - 1) (As := []) (st := []) dX5_readWhen_142 kX5_step (sX5_step (d := d - 1) (by omega) hs z42) (by omega) rfl (Nat.le_of_ble_eq_true rfl) ew_859 ew_861 ew_22 (ci := 5) rfl (by decide) (hs.1 22 (by decide)).1 (hs.1 22 (by decide)).2.1 ?_
      have hs43 : ShC b0 (wX5_step b0 h) := shX5_step hs
      obtain ⟨H44, eH44, E⟩ := let_some E
      refine ea_nm eH44 ?_
      have hsH44 : ShC b0 H44 := by rw [eH44]; exact hs43
      refine ea_iinc (pc := 145) (v := 1) (lv' := [(0, vR (some (b0 + 22))), (1, vI sx0), (2, vI x2), (3, vI (x3 + (1 : Int32)))]) dX5_readWhen_145 3 rfl rfl (Nat.le_of_ble_eq_true rfl) [1, 2, 3, 0] rfl ?_
      refine ea_goto (pc := 148) (tgt := 7) dX5_readWhen_148 rfl ?_
      exact ((ih 7 0 (sx0 : Int32) (x2 : Int32) ((x3 + (1 : Int32)) : Int32) H44 _ _ E hsH44).2.1 rfl)
    · have E := (if_pos c45).symm.trans E
      refine ea_iconst (pc := 139) dX5_readWhen_139 (v := 1) rfl ?_
      exact ea_iretO (pc := 140) dX5_readWhen_140 rfl (ea_bn (Or.inr rfl)) E
noncomputable def qX5_readWhen (b0 : Nat) (h : ea_H) : Option (Int32 × ea_H) := gX5_readWhen b0 1000000000 0 0 0 0 0 h
def okX5_readWhen (b0 : Nat) (h : ea_H) : Prop := ∃ x, qX5_readWhen b0 h = some x
noncomputable def vX5_readWhen (b0 : Nat) (h : ea_H) : Int32 := ((qX5_readWhen b0 h).getD (0, h)).1
noncomputable def wX5_readWhen (b0 : Nat) (h : ea_H) : ea_H := ((qX5_readWhen b0 h).getD (0, h)).2
theorem sX5_readWhen {d : Nat} {b0 : Nat} {h : ea_H} (hd : 43 ≤ d) (hs : ShC b0 h) (K : okX5_readWhen b0 h) : ea_Met mX5_readWhen d [vR (some (b0 + 22))] h (some (vI (vX5_readWhen b0 h))) (wX5_readWhen b0 h) := by
  obtain ⟨⟨x, y⟩, K⟩ := K
  unfold wX5_readWhen vX5_readWhen
  rw [K]
  unfold qX5_readWhen at K
  exact ea_enter rfl (Nat.le_of_ble_eq_true rfl) ((tX5_readWhen hd 1000000000 0 0 0 0 0 h x y K hs).1 rfl)
theorem zX5_readWhen {b0 : Nat} : ∀ (f lbl : Nat) (sx0 : Int32) (x1 : Int32) (x2 : Int32) (x3 : Int32) (h : ea_H) (r : Int32) (h' : ea_H), gX5_readWhen b0 f lbl sx0 x1 x2 x3 h = some (r, h') → ShC b0 h → ShC b0 h' := by
  intro f
  induction f with
  | zero => intro lbl sx0 x1 x2 x3 h r h' E; cases E
  | succ f ih =>
    intro lbl sx0 x1 x2 x3 h r h' E hs
    unfold gX5_readWhen at E
    by_cases el0 : lbl = 0
    · have E := (if_pos el0).symm.trans E
      exact ih 7 0 (0 : Int32) (13 : Int32) (0 : Int32) h _ _ E hs
    have E := (if_neg el0).symm.trans E
    by_cases el1 : lbl = 7
    · have E := (if_pos el1).symm.trans E
      by_cases c28 : (600 : Int32) < x3
      · have E := (if_pos c28).symm.trans E
        exact ea_shO E hs
      have E := (if_neg c28).symm.trans E
      obtain ⟨z1, E⟩ := gd_some E
      obtain ⟨H3, eH3, E⟩ := let_some E
      have hsH3 : ShC b0 H3 := by rw [eH3]; exact (shX5_readNots hs)
      by_cases c27 : (vX5_readNots b0 h) = ((-1) : Int32)
      · have E := (if_pos c27).symm.trans E
        exact ea_shO E hsH3
      have E := (if_neg c27).symm.trans E
      obtain ⟨z4, E⟩ := gd_some E
      obtain ⟨H6, eH6, E⟩ := let_some E
      have hsH6 : ShC b0 H6 := by rw [eH6]; exact (shX5_readSum hsH3)
      by_cases c26 : (vX5_readSum b0 ((vX5_readNots b0 h) : Int32) H3) = (0 : Int32)
      · have E := (if_pos c26).symm.trans E
        exact ea_shO E hsH6
      have E := (if_neg c26).symm.trans E
      by_cases c25 : (vX5_comparison b0 H6) = ((-1) : Int32)
      · have E := (if_pos c25).symm.trans E
        obtain ⟨z22, E⟩ := gd_some E
        obtain ⟨H24, eH24, E⟩ := let_some E
        have hsH24 : ShC b0 H24 := by rw [eH24]; exact (shX5_refuse hsH6)
        exact ea_shO E hsH24
      have E := (if_neg c25).symm.trans E
      obtain ⟨z8, E⟩ := gd_some E
      obtain ⟨H10, eH10, E⟩ := let_some E
      have hsH10 : ShC b0 H10 := by rw [eH10]; exact (shX5_step hsH6)
      obtain ⟨z11, E⟩ := gd_some E
      obtain ⟨H13, eH13, E⟩ := let_some E
      have hsH13 : ShC b0 H13 := by rw [eH13]; exact (shX5_readSum hsH10)
      by_cases c21 : (vX5_readSum b0 ((vX5_readNots b0 h) : Int32) H10) = (0 : Int32)
      · have E := (if_pos c21).symm.trans E
        exact ea_shO E hsH13
      have E := (if_neg c21).symm.trans E
      obtain ⟨z14, E⟩ := gd_some E
      obtain ⟨H16, eH16, E⟩ := let_some E
      have hsH16 : ShC b0 H16 := by rw [eH16]; exact (shX5_put hsH13)
      by_cases c20 : ((vX5_readNots b0 h) - (vX5_readNots b0 h) / (2 : Int32) * (2 : Int32)) = (1 : Int32)
      · have E := (if_pos c20).symm.trans E
        obtain ⟨z17, E⟩ := gd_some E
        obtain ⟨H19, eH19, E⟩ := let_some E
        have hsH19 : ShC b0 H19 := by rw [eH19]; exact (shX5_put hsH16)
        exact ih 90 0 (x1 : Int32) (x2 : Int32) (x3 : Int32) H19 _ _ E hsH19
      have E := (if_neg c20).symm.trans E
      exact ih 90 0 (x1 : Int32) (x2 : Int32) (x3 : Int32) H16 _ _ E hsH16
    have E := (if_neg el1).symm.trans E
    by_cases el2 : lbl = 90
    · have E := (if_pos el2).symm.trans E
      by_cases c32 : x2 = (16 : Int32)
      · have E := (if_pos c32).symm.trans E
        obtain ⟨z29, E⟩ := gd_some E
        obtain ⟨H31, eH31, E⟩ := let_some E
        have hsH31 : ShC b0 H31 := by rw [eH31]; exact (shX5_put hs)
        exact ih 102 0 (x1 : Int32) 0 (x3 : Int32) H31 _ _ E hsH31
      have E := (if_neg c32).symm.trans E
      exact ih 102 0 (x1 : Int32) 0 (x3 : Int32) h _ _ E hs
    have E := (if_neg el2).symm.trans E
    by_cases el3 : lbl = 102
    · have E := (if_pos el3).symm.trans E
      by_cases c40 : (ea_i h (b0 + 22) 9) = (16 : Int32)
      · have E := (if_pos c40).symm.trans E
        obtain ⟨z33, E⟩ := gd_some E
        obtain ⟨H35, eH35, E⟩ := let_some E
        have hsH35 : ShC b0 H35 := by rw [eH35]; exact (shX5_step hs)
        exact ih 7 0 (x1 : Int32) ((ea_i h (b0 + 22) 9) : Int32) ((x3 + (1 : Int32)) : Int32) H35 _ _ E hsH35
      have E := (if_neg c40).symm.trans E
      by_cases c39 : x1 = (0 : Int32)
      · have E := (if_pos c39).symm.trans E
        exact ih 123 0 0 ((ea_i h (b0 + 22) 9) : Int32) (x3 : Int32) h _ _ E hs
      have E := (if_neg c39).symm.trans E
      obtain ⟨z36, E⟩ := gd_some E
      obtain ⟨H38, eH38, E⟩ := let_some E
      have hsH38 : ShC b0 H38 := by rw [eH38]; exact (shX5_put hs)
      exact ih 123 0 0 ((ea_i h (b0 + 22) 9) : Int32) (x3 : Int32) H38 _ _ E hsH38
    have E := (if_neg el3).symm.trans E
    by_cases el4 : lbl = 123
    · have E := (if_pos el4).symm.trans E
      by_cases c41 : x2 = (17 : Int32)
      · have E := (if_pos c41).symm.trans E
        exact ih 134 (1 : Int32) 0 (x2 : Int32) (x3 : Int32) h _ _ E hs
      have E := (if_neg c41).symm.trans E
      exact ih 134 (0 : Int32) 0 (x2 : Int32) (x3 : Int32) h _ _ E hs
    have E := (if_neg el4).symm.trans E
    by_cases el5 : lbl = 134
    · have E := (if_pos el5).symm.trans E
      by_cases c45 : sx0 = (0 : Int32)
      · have E := (if_pos c45).symm.trans E
        exact ea_shO E hs
      have E := (if_neg c45).symm.trans E
      obtain ⟨z42, E⟩ := gd_some E
      obtain ⟨H44, eH44, E⟩ := let_some E
      have hsH44 : ShC b0 H44 := by rw [eH44]; exact (shX5_step hs)
      exact ih 7 0 (sx0 : Int32) (x2 : Int32) ((x3 + (1 : Int32)) : Int32) H44 _ _ E hsH44
    have E := (if_neg el5).symm.trans E
    cases E
theorem shX5_readWhen {b0 : Nat} {h : ea_H} (hs : ShC b0 h) : ShC b0 (wX5_readWhen b0 h) := by
  unfold wX5_readWhen
  cases K : qX5_readWhen b0 h with
  | none => exact hs
  | some x => obtain ⟨x, y⟩ := x; unfold qX5_readWhen at K; exact zX5_readWhen _ _ _ _ _ _ _ _ _ K hs
noncomputable def gX5_readCharge (b0 : Nat) : Nat → Nat → Option Nat → ea_H → Option (Int32 × ea_H)
  | 0, _, _, _ => none
  | f + 1, lbl, r1, h =>
    (gd (r1 = some (Option.getD r1 0)) (gd (((Option.getD r1 0) < ea_n h ∧ ea_c h (Option.getD r1 0) = 0)) (if (ea_i h (Option.getD r1 0) 8) < (24 : Int32) then (gd (r1 = some (Option.getD r1 0)) (gd (((Option.getD r1 0) < ea_n h ∧ ea_c h (Option.getD r1 0) = 0)) (gd (r1 = some (Option.getD r1 0)) (gd (((Option.getD r1 0) < ea_n h ∧ ea_c h (Option.getD r1 0) = 0)) (ea_let (ea_wi h (Option.getD r1 0) 8 ((ea_i h (Option.getD r1 0) 8) + (1 : Int32))) fun H8 => (gd (r1 = some (Option.getD r1 0)) (gd (((Option.getD r1 0) < ea_n H8 ∧ ea_c H8 (Option.getD r1 0) = 0)) (gd ((ea_r H8 (Option.getD r1 0) 9) = some (Option.getD (ea_r H8 (Option.getD r1 0) 9) 0)) (gd (((Option.getD (ea_r H8 (Option.getD r1 0) 9) 0) < ea_n H8 ∧ ea_c H8 (Option.getD (ea_r H8 (Option.getD r1 0) 9) 0) = 20)) (gd (vp_in (ea_i h (Option.getD r1 0) 8) (ea_l H8 (Option.getD (ea_r H8 (Option.getD r1 0) 9) 0))) (ea_let (ea_wi H8 (Option.getD (ea_r H8 (Option.getD r1 0) 9) 0) (Int32.toNatClampNeg (ea_i h (Option.getD r1 0) 8)) (ea_i H8 (b0 + 22) 11)) fun H15 => (gd (r1 = some (Option.getD r1 0)) (gd (((Option.getD r1 0) < ea_n H15 ∧ ea_c H15 (Option.getD r1 0) = 0)) (gd ((ea_r H15 (Option.getD r1 0) 10) = some (Option.getD (ea_r H15 (Option.getD r1 0) 10) 0)) (gd (((Option.getD (ea_r H15 (Option.getD r1 0) 10) 0) < ea_n H15 ∧ ea_c H15 (Option.getD (ea_r H15 (Option.getD r1 0) 10) 0) = 20)) (gd (vp_in (ea_i h (Option.getD r1 0) 8) (ea_l H15 (Option.getD (ea_r H15 (Option.getD r1 0) 10) 0))) (ea_let (ea_wi H15 (Option.getD (ea_r H15 (Option.getD r1 0) 10) 0) (Int32.toNatClampNeg (ea_i h (Option.getD r1 0) 8)) (-1)) fun H22 => (gd ((okX5_step b0 H22)) (ea_let (wX5_step b0 H22) fun H25 => (gd ((okX5_readSum b0 (0 : Int32) H25)) (ea_let (wX5_readSum b0 (0 : Int32) H25) fun H28 => (if (vX5_readSum b0 (0 : Int32) H25) = (0 : Int32) then (some ((0 : Int32), H28)) else (gd ((okX5_put b0 ((-100) : Int32) H28)) (ea_let (wX5_put b0 ((-100) : Int32) H28) fun H31 => (if (ea_i H31 (b0 + 22) 9) = (13 : Int32) then (gd ((okX5_step b0 H31)) (ea_let (wX5_step b0 H31) fun H34 => (gd (r1 = some (Option.getD r1 0)) (gd (((Option.getD r1 0) < ea_n H34 ∧ ea_c H34 (Option.getD r1 0) = 0)) (gd ((ea_r H34 (Option.getD r1 0) 10) = some (Option.getD (ea_r H34 (Option.getD r1 0) 10) 0)) (gd (((Option.getD (ea_r H34 (Option.getD r1 0) 10) 0) < ea_n H34 ∧ ea_c H34 (Option.getD (ea_r H34 (Option.getD r1 0) 10) 0) = 20)) (gd (vp_in (ea_i h (Option.getD r1 0) 8) (ea_l H34 (Option.getD (ea_r H34 (Option.getD r1 0) 10) 0))) (ea_let (ea_wi H34 (Option.getD (ea_r H34 (Option.getD r1 0) 10) 0) (Int32.toNatClampNeg (ea_i h (Option.getD r1 0) 8)) (ea_i H34 (b0 + 22) 11)) fun H41 => (gd ((okX5_readWhen b0 H41)) (ea_let (wX5_readWhen b0 H41) fun H44 => (gd ((okX5_put b0 ((-100) : Int32) H44)) (ea_let (wX5_put b0 ((-100) : Int32) H44) fun H47 => (gd ((vX5_readWhen b0 H41) = 0 ∨ (vX5_readWhen b0 H41) = 1) ((some ((vX5_readWhen b0 H41), H47)))))))))))))))) else (some ((1 : Int32), H31))))))))))))))))))))))))))) else (gd ((okX5_refuse b0 (3 : Int32) h)) (ea_let (wX5_refuse b0 (3 : Int32) h) fun H53 => (some ((vX5_refuse b0 (3 : Int32) h), H53)))))))
theorem tX5_readCharge {d : Nat} {b0 : Nat} {h0 : ea_H} (hd : 44 ≤ d) : ∀ (f lbl : Nat) (r1 : Option Nat) (h : ea_H) (r : Int32) (h' : ea_H), gX5_readCharge b0 f lbl r1 h = some (r, h') → ShC b0 h → (lbl = 0 → ea_W mX5_readCharge d h0 (some (vI r)) h' 0 [(0, vR (some (b0 + 22))), (1, vR r1)] [] h) := by
  intro f
  induction f with
  | zero => intro lbl r1 h r h' E; cases E
  | succ f ih =>
    intro lbl r1 h r h' E hs
    unfold gX5_readCharge at E
    intro el
    subst el
    refine ea_aload_n (pc := 0) dX5_readCharge_0 rfl 1 rfl ?_
    obtain ⟨e1, E⟩ := gd_some E
    obtain ⟨f2, E⟩ := gd_some E
    refine ea_deref0 e1 ?_
    refine ea_getI (pc := 1) dX5_readCharge_1 ec_0 (k := 8) (Nat.le_of_ble_eq_true rfl) rfl (Or.inl ew_816) f2.1 f2.2 ?_
    refine ea_istore_n (pc := 4) (lv' := [(0, vR (some (b0 + 22))), (1, vR r1), (2, vI (ea_i h (Option.getD r1 0) 8))]) dX5_readCharge_4 rfl (Nat.le_of_ble_eq_true rfl) [1, 2, 0] rfl ?_
    refine ea_iload_n (pc := 5) dX5_readCharge_5 rfl 2 rfl ?_
    refine ea_bipush (pc := 6) dX5_readCharge_6 (v := 24) rfl ?_
    refine ea_icmp_lt (pc := 8) (tgt := 17) dX5_readCharge_8 rfl (fun c54 => ?_) (fun c54 => ?_)
    · have E := (if_pos c54).symm.trans E
      refine ea_aload_n (pc := 17) dX5_readCharge_17 rfl 1 rfl ?_
      refine ea_dup (pc := 18) dX5_readCharge_18 rfl ?_
      obtain ⟨e3, E⟩ := gd_some E
      obtain ⟨f4, E⟩ := gd_some E
      refine ea_deref0 e3 ?_
      refine ea_getI (pc := 19) dX5_readCharge_19 ec_0 (k := 8) (Nat.le_of_ble_eq_true rfl) rfl (Or.inl ew_816) f4.1 f4.2 ?_
      refine ea_iconst (pc := 22) dX5_readCharge_22 (v := 1) rfl ?_
      refine ea_iadd (pc := 23) dX5_readCharge_23 ?_
      obtain ⟨e5, E⟩ := gd_some E
      obtain ⟨f6, E⟩ := gd_some E
      refine ea_deref1 e5 ?_
      refine ea_putI (pc := 24) dX5_readCharge_24 ec_0 (k := 8) (Nat.le_of_ble_eq_true rfl) rfl (Or.inl ⟨rfl, Or.inl ew_816⟩) rfl rfl f6.1 f6.2 ?_
      have hs7 : ShC b0 (ea_wi h (Option.getD r1 0) 8 ((ea_i h (Option.getD r1 0) 8) + (1 : Int32))) := ShC_wi hs
      obtain ⟨H8, eH8, E⟩ := let_some E
      refine ea_nm eH8 ?_
      have hsH8 : ShC b0 H8 := by rw [eH8]; exact hs7
      refine ea_aload_n (pc := 27) dX5_readCharge_27 rfl 1 rfl ?_
      obtain ⟨e9, E⟩ := gd_some E
      obtain ⟨f10, E⟩ := gd_some E
      refine ea_deref0 e9 ?_
      refine ea_getR (pc := 28) dX5_readCharge_28 ec_0 (k := 9) (Nat.le_of_ble_eq_true rfl) rfl (Or.inl ew_819) f10.1 f10.2 rfl ?_
      refine ea_iload_n (pc := 31) dX5_readCharge_31 rfl 2 rfl ?_
      refine ea_aload_n (pc := 32) dX5_readCharge_32 rfl 0 rfl ?_
      refine ea_getI (pc := 33) dX5_readCharge_33 ec_5 (k := 11) (Nat.le_of_ble_eq_true rfl) rfl (Or.inl ew_305) (hsH8.1 22 (by decide)).1 (hsH8.1 22 (by decide)).2.1 ?_
      obtain ⟨e11, E⟩ := gd_some E
      obtain ⟨f12, E⟩ := gd_some E
      obtain ⟨z13, E⟩ := gd_some E
      refine ea_deref2 e11 ?_
      refine ea_iast (pc := 36) dX5_readCharge_36 f12.1 f12.2 z13 ?_
      have hs14 : ShC b0 (ea_wi H8 (Option.getD (ea_r H8 (Option.getD r1 0) 9) 0) (Int32.toNatClampNeg (ea_i h (Option.getD r1 0) 8)) (ea_i H8 (b0 + 22) 11)) := ShC_wi hsH8
      obtain ⟨H15, eH15, E⟩ := let_some E
      refine ea_nm eH15 ?_
      have hsH15 : ShC b0 H15 := by rw [eH15]; exact hs14
      refine ea_aload_n (pc := 37) dX5_readCharge_37 rfl 1 rfl ?_
      obtain ⟨e16, E⟩ := gd_some E
      obtain ⟨f17, E⟩ := gd_some E
      refine ea_deref0 e16 ?_
      refine ea_getR (pc := 38) dX5_readCharge_38 ec_0 (k := 10) (Nat.le_of_ble_eq_true rfl) rfl (Or.inl ew_822) f17.1 f17.2 rfl ?_
      refine ea_iload_n (pc := 41) dX5_readCharge_41 rfl 2 rfl ?_
      refine ea_iconst (pc := 42) dX5_readCharge_42 (v := (-1)) rfl ?_
      obtain ⟨e18, E⟩ := gd_some E
      obtain ⟨f19, E⟩ := gd_some E
      obtain ⟨z20, E⟩ := gd_some E
      refine ea_deref2 e18 ?_
      refine ea_iast (pc := 43) dX5_readCharge_43 f19.1 f19.2 z20 ?_
      have hs21 : ShC b0 (ea_wi H15 (Option.getD (ea_r H15 (Option.getD r1 0) 10) 0) (Int32.toNatClampNeg (ea_i h (Option.getD r1 0) 8)) (-1)) := ShC_wi hsH15
      obtain ⟨H22, eH22, E⟩ := let_some E
      refine ea_nm eH22 ?_
      have hsH22 : ShC b0 H22 := by rw [eH22]; exact hs21
      refine ea_aload_n (pc := 44) dX5_readCharge_44 rfl 0 rfl ?_
      obtain ⟨z23, E⟩ := gd_some E
      refine ea_callV (pc := 45) (d' := d - 1) (As := []) (st := []) dX5_readCharge_45 kX5_step (sX5_step (d := d - 1) (by omega) hsH22 z23) (by omega) rfl (Nat.le_of_ble_eq_true rfl) ew_859 ew_861 ew_22 (ci := 5) rfl (by decide) (hsH22.1 22 (by decide)).1 (hsH22.1 22 (by decide)).2.1 ?_
      have hs24 : ShC b0 (wX5_step b0 H22) := shX5_step hsH22
      obtain ⟨H25, eH25, E⟩ := let_some E
      refine ea_nm eH25 ?_
      have hsH25 : ShC b0 H25 := by rw [eH25]; exact hs24
      refine ea_aload_n (pc := 48) dX5_readCharge_48 rfl 0 rfl ?_
      refine ea_iconst (pc := 49) dX5_readCharge_49 (v := 0) rfl ?_
      obtain ⟨z26, E⟩ := gd_some E
      refine ea_callV (pc := 50) (d' := d - 1) (As := [vI 0]) (st := []) dX5_readCharge_50 kX5_readSum (sX5_readSum (d := d - 1) (by omega) hsH25 z26) (by omega) rfl (Nat.le_of_ble_eq_true rfl) ew_863 ew_865 ew_23 (ci := 5) rfl (by decide) (hsH25.1 22 (by decide)).1 (hsH25.1 22 (by decide)).2.1 ?_
      have hs27 : ShC b0 (wX5_readSum b0 (0 : Int32) H25) := shX5_readSum hsH25
      obtain ⟨H28, eH28, E⟩ := let_some E
      refine ea_nm eH28 ?_
      have hsH28 : ShC b0 H28 := by rw [eH28]; exact hs27
      refine ea_if_ne (pc := 53) (tgt := 58) dX5_readCharge_53 rfl (fun c50 => ?_) (fun c50 => ?_)
      · have E := (if_neg c50).symm.trans E
        refine ea_aload_n (pc := 58) dX5_readCharge_58 rfl 0 rfl ?_
        refine ea_bipush (pc := 59) dX5_readCharge_59 (v := (-100)) rfl ?_
        obtain ⟨z29, E⟩ := gd_some E
        refine ea_callV (pc := 61) (d' := d - 1) (As := [vI (-100)]) (st := []) dX5_readCharge_61 kX5_put (sX5_put (d := d - 1) (by omega) hsH28 z29) (by omega) rfl (Nat.le_of_ble_eq_true rfl) ew_875 ew_877 ew_26 (ci := 5) rfl (by decide) (hsH28.1 22 (by decide)).1 (hsH28.1 22 (by decide)).2.1 ?_
        have hs30 : ShC b0 (wX5_put b0 ((-100) : Int32) H28) := shX5_put hsH28
        obtain ⟨H31, eH31, E⟩ := let_some E
        refine ea_nm eH31 ?_
        have hsH31 : ShC b0 H31 := by rw [eH31]; exact hs30
        refine ea_aload_n (pc := 64) dX5_readCharge_64 rfl 0 rfl ?_
        refine ea_getI (pc := 65) dX5_readCharge_65 ec_5 (k := 9) (Nat.le_of_ble_eq_true rfl) rfl (Or.inl ew_303) (hsH31.1 22 (by decide)).1 (hsH31.1 22 (by decide)).2.1 ?_
        refine ea_bipush (pc := 68) dX5_readCharge_68 (v := 13) rfl ?_
        refine ea_icmp_eq (pc := 70) (tgt := 75) dX5_readCharge_70 rfl (fun c49 => ?_) (fun c49 => ?_)
        · have E := (if_pos c49).symm.trans E
          refine ea_aload_n (pc := 75) dX5_readCharge_75 rfl 0 rfl ?_
          obtain ⟨z32, E⟩ := gd_some E
          refine ea_callV (pc := 76) (d' := d - 1) (As := []) (st := []) dX5_readCharge_76 kX5_step (sX5_step (d := d - 1) (by omega) hsH31 z32) (by omega) rfl (Nat.le_of_ble_eq_true rfl) ew_859 ew_861 ew_22 (ci := 5) rfl (by decide) (hsH31.1 22 (by decide)).1 (hsH31.1 22 (by decide)).2.1 ?_
          have hs33 : ShC b0 (wX5_step b0 H31) := shX5_step hsH31
          obtain ⟨H34, eH34, E⟩ := let_some E
          refine ea_nm eH34 ?_
          have hsH34 : ShC b0 H34 := by rw [eH34]; exact hs33
          refine ea_aload_n (pc := 79) dX5_readCharge_79 rfl 1 rfl ?_
          obtain ⟨e35, E⟩ := gd_some E
          obtain ⟨f36, E⟩ := gd_some E
          refine ea_deref0 e35 ?_
          refine ea_getR (pc := 80) dX5_readCharge_80 ec_0 (k := 10) (Nat.le_of_ble_eq_true rfl) rfl (Or.inl ew_822) f36.1 f36.2 rfl ?_
          refine ea_iload_n (pc := 83) dX5_readCharge_83 rfl 2 rfl ?_
          refine ea_aload_n (pc := 84) dX5_readCharge_84 rfl 0 rfl ?_
          refine ea_getI (pc := 85) dX5_readCharge_85 ec_5 (k := 11) (Nat.le_of_ble_eq_true rfl) rfl (Or.inl ew_305) (hsH34.1 22 (by decide)).1 (hsH34.1 22 (by decide)).2.1 ?_
          obtain ⟨e37, E⟩ := gd_some E
          obtain ⟨f38, E⟩ := gd_some E
          obtain ⟨z39, E⟩ := gd_some E
          refine ea_deref2 e37 ?_
          refine ea_iast (pc := 88) dX5_readCharge_88 f38.1 f38.2 z39 ?_
          have hs40 : ShC b0 (ea_wi H34 (Option.getD (ea_r H34 (Option.getD r1 0) 10) 0) (Int32.toNatClampNeg (ea_i h (Option.getD r1 0) 8)) (ea_i H34 (b0 + 22) 11)) := ShC_wi hsH34
          obtain ⟨H41, eH41, E⟩ := let_some E
          refine ea_nm eH41 ?_
          have hsH41 : ShC b0 H41 := by rw [eH41]; exact hs40
          refine ea_aload_n (pc := 89) dX5_readCharge_89 rfl 0 rfl ?_
          obtain ⟨z42, E⟩ := gd_some E
          refine ea_callV (pc := 90) (d' := d - 1) (As := []) (st := []) dX5_readCharge_90 kX5_readWhen (sX5_readWhen (d := d - 1) (by omega) hsH41 z42) (by omega) rfl (Nat.le_of_ble_eq_true rfl) ew_879 ew_881 ew_27 (ci := 5) rfl (by decide) (hsH41.1 22 (by decide)).1 (hsH41.1 22 (by decide)).2.1 ?_
          have hs43 : ShC b0 (wX5_readWhen b0 H41) := shX5_readWhen hsH41
          obtain ⟨H44, eH44, E⟩ := let_some E
          refine ea_nm eH44 ?_
          have hsH44 : ShC b0 H44 := by rw [eH44]; exact hs43
          refine ea_istore_n (pc := 93) (lv' := [(0, vR (some (b0 + 22))), (3, vI (vX5_readWhen b0 H41))]) dX5_readCharge_93 rfl (Nat.le_of_ble_eq_true rfl) [1, 0] rfl ?_
          refine ea_aload_n (pc := 94) dX5_readCharge_94 rfl 0 rfl ?_
          refine ea_bipush (pc := 95) dX5_readCharge_95 (v := (-100)) rfl ?_
          obtain ⟨z45, E⟩ := gd_some E
          refine ea_callV (pc := 97) (d' := d - 1) (As := [vI (-100)]) (st := []) dX5_readCharge_97 kX5_put (sX5_put (d := d - 1) (by omega) hsH44 z45) (by omega) rfl (Nat.le_of_ble_eq_true rfl) ew_875 ew_877 ew_26 (ci := 5) rfl (by decide) (hsH44.1 22 (by decide)).1 (hsH44.1 22 (by decide)).2.1 ?_
          have hs46 : ShC b0 (wX5_put b0 ((-100) : Int32) H44) := shX5_put hsH44
          obtain ⟨H47, eH47, E⟩ := let_some E
          refine ea_nm eH47 ?_
          have hsH47 : ShC b0 H47 := by rw [eH47]; exact hs46
          refine ea_iload_n (pc := 100) dX5_readCharge_100 rfl 1 rfl ?_
          obtain ⟨z48, E⟩ := gd_some E
          exact ea_iretO (pc := 101) dX5_readCharge_101 rfl (ea_bn z48) E
        · have E := (if_neg c49).symm.trans E
          refine ea_iconst (pc := 73) dX5_readCharge_73 (v := 1) rfl ?_
          exact ea_iretO (pc := 74) dX5_readCharge_74 rfl (ea_bn (Or.inr rfl)) E
      · have E := (if_pos c50).symm.trans E
        refine ea_iconst (pc := 56) dX5_readCharge_56 (v := 0) rfl ?_
        exact ea_iretO (pc := 57) dX5_readCharge_57 rfl (ea_bn (Or.inl rfl)) E
    · have E := (if_neg c54).symm.trans E
      refine ea_aload_n (pc := 11) dX5_readCharge_11 rfl 0 rfl ?_
      refine ea_iconst (pc := 12) dX5_readCharge_12 (v := 3) rfl ?_
      obtain ⟨z51, E⟩ := gd_some E
      refine ea_callV (pc := 13) (d' := d - 1) (As := [vI 3]) (st := []) dX5_readCharge_13 kX5_refuse (sX5_refuse (d := d - 1) (by omega) hs z51) (by omega) rfl (Nat.le_of_ble_eq_true rfl) ew_851 ew_853 ew_20 (ci := 5) rfl (by decide) (hs.1 22 (by decide)).1 (hs.1 22 (by decide)).2.1 ?_
      have hs52 : ShC b0 (wX5_refuse b0 (3 : Int32) h) := shX5_refuse hs
      obtain ⟨H53, eH53, E⟩ := let_some E
      refine ea_nm eH53 ?_
      have hsH53 : ShC b0 H53 := by rw [eH53]; exact hs52
      exact ea_iretO (pc := 16) dX5_readCharge_16 rfl (ea_bn (bo_vX5_refuse _ _ _)) E
noncomputable def qX5_readCharge (b0 : Nat) (r1 : Option Nat) (h : ea_H) : Option (Int32 × ea_H) := gX5_readCharge b0 1000000000 0 r1 h
def okX5_readCharge (b0 : Nat) (r1 : Option Nat) (h : ea_H) : Prop := ∃ x, qX5_readCharge b0 r1 h = some x
noncomputable def vX5_readCharge (b0 : Nat) (r1 : Option Nat) (h : ea_H) : Int32 := ((qX5_readCharge b0 r1 h).getD (0, h)).1
noncomputable def wX5_readCharge (b0 : Nat) (r1 : Option Nat) (h : ea_H) : ea_H := ((qX5_readCharge b0 r1 h).getD (0, h)).2
theorem sX5_readCharge {d : Nat} {b0 : Nat} {r1 : Option Nat} {h : ea_H} (hd : 44 ≤ d) (hs : ShC b0 h) (K : okX5_readCharge b0 r1 h) : ea_Met mX5_readCharge d [vR (some (b0 + 22)), vR r1] h (some (vI (vX5_readCharge b0 r1 h))) (wX5_readCharge b0 r1 h) := by
  obtain ⟨⟨x, y⟩, K⟩ := K
  unfold wX5_readCharge vX5_readCharge
  rw [K]
  unfold qX5_readCharge at K
  exact ea_enter rfl (Nat.le_of_ble_eq_true rfl) ((tX5_readCharge hd 1000000000 0 r1 h x y K hs) rfl)
theorem zX5_readCharge {b0 : Nat} : ∀ (f lbl : Nat) (r1 : Option Nat) (h : ea_H) (r : Int32) (h' : ea_H), gX5_readCharge b0 f lbl r1 h = some (r, h') → ShC b0 h → ShC b0 h' := by
  intro f
  induction f with
  | zero => intro lbl r1 h r h' E; cases E
  | succ f ih =>
    intro lbl r1 h r h' E hs
    unfold gX5_readCharge at E
    obtain ⟨e1, E⟩ := gd_some E
    obtain ⟨f2, E⟩ := gd_some E
    by_cases c54 : (ea_i h (Option.getD r1 0) 8) < (24 : Int32)
    · have E := (if_pos c54).symm.trans E
      obtain ⟨e3, E⟩ := gd_some E
      obtain ⟨f4, E⟩ := gd_some E
      obtain ⟨e5, E⟩ := gd_some E
      obtain ⟨f6, E⟩ := gd_some E
      obtain ⟨H8, eH8, E⟩ := let_some E
      have hsH8 : ShC b0 H8 := by rw [eH8]; exact (ShC_wi hs)
      obtain ⟨e9, E⟩ := gd_some E
      obtain ⟨f10, E⟩ := gd_some E
      obtain ⟨e11, E⟩ := gd_some E
      obtain ⟨f12, E⟩ := gd_some E
      obtain ⟨z13, E⟩ := gd_some E
      obtain ⟨H15, eH15, E⟩ := let_some E
      have hsH15 : ShC b0 H15 := by rw [eH15]; exact (ShC_wi hsH8)
      obtain ⟨e16, E⟩ := gd_some E
      obtain ⟨f17, E⟩ := gd_some E
      obtain ⟨e18, E⟩ := gd_some E
      obtain ⟨f19, E⟩ := gd_some E
      obtain ⟨z20, E⟩ := gd_some E
      obtain ⟨H22, eH22, E⟩ := let_some E
      have hsH22 : ShC b0 H22 := by rw [eH22]; exact (ShC_wi hsH15)
      obtain ⟨z23, E⟩ := gd_some E
      obtain ⟨H25, eH25, E⟩ := let_some E
      have hsH25 : ShC b0 H25 := by rw [eH25]; exact (shX5_step hsH22)
      obtain ⟨z26, E⟩ := gd_some E
      obtain ⟨H28, eH28, E⟩ := let_some E
      have hsH28 : ShC b0 H28 := by rw [eH28]; exact (shX5_readSum hsH25)
      by_cases c50 : (vX5_readSum b0 (0 : Int32) H25) = (0 : Int32)
      · have E := (if_pos c50).symm.trans E
        exact ea_shO E hsH28
      have E := (if_neg c50).symm.trans E
      obtain ⟨z29, E⟩ := gd_some E
      obtain ⟨H31, eH31, E⟩ := let_some E
      have hsH31 : ShC b0 H31 := by rw [eH31]; exact (shX5_put hsH28)
      by_cases c49 : (ea_i H31 (b0 + 22) 9) = (13 : Int32)
      · have E := (if_pos c49).symm.trans E
        obtain ⟨z32, E⟩ := gd_some E
        obtain ⟨H34, eH34, E⟩ := let_some E
        have hsH34 : ShC b0 H34 := by rw [eH34]; exact (shX5_step hsH31)
        obtain ⟨e35, E⟩ := gd_some E
        obtain ⟨f36, E⟩ := gd_some E
        obtain ⟨e37, E⟩ := gd_some E
        obtain ⟨f38, E⟩ := gd_some E
        obtain ⟨z39, E⟩ := gd_some E
        obtain ⟨H41, eH41, E⟩ := let_some E
        have hsH41 : ShC b0 H41 := by rw [eH41]; exact (ShC_wi hsH34)
        obtain ⟨z42, E⟩ := gd_some E
        obtain ⟨H44, eH44, E⟩ := let_some E
        have hsH44 : ShC b0 H44 := by rw [eH44]; exact (shX5_readWhen hsH41)
        obtain ⟨z45, E⟩ := gd_some E
        obtain ⟨H47, eH47, E⟩ := let_some E
        have hsH47 : ShC b0 H47 := by rw [eH47]; exact (shX5_put hsH44)
        obtain ⟨z48, E⟩ := gd_some E
        exact ea_shO E hsH47
      have E := (if_neg c49).symm.trans E
      exact ea_shO E hsH31
    have E := (if_neg c54).symm.trans E
    obtain ⟨z51, E⟩ := gd_some E
    obtain ⟨H53, eH53, E⟩ := let_some E
    have hsH53 : ShC b0 H53 := by rw [eH53]; exact (shX5_refuse hs)
    exact ea_shO E hsH53
theorem shX5_readCharge {b0 : Nat} {r1 : Option Nat} {h : ea_H} (hs : ShC b0 h) : ShC b0 (wX5_readCharge b0 r1 h) := by
  unfold wX5_readCharge
  cases K : qX5_readCharge b0 r1 h with
  | none => exact hs
  | some x => obtain ⟨x, y⟩ := x; unfold qX5_readCharge at K; exact zX5_readCharge _ _ _ _ _ _ K hs
noncomputable def gX5_read (b0 : Nat) : Nat → Nat → Option Nat → Int32 → Int32 → ea_H → Option (Option Nat × ea_H)
  | 0, _, _, _, _, _ => none
  | f + 1, lbl, r2, x1, x3, h =>
    if lbl = 0 then (gd ((okX5_scan b0 h)) (ea_let (wX5_scan b0 h) fun H3 => (ea_let (wX5_drop b0 H3) fun H6 => (ea_let (ea_wi H6 (b0 + 22) 11 0) fun H8 => (ea_let (ea_wi H8 (b0 + 22) 8 0) fun H10 => (ea_let (ea_wi H10 (b0 + 22) 9 (ea_i H10 (b0 + 24) 0)) fun H12 => (ea_let (ea_new H12 0 0 12) fun H14 => (gd ((okX0_init b0 (ea_n H12) (x1 : Int32) H14)) (ea_let (wX0_init b0 (ea_n H12) (x1 : Int32) H14) fun H17 => (gX5_read b0 f 39 ((some (ea_n H12)) : Option Nat) 0 (0 : Int32) H17)))))))))) else
    if lbl = 39 then (if (600 : Int32) < x3 then (gX5_read b0 f 156 (r2 : Option Nat) 0 0 h) else (if (ea_i h (b0 + 22) 9) = (19 : Int32) then (gX5_read b0 f 156 (r2 : Option Nat) 0 0 h) else (if (ea_i h (b0 + 22) 9) ≤ (5 : Int32) then (gd (r2 = some (Option.getD r2 0)) (gd (((Option.getD r2 0) < ea_n h ∧ ea_c h (Option.getD r2 0) = 0)) (if (ea_i h (Option.getD r2 0) 1) < (24 : Int32) then (if (ea_i h (b0 + 22) 9) = (0 : Int32) then (gd (r2 = some (Option.getD r2 0)) (gd (((Option.getD r2 0) < ea_n h ∧ ea_c h (Option.getD r2 0) = 0)) (gd (r2 = some (Option.getD r2 0)) (gd (((Option.getD r2 0) < ea_n h ∧ ea_c h (Option.getD r2 0) = 0)) (ea_let (ea_wi h (Option.getD r2 0) 1 ((ea_i h (Option.getD r2 0) 1) + (1 : Int32))) fun H34 => (gd ((okX5_readCharge b0 (r2 : Option Nat) H34)) (ea_let (wX5_readCharge b0 (r2 : Option Nat) H34) fun H37 => (gX5_read b0 f 132 (r2 : Option Nat) 0 (x3 : Int32) H37)))))))) else (gd (r2 = some (Option.getD r2 0)) (gd (((Option.getD r2 0) < ea_n h ∧ ea_c h (Option.getD r2 0) = 0)) (gd (r2 = some (Option.getD r2 0)) (gd (((Option.getD r2 0) < ea_n h ∧ ea_c h (Option.getD r2 0) = 0)) (ea_let (ea_wi h (Option.getD r2 0) 1 ((ea_i h (Option.getD r2 0) 1) + (1 : Int32))) fun H25 => (gd ((okX5_readRule b0 (r2 : Option Nat) H25)) (ea_let (wX5_readRule b0 (r2 : Option Nat) H25) fun H28 => (gX5_read b0 f 132 (r2 : Option Nat) 0 (x3 : Int32) H28))))))))) else (gd ((okX5_refuse b0 (3 : Int32) h)) (ea_let (wX5_refuse b0 (3 : Int32) h) fun H41 => (gX5_read b0 f 132 (r2 : Option Nat) 0 (x3 : Int32) H41)))))) else (gd ((okX5_refuse b0 (1 : Int32) h)) (ea_let (wX5_refuse b0 (1 : Int32) h) fun H45 => (gX5_read b0 f 132 (r2 : Option Nat) 0 (x3 : Int32) H45)))))) else
    if lbl = 132 then (if (ea_i h (b0 + 22) 1) = (0 : Int32) then (gd ((okX5_skip b0 (59 : Int32) h)) (ea_let (wX5_skip b0 (59 : Int32) h) fun H51 => (if (vX5_skip b0 (59 : Int32) h) = (0 : Int32) then (some (none, H51)) else (gX5_read b0 f 39 (r2 : Option Nat) 0 ((x3 + (1 : Int32)) : Int32) H51)))) else (some (none, h))) else
    if lbl = 156 then (gd ((okJ7_copyOf_59c91 ((some (b0 + 27)) : Option Nat) ((ea_i h (b0 + 22) 11) : Int32) h)) (ea_let (wJ7_copyOf_59c91 ((some (b0 + 27)) : Option Nat) ((ea_i h (b0 + 22) 11) : Int32) h) fun H56 => (gd (r2 = some (Option.getD r2 0)) (gd (((Option.getD r2 0) < ea_n H56 ∧ ea_c H56 (Option.getD r2 0) = 0)) (gd (ShC_far b0 (Option.getD r2 0)) (ea_let (ShC_wd b0 H56 (Option.getD r2 0) 11 (vJ7_copyOf_59c91 ((some (b0 + 27)) : Option Nat) ((ea_i h (b0 + 22) 11) : Int32) h)) fun H61 => (some (r2, H61)))))))) else none
theorem tX5_read {d : Nat} {b0 : Nat} {h0 : ea_H} (hd : 45 ≤ d) : ∀ (f lbl : Nat) (r2 : Option Nat) (x1 : Int32) (x3 : Int32) (h : ea_H) (r : Option Nat) (h' : ea_H), gX5_read b0 f lbl r2 x1 x3 h = some (r, h') → ShC b0 h → (lbl = 0 → ea_W mX5_read d h0 (some (vR r)) h' 0 [(0, vR (some (b0 + 22))), (1, vI x1)] [] h) ∧ (lbl = 39 → ea_W mX5_read d h0 (some (vR r)) h' 39 [(0, vR (some (b0 + 22))), (2, vR r2), (3, vI x3)] [] h) ∧ (lbl = 132 → ea_W mX5_read d h0 (some (vR r)) h' 132 [(0, vR (some (b0 + 22))), (2, vR r2), (3, vI x3)] [] h) ∧ (lbl = 156 → ea_W mX5_read d h0 (some (vR r)) h' 156 [(0, vR (some (b0 + 22))), (2, vR r2)] [] h) := by
  intro f
  induction f with
  | zero => intro lbl r2 x1 x3 h r h' E; cases E
  | succ f ih =>
    intro lbl r2 x1 x3 h r h' E hs
    unfold gX5_read at E
    refine ⟨?_, ?_⟩
    · intro el
      subst el
      have E := (if_pos rfl).symm.trans E
      refine ea_aload_n (pc := 0) dX5_read_0 rfl 0 rfl ?_
      obtain ⟨z1, E⟩ := gd_some E
      refine ea_callV (pc := 1) (d' := d - 1) (As := []) (st := []) dX5_read_1 kX5_scan (sX5_scan (d := d - 1) (by omega) hs z1) (by omega) rfl (Nat.le_of_ble_eq_true rfl) ew_757 ew_759 ew_16 (ci := 5) rfl (by decide) (hs.1 22 (by decide)).1 (hs.1 22 (by decide)).2.1 ?_
      have hs2 : ShC b0 (wX5_scan b0 h) := shX5_scan hs
      obtain ⟨H3, eH3, E⟩ := let_some E
      refine ea_nm eH3 ?_
      have hsH3 : ShC b0 H3 := by rw [eH3]; exact hs2
      refine ea_aload_n (pc := 4) dX5_read_4 rfl 0 rfl ?_
      refine ea_callV (pc := 5) (d' := d - 1) (As := []) (st := []) dX5_read_5 kX5_drop (sX5_drop (d := d - 1) (by omega) hsH3) (by omega) rfl (Nat.le_of_ble_eq_true rfl) ew_785 ew_750 ew_751 (ci := 5) rfl (by decide) (hsH3.1 22 (by decide)).1 (hsH3.1 22 (by decide)).2.1 ?_
      have hs5 : ShC b0 (wX5_drop b0 H3) := shX5_drop hsH3
      obtain ⟨H6, eH6, E⟩ := let_some E
      refine ea_nm eH6 ?_
      have hsH6 : ShC b0 H6 := by rw [eH6]; exact hs5
      refine ea_aload_n (pc := 8) dX5_read_8 rfl 0 rfl ?_
      refine ea_iconst (pc := 9) dX5_read_9 (v := 0) rfl ?_
      refine ea_putI (pc := 10) dX5_read_10 ec_5 (k := 11) (Nat.le_of_ble_eq_true rfl) rfl (Or.inl ⟨rfl, Or.inl ew_305⟩) rfl rfl (hsH6.1 22 (by decide)).1 (hsH6.1 22 (by decide)).2.1 ?_
      have hs7 : ShC b0 (ea_wi H6 (b0 + 22) 11 0) := ShC_wi hsH6
      obtain ⟨H8, eH8, E⟩ := let_some E
      refine ea_nm eH8 ?_
      have hsH8 : ShC b0 H8 := by rw [eH8]; exact hs7
      refine ea_aload_n (pc := 13) dX5_read_13 rfl 0 rfl ?_
      refine ea_iconst (pc := 14) dX5_read_14 (v := 0) rfl ?_
      refine ea_putI (pc := 15) dX5_read_15 ec_5 (k := 8) (Nat.le_of_ble_eq_true rfl) rfl (Or.inl ⟨rfl, Or.inl ew_302⟩) rfl rfl (hsH8.1 22 (by decide)).1 (hsH8.1 22 (by decide)).2.1 ?_
      have hs9 : ShC b0 (ea_wi H8 (b0 + 22) 8 0) := ShC_wi hsH8
      obtain ⟨H10, eH10, E⟩ := let_some E
      refine ea_nm eH10 ?_
      have hsH10 : ShC b0 H10 := by rw [eH10]; exact hs9
      refine ea_aload_n (pc := 18) dX5_read_18 rfl 0 rfl ?_
      refine ea_aload_n (pc := 19) dX5_read_19 rfl 0 rfl ?_
      refine ea_getR (pc := 20) dX5_read_20 ec_5 (k := 4) (Nat.le_of_ble_eq_true rfl) rfl (Or.inl ew_298) (hsH10.1 22 (by decide)).1 (hsH10.1 22 (by decide)).2.1 (hsH10.2 22 4 rfl) ?_
      refine ea_iconst (pc := 23) dX5_read_23 (v := 0) rfl ?_
      refine ea_iald (pc := 24) dX5_read_24 (hsH10.1 24 (by decide)).1 (hsH10.1 24 (by decide)).2.1 (ea_vpl (n := 601) (hsH10.1 24 (by decide)).2.2 (by unfold vp_in; decide)) ?_
      refine ea_putI (pc := 25) dX5_read_25 ec_5 (k := 9) (Nat.le_of_ble_eq_true rfl) rfl (Or.inl ⟨rfl, Or.inl ew_303⟩) rfl rfl (hsH10.1 22 (by decide)).1 (hsH10.1 22 (by decide)).2.1 ?_
      have hs11 : ShC b0 (ea_wi H10 (b0 + 22) 9 (ea_i H10 (b0 + 24) 0)) := ShC_wi hsH10
      obtain ⟨H12, eH12, E⟩ := let_some E
      refine ea_nm eH12 ?_
      have hsH12 : ShC b0 H12 := by rw [eH12]; exact hs11
      refine ea_newO (pc := 28) dX5_read_28 ec_0 ew_786 ew_787 ew_121 ?_
      have hs13 : ShC b0 (ea_new H12 0 0 12) := ShC_new hsH12
      obtain ⟨H14, eH14, E⟩ := let_some E
      refine ea_nm eH14 ?_
      have hsH14 : ShC b0 H14 := by rw [eH14]; exact hs13
      refine ea_dup (pc := 31) dX5_read_31 rfl ?_
      refine ea_iload_n (pc := 32) dX5_read_32 rfl 1 rfl ?_
      obtain ⟨z15, E⟩ := gd_some E
      refine ea_callI (pc := 33) (d' := d - 1) (As := [vI x1]) (st := [vR (some (ea_n H12))]) dX5_read_33 kX0_init (sX0_init (d := d - 1) (by omega) hsH14 z15) (by omega) rfl (Nat.le_of_ble_eq_true rfl) ew_788 ew_789 rfl rfl ?_
      have hs16 : ShC b0 (wX0_init b0 (ea_n H12) (x1 : Int32) H14) := shX0_init hsH14
      obtain ⟨H17, eH17, E⟩ := let_some E
      refine ea_nm eH17 ?_
      have hsH17 : ShC b0 H17 := by rw [eH17]; exact hs16
      refine ea_astore_n (pc := 36) (lv' := [(0, vR (some (b0 + 22))), (2, vR (some (ea_n H12)))]) dX5_read_36 rfl (Nat.le_of_ble_eq_true rfl) [1, 0] rfl ?_
      refine ea_iconst (pc := 37) dX5_read_37 (v := 0) rfl ?_
      refine ea_istore_n (pc := 38) (lv' := [(0, vR (some (b0 + 22))), (2, vR (some (ea_n H12))), (3, vI 0)]) dX5_read_38 rfl (Nat.le_of_ble_eq_true rfl) [1, 2, 0] rfl ?_
      exact ((ih 39 ((some (ea_n H12)) : Option Nat) 0 (0 : Int32) H17 _ _ E hsH17).2.1 rfl)
    refine ⟨?_, ?_⟩
    · intro el
      subst el
      have E := (if_neg (by decide)).symm.trans E
      have E := (if_pos rfl).symm.trans E
      refine ea_iload_n (pc := 39) dX5_read_39 rfl 2 rfl ?_
      refine ea_sipush (pc := 40) dX5_read_40 (v := 600) rfl ?_
      refine ea_icmp_gt (pc := 43) (tgt := 156) dX5_read_43 rfl (fun c48 => ?_) (fun c48 => ?_)
      · have E := (if_pos c48).symm.trans E
        exact (ea_fewer [0, 1] rfl ((ih 156 (r2 : Option Nat) 0 0 h _ _ E hs).2.2.2 rfl))
      · have E := (if_neg c48).symm.trans E
        refine ea_aload_n (pc := 46) dX5_read_46 rfl 0 rfl ?_
        refine ea_getI (pc := 47) dX5_read_47 ec_5 (k := 9) (Nat.le_of_ble_eq_true rfl) rfl (Or.inl ew_303) (hs.1 22 (by decide)).1 (hs.1 22 (by decide)).2.1 ?_
        refine ea_bipush (pc := 50) dX5_read_50 (v := 19) rfl ?_
        refine ea_icmp_eq (pc := 52) (tgt := 156) dX5_read_52 rfl (fun c47 => ?_) (fun c47 => ?_)
        · have E := (if_pos c47).symm.trans E
          exact (ea_fewer [0, 1] rfl ((ih 156 (r2 : Option Nat) 0 0 h _ _ E hs).2.2.2 rfl))
        · have E := (if_neg c47).symm.trans E
          refine ea_aload_n (pc := 55) dX5_read_55 rfl 0 rfl ?_
          refine ea_getI (pc := 56) dX5_read_56 ec_5 (k := 9) (Nat.le_of_ble_eq_true rfl) rfl (Or.inl ew_303) (hs.1 22 (by decide)).1 (hs.1 22 (by decide)).2.1 ?_
          refine ea_iconst (pc := 59) dX5_read_59 (v := 5) rfl ?_
          refine ea_icmp_le (pc := 60) (tgt := 72) dX5_read_60 rfl (fun c46 => ?_) (fun c46 => ?_)
          · have E := (if_pos c46).symm.trans E
            refine ea_aload_n (pc := 72) dX5_read_72 rfl 1 rfl ?_
            obtain ⟨e18, E⟩ := gd_some E
            obtain ⟨f19, E⟩ := gd_some E
            refine ea_deref0 e18 ?_
            refine ea_getI (pc := 73) dX5_read_73 ec_0 (k := 1) (Nat.le_of_ble_eq_true rfl) rfl (Or.inl ew_794) f19.1 f19.2 ?_
            refine ea_bipush (pc := 76) dX5_read_76 (v := 24) rfl ?_
            refine ea_icmp_lt (pc := 78) (tgt := 90) dX5_read_78 rfl (fun c42 => ?_) (fun c42 => ?_)
            · have E := (if_pos c42).symm.trans E
              refine ea_aload_n (pc := 90) dX5_read_90 rfl 0 rfl ?_
              refine ea_getI (pc := 91) dX5_read_91 ec_5 (k := 9) (Nat.le_of_ble_eq_true rfl) rfl (Or.inl ew_303) (hs.1 22 (by decide)).1 (hs.1 22 (by decide)).2.1 ?_
              refine ea_if_ne (pc := 94) (tgt := 116) dX5_read_94 rfl (fun c38 => ?_) (fun c38 => ?_)
              · have E := (if_neg c38).symm.trans E
                refine ea_aload_n (pc := 116) dX5_read_116 rfl 1 rfl ?_
                refine ea_dup (pc := 117) dX5_read_117 rfl ?_
                obtain ⟨e20, E⟩ := gd_some E
                obtain ⟨f21, E⟩ := gd_some E
                refine ea_deref0 e20 ?_
                refine ea_getI (pc := 118) dX5_read_118 ec_0 (k := 1) (Nat.le_of_ble_eq_true rfl) rfl (Or.inl ew_794) f21.1 f21.2 ?_
                refine ea_iconst (pc := 121) dX5_read_121 (v := 1) rfl ?_
                refine ea_iadd (pc := 122) dX5_read_122 ?_
                obtain ⟨e22, E⟩ := gd_some E
                obtain ⟨f23, E⟩ := gd_some E
                refine ea_deref1 e22 ?_
                refine ea_putI (pc := 123) dX5_read_123 ec_0 (k := 1) (Nat.le_of_ble_eq_true rfl) rfl (Or.inl ⟨rfl, Or.inl ew_794⟩) rfl rfl f23.1 f23.2 ?_
                have hs24 : ShC b0 (ea_wi h (Option.getD r2 0) 1 ((ea_i h (Option.getD r2 0) 1) + (1 : Int32))) := ShC_wi hs
                obtain ⟨H25, eH25, E⟩ := let_some E
                refine ea_nm eH25 ?_
                have hsH25 : ShC b0 H25 := by rw [eH25]; exact hs24
                refine ea_aload_n (pc := 126) dX5_read_126 rfl 0 rfl ?_
                refine ea_aload_n (pc := 127) dX5_read_127 rfl 1 rfl ?_
                obtain ⟨z26, E⟩ := gd_some E
                refine ea_callV (pc := 128) (d' := d - 1) (As := [vR r2]) (st := []) dX5_read_128 kX5_readRule (sX5_readRule (d := d - 1) (by omega) hsH25 z26) (by omega) rfl (Nat.le_of_ble_eq_true rfl) ew_891 ew_893 ew_30 (ci := 5) rfl (by decide) (hsH25.1 22 (by decide)).1 (hsH25.1 22 (by decide)).2.1 ?_
                have hs27 : ShC b0 (wX5_readRule b0 (r2 : Option Nat) H25) := shX5_readRule hsH25
                obtain ⟨H28, eH28, E⟩ := let_some E
                refine ea_nm eH28 ?_
                have hsH28 : ShC b0 H28 := by rw [eH28]; exact hs27
                refine ea_pop (pc := 131) dX5_read_131 rfl ?_
                exact ((ih 132 (r2 : Option Nat) 0 (x3 : Int32) H28 _ _ E hsH28).2.2.1 rfl)
              · have E := (if_pos c38).symm.trans E
                refine ea_aload_n (pc := 97) dX5_read_97 rfl 1 rfl ?_
                refine ea_dup (pc := 98) dX5_read_98 rfl ?_
                obtain ⟨e29, E⟩ := gd_some E
                obtain ⟨f30, E⟩ := gd_some E
                refine ea_deref0 e29 ?_
                refine ea_getI (pc := 99) dX5_read_99 ec_0 (k := 1) (Nat.le_of_ble_eq_true rfl) rfl (Or.inl ew_794) f30.1 f30.2 ?_
                refine ea_iconst (pc := 102) dX5_read_102 (v := 1) rfl ?_
                refine ea_iadd (pc := 103) dX5_read_103 ?_
                obtain ⟨e31, E⟩ := gd_some E
                obtain ⟨f32, E⟩ := gd_some E
                refine ea_deref1 e31 ?_
                refine ea_putI (pc := 104) dX5_read_104 ec_0 (k := 1) (Nat.le_of_ble_eq_true rfl) rfl (Or.inl ⟨rfl, Or.inl ew_794⟩) rfl rfl f32.1 f32.2 ?_
                have hs33 : ShC b0 (ea_wi h (Option.getD r2 0) 1 ((ea_i h (Option.getD r2 0) 1) + (1 : Int32))) := ShC_wi hs
                obtain ⟨H34, eH34, E⟩ := let_some E
                refine ea_nm eH34 ?_
                have hsH34 : ShC b0 H34 := by rw [eH34]; exact hs33
                refine ea_aload_n (pc := 107) dX5_read_107 rfl 0 rfl ?_
                refine ea_aload_n (pc := 108) dX5_read_108 rfl 1 rfl ?_
                obtain ⟨z35, E⟩ := gd_some E
                refine ea_callV (pc := 109) (d' := d - 1) (As := [vR r2]) (st := []) dX5_read_109 kX5_readCharge (sX5_readCharge (d := d - 1) (by omega) hsH34 z35) (by omega) rfl (Nat.le_of_ble_eq_true rfl) ew_855 ew_857 ew_21 (ci := 5) rfl (by decide) (hsH34.1 22 (by decide)).1 (hsH34.1 22 (by decide)).2.1 ?_
                have hs36 : ShC b0 (wX5_readCharge b0 (r2 : Option Nat) H34) := shX5_readCharge hsH34
                obtain ⟨H37, eH37, E⟩ := let_some E
                refine ea_nm eH37 ?_
                have hsH37 : ShC b0 H37 := by rw [eH37]; exact hs36
                refine ea_pop (pc := 112) dX5_read_112 rfl ?_
                refine ea_goto (pc := 113) (tgt := 132) dX5_read_113 rfl ?_
                exact ((ih 132 (r2 : Option Nat) 0 (x3 : Int32) H37 _ _ E hsH37).2.2.1 rfl)
            · have E := (if_neg c42).symm.trans E
              refine ea_aload_n (pc := 81) dX5_read_81 rfl 0 rfl ?_
              refine ea_iconst (pc := 82) dX5_read_82 (v := 3) rfl ?_
              obtain ⟨z39, E⟩ := gd_some E
              refine ea_callV (pc := 83) (d' := d - 1) (As := [vI 3]) (st := []) dX5_read_83 kX5_refuse (sX5_refuse (d := d - 1) (by omega) hs z39) (by omega) rfl (Nat.le_of_ble_eq_true rfl) ew_851 ew_853 ew_20 (ci := 5) rfl (by decide) (hs.1 22 (by decide)).1 (hs.1 22 (by decide)).2.1 ?_
              have hs40 : ShC b0 (wX5_refuse b0 (3 : Int32) h) := shX5_refuse hs
              obtain ⟨H41, eH41, E⟩ := let_some E
              refine ea_nm eH41 ?_
              have hsH41 : ShC b0 H41 := by rw [eH41]; exact hs40
              refine ea_pop (pc := 86) dX5_read_86 rfl ?_
              refine ea_goto (pc := 87) (tgt := 132) dX5_read_87 rfl ?_
              exact ((ih 132 (r2 : Option Nat) 0 (x3 : Int32) H41 _ _ E hsH41).2.2.1 rfl)
          · have E := (if_neg c46).symm.trans E
            refine ea_aload_n (pc := 63) dX5_read_63 rfl 0 rfl ?_
            refine ea_iconst (pc := 64) dX5_read_64 (v := 1) rfl ?_
            obtain ⟨z43, E⟩ := gd_some E
            refine ea_callV (pc := 65) (d' := d - 1) (As := [vI 1]) (st := []) dX5_read_65 kX5_refuse (sX5_refuse (d := d - 1) (by omega) hs z43) (by omega) rfl (Nat.le_of_ble_eq_true rfl) ew_851 ew_853 ew_20 (ci := 5) rfl (by decide) (hs.1 22 (by decide)).1 (hs.1 22 (by decide)).2.1 ?_
            have hs44 : ShC b0 (wX5_refuse b0 (1 : Int32) h) := shX5_refuse hs
            obtain ⟨H45, eH45, E⟩ := let_some E
            refine ea_nm eH45 ?_
            have hsH45 : ShC b0 H45 := by rw [eH45]; exact hs44
            refine ea_pop (pc := 68) dX5_read_68 rfl ?_
            refine ea_goto (pc := 69) (tgt := 132) dX5_read_69 rfl ?_
            exact ((ih 132 (r2 : Option Nat) 0 (x3 : Int32) H45 _ _ E hsH45).2.2.1 rfl)
    refine ⟨?_, ?_⟩
    · intro el
      subst el
      have E := (if_neg (by decide)).symm.trans E
      have E := (if_neg (by decide)).symm.trans E
      have E := (if_pos rfl).symm.trans E
      refine ea_aload_n (pc := 132) dX5_read_132 rfl 0 rfl ?_
      refine ea_getI (pc := 133) dX5_read_133 ec_5 (k := 1) (Nat.le_of_ble_eq_true rfl) rfl (Or.inl ew_293) (hs.1 22 (by decide)).1 (hs.1 22 (by decide)).2.1 ?_
      refine ea_if_ne (pc := 136) (tgt := 148) dX5_read_136 rfl (fun c53 => ?_) (fun c53 => ?_)
      · have E := (if_neg c53).symm.trans E
        refine ea_null (pc := 148) dX5_read_148 ?_
        exact ea_aretO (pc := 149) dX5_read_149 rfl (Or.inl ⟨_, rfl⟩) E
      · have E := (if_pos c53).symm.trans E
        refine ea_aload_n (pc := 139) dX5_read_139 rfl 0 rfl ?_
        refine ea_bipush (pc := 140) dX5_read_140 (v := 59) rfl ?_
        obtain ⟨z49, E⟩ := gd_some E
        refine ea_callV (pc := 142) (d' := d - 1) (As := [vI 59]) (st := []) dX5_read_142 kX5_skip (sX5_skip (d := d - 1) (by omega) hs z49) (by omega) rfl (Nat.le_of_ble_eq_true rfl) ew_899 ew_901 ew_32 (ci := 5) rfl (by decide) (hs.1 22 (by decide)).1 (hs.1 22 (by decide)).2.1 ?_
        have hs50 : ShC b0 (wX5_skip b0 (59 : Int32) h) := shX5_skip hs
        obtain ⟨H51, eH51, E⟩ := let_some E
        refine ea_nm eH51 ?_
        have hsH51 : ShC b0 H51 := by rw [eH51]; exact hs50
        refine ea_if_ne (pc := 145) (tgt := 150) dX5_read_145 rfl (fun c52 => ?_) (fun c52 => ?_)
        · have E := (if_neg c52).symm.trans E
          refine ea_iinc (pc := 150) (v := 1) (lv' := [(0, vR (some (b0 + 22))), (2, vR r2), (3, vI (x3 + (1 : Int32)))]) dX5_read_150 2 rfl rfl (Nat.le_of_ble_eq_true rfl) [1, 2, 0] rfl ?_
          refine ea_goto (pc := 153) (tgt := 39) dX5_read_153 rfl ?_
          exact ((ih 39 (r2 : Option Nat) 0 ((x3 + (1 : Int32)) : Int32) H51 _ _ E hsH51).2.1 rfl)
        · have E := (if_pos c52).symm.trans E
          refine ea_null (pc := 148) dX5_read_148 ?_
          exact ea_aretO (pc := 149) dX5_read_149 rfl (Or.inl ⟨_, rfl⟩) E
    intro el
    subst el
    have E := (if_neg (by decide)).symm.trans E
    have E := (if_neg (by decide)).symm.trans E
    have E := (if_neg (by decide)).symm.trans E
    have E := (if_pos rfl).symm.trans E
    refine ea_aload_n (pc := 156) dX5_read_156 rfl 1 rfl ?_
    refine ea_aload_n (pc := 157) dX5_read_157 rfl 0 rfl ?_
    refine ea_getR (pc := 158) dX5_read_158 ec_5 (k := 10) (Nat.le_of_ble_eq_true rfl) rfl (Or.inl ew_304) (hs.1 22 (by decide)).1 (hs.1 22 (by decide)).2.1 (hs.2 22 10 rfl) ?_
    refine ea_aload_n (pc := 161) dX5_read_161 rfl 0 rfl ?_
    refine ea_getI (pc := 162) dX5_read_162 ec_5 (k := 11) (Nat.le_of_ble_eq_true rfl) rfl (Or.inl ew_305) (hs.1 22 (by decide)).1 (hs.1 22 (by decide)).2.1 ?_
    obtain ⟨z54, E⟩ := gd_some E
    refine ea_callS (pc := 165) (d' := d - 1) (As := [vR (some (b0 + 27)), vI (ea_i h (b0 + 22) 11)]) (st := [vR r2]) dX5_read_165 kJ7_copyOf_59c91 (sJ7_copyOf_59c91 (d := d - 1) (by omega) z54) (by omega) rfl (Nat.le_of_ble_eq_true rfl) ew_903 ew_654 ?_
    have hs55 : ShC b0 (wJ7_copyOf_59c91 ((some (b0 + 27)) : Option Nat) ((ea_i h (b0 + 22) 11) : Int32) h) := shJ7_copyOf_59c91 hs
    obtain ⟨H56, eH56, E⟩ := let_some E
    refine ea_nm eH56 ?_
    have hsH56 : ShC b0 H56 := by rw [eH56]; exact hs55
    obtain ⟨e57, E⟩ := gd_some E
    obtain ⟨f58, E⟩ := gd_some E
    obtain ⟨zf60, E⟩ := gd_some E
    refine ea_deref1 e57 ?_
    refine ea_putR (pc := 168) dX5_read_168 ec_0 (k := 11) (Nat.le_of_ble_eq_true rfl) rfl (Or.inl ⟨rfl, Or.inl ew_824⟩) f58.1 f58.2 ?_
    refine ea_nm (ShC_wdeq zf60) ?_
    have hs59 : ShC b0 (ShC_wd b0 H56 (Option.getD r2 0) 11 (vJ7_copyOf_59c91 ((some (b0 + 27)) : Option Nat) ((ea_i h (b0 + 22) 11) : Int32) h)) := ShC_wd_sh hsH56
    obtain ⟨H61, eH61, E⟩ := let_some E
    refine ea_nm eH61 ?_
    have hsH61 : ShC b0 H61 := by rw [eH61]; exact hs59
    refine ea_aload_n (pc := 171) dX5_read_171 rfl 1 rfl ?_
    exact ea_aretO (pc := 172) dX5_read_172 rfl (Or.inl ⟨_, rfl⟩) E
noncomputable def qX5_read (b0 : Nat) (x1 : Int32) (h : ea_H) : Option (Option Nat × ea_H) := gX5_read b0 1000000000 0 none x1 0 h
def okX5_read (b0 : Nat) (x1 : Int32) (h : ea_H) : Prop := ∃ x, qX5_read b0 x1 h = some x
noncomputable def vX5_read (b0 : Nat) (x1 : Int32) (h : ea_H) : Option Nat := ((qX5_read b0 x1 h).getD (none, h)).1
noncomputable def wX5_read (b0 : Nat) (x1 : Int32) (h : ea_H) : ea_H := ((qX5_read b0 x1 h).getD (none, h)).2
theorem sX5_read {d : Nat} {b0 : Nat} {x1 : Int32} {h : ea_H} (hd : 45 ≤ d) (hs : ShC b0 h) (K : okX5_read b0 x1 h) : ea_Met mX5_read d [vR (some (b0 + 22)), vI x1] h (some (vR (vX5_read b0 x1 h))) (wX5_read b0 x1 h) := by
  obtain ⟨⟨x, y⟩, K⟩ := K
  unfold wX5_read vX5_read
  rw [K]
  unfold qX5_read at K
  exact ea_enter rfl (Nat.le_of_ble_eq_true rfl) ((tX5_read hd 1000000000 0 none x1 0 h x y K hs).1 rfl)
theorem zX5_read {b0 : Nat} : ∀ (f lbl : Nat) (r2 : Option Nat) (x1 : Int32) (x3 : Int32) (h : ea_H) (r : Option Nat) (h' : ea_H), gX5_read b0 f lbl r2 x1 x3 h = some (r, h') → ShC b0 h → ShC b0 h' := by
  intro f
  induction f with
  | zero => intro lbl r2 x1 x3 h r h' E; cases E
  | succ f ih =>
    intro lbl r2 x1 x3 h r h' E hs
    unfold gX5_read at E
    by_cases el0 : lbl = 0
    · have E := (if_pos el0).symm.trans E
      obtain ⟨z1, E⟩ := gd_some E
      obtain ⟨H3, eH3, E⟩ := let_some E
      have hsH3 : ShC b0 H3 := by rw [eH3]; exact (shX5_scan hs)
      obtain ⟨H6, eH6, E⟩ := let_some E
      have hsH6 : ShC b0 H6 := by rw [eH6]; exact (shX5_drop hsH3)
      obtain ⟨H8, eH8, E⟩ := let_some E
      have hsH8 : ShC b0 H8 := by rw [eH8]; exact (ShC_wi hsH6)
      obtain ⟨H10, eH10, E⟩ := let_some E
      have hsH10 : ShC b0 H10 := by rw [eH10]; exact (ShC_wi hsH8)
      obtain ⟨H12, eH12, E⟩ := let_some E
      have hsH12 : ShC b0 H12 := by rw [eH12]; exact (ShC_wi hsH10)
      obtain ⟨H14, eH14, E⟩ := let_some E
      have hsH14 : ShC b0 H14 := by rw [eH14]; exact (ShC_new hsH12)
      obtain ⟨z15, E⟩ := gd_some E
      obtain ⟨H17, eH17, E⟩ := let_some E
      have hsH17 : ShC b0 H17 := by rw [eH17]; exact (shX0_init hsH14)
      exact ih 39 ((some (ea_n H12)) : Option Nat) 0 (0 : Int32) H17 _ _ E hsH17
    have E := (if_neg el0).symm.trans E
    by_cases el1 : lbl = 39
    · have E := (if_pos el1).symm.trans E
      by_cases c48 : (600 : Int32) < x3
      · have E := (if_pos c48).symm.trans E
        exact ih 156 (r2 : Option Nat) 0 0 h _ _ E hs
      have E := (if_neg c48).symm.trans E
      by_cases c47 : (ea_i h (b0 + 22) 9) = (19 : Int32)
      · have E := (if_pos c47).symm.trans E
        exact ih 156 (r2 : Option Nat) 0 0 h _ _ E hs
      have E := (if_neg c47).symm.trans E
      by_cases c46 : (ea_i h (b0 + 22) 9) ≤ (5 : Int32)
      · have E := (if_pos c46).symm.trans E
        obtain ⟨e18, E⟩ := gd_some E
        obtain ⟨f19, E⟩ := gd_some E
        by_cases c42 : (ea_i h (Option.getD r2 0) 1) < (24 : Int32)
        · have E := (if_pos c42).symm.trans E
          by_cases c38 : (ea_i h (b0 + 22) 9) = (0 : Int32)
          · have E := (if_pos c38).symm.trans E
            obtain ⟨e29, E⟩ := gd_some E
            obtain ⟨f30, E⟩ := gd_some E
            obtain ⟨e31, E⟩ := gd_some E
            obtain ⟨f32, E⟩ := gd_some E
            obtain ⟨H34, eH34, E⟩ := let_some E
            have hsH34 : ShC b0 H34 := by rw [eH34]; exact (ShC_wi hs)
            obtain ⟨z35, E⟩ := gd_some E
            obtain ⟨H37, eH37, E⟩ := let_some E
            have hsH37 : ShC b0 H37 := by rw [eH37]; exact (shX5_readCharge hsH34)
            exact ih 132 (r2 : Option Nat) 0 (x3 : Int32) H37 _ _ E hsH37
          have E := (if_neg c38).symm.trans E
          obtain ⟨e20, E⟩ := gd_some E
          obtain ⟨f21, E⟩ := gd_some E
          obtain ⟨e22, E⟩ := gd_some E
          obtain ⟨f23, E⟩ := gd_some E
          obtain ⟨H25, eH25, E⟩ := let_some E
          have hsH25 : ShC b0 H25 := by rw [eH25]; exact (ShC_wi hs)
          obtain ⟨z26, E⟩ := gd_some E
          obtain ⟨H28, eH28, E⟩ := let_some E
          have hsH28 : ShC b0 H28 := by rw [eH28]; exact (shX5_readRule hsH25)
          exact ih 132 (r2 : Option Nat) 0 (x3 : Int32) H28 _ _ E hsH28
        have E := (if_neg c42).symm.trans E
        obtain ⟨z39, E⟩ := gd_some E
        obtain ⟨H41, eH41, E⟩ := let_some E
        have hsH41 : ShC b0 H41 := by rw [eH41]; exact (shX5_refuse hs)
        exact ih 132 (r2 : Option Nat) 0 (x3 : Int32) H41 _ _ E hsH41
      have E := (if_neg c46).symm.trans E
      obtain ⟨z43, E⟩ := gd_some E
      obtain ⟨H45, eH45, E⟩ := let_some E
      have hsH45 : ShC b0 H45 := by rw [eH45]; exact (shX5_refuse hs)
      exact ih 132 (r2 : Option Nat) 0 (x3 : Int32) H45 _ _ E hsH45
    have E := (if_neg el1).symm.trans E
    by_cases el2 : lbl = 132
    · have E := (if_pos el2).symm.trans E
      by_cases c53 : (ea_i h (b0 + 22) 1) = (0 : Int32)
      · have E := (if_pos c53).symm.trans E
        obtain ⟨z49, E⟩ := gd_some E
        obtain ⟨H51, eH51, E⟩ := let_some E
        have hsH51 : ShC b0 H51 := by rw [eH51]; exact (shX5_skip hs)
        by_cases c52 : (vX5_skip b0 (59 : Int32) h) = (0 : Int32)
        · have E := (if_pos c52).symm.trans E
          exact ea_shO E hsH51
        have E := (if_neg c52).symm.trans E
        exact ih 39 (r2 : Option Nat) 0 ((x3 + (1 : Int32)) : Int32) H51 _ _ E hsH51
      have E := (if_neg c53).symm.trans E
      exact ea_shO E hs
    have E := (if_neg el2).symm.trans E
    by_cases el3 : lbl = 156
    · have E := (if_pos el3).symm.trans E
      obtain ⟨z54, E⟩ := gd_some E
      obtain ⟨H56, eH56, E⟩ := let_some E
      have hsH56 : ShC b0 H56 := by rw [eH56]; exact (shJ7_copyOf_59c91 hs)
      obtain ⟨e57, E⟩ := gd_some E
      obtain ⟨f58, E⟩ := gd_some E
      obtain ⟨zf60, E⟩ := gd_some E
      obtain ⟨H61, eH61, E⟩ := let_some E
      have hsH61 : ShC b0 H61 := by rw [eH61]; exact (ShC_wd_sh hsH56)
      exact ea_shO E hsH61
    have E := (if_neg el3).symm.trans E
    cases E
theorem shX5_read {b0 : Nat} {x1 : Int32} {h : ea_H} (hs : ShC b0 h) : ShC b0 (wX5_read b0 x1 h) := by
  unfold wX5_read
  cases K : qX5_read b0 x1 h with
  | none => exact hs
  | some x => obtain ⟨x, y⟩ := x; unfold qX5_read at K; exact zX5_read _ _ _ _ _ _ _ _ K hs
noncomputable def vX11_act (b0 : Nat) (x1 : Int32) (h : ea_H) : Int32 := (if (vX8_mayBegin b0 (x1 : Int32) h) = (0 : Int32) then ((-1) : Int32) else (vX8_add b0 ((vX5_read b0 (x1 : Int32) h) : Option Nat) (wX5_read b0 (x1 : Int32) h)))
noncomputable def wX11_act (b0 : Nat) (x1 : Int32) (h : ea_H) : ea_H := (if (vX8_mayBegin b0 (x1 : Int32) h) = (0 : Int32) then (wX5_drop b0 h) else (wX8_add b0 ((vX5_read b0 (x1 : Int32) h) : Option Nat) (wX5_read b0 (x1 : Int32) h)))
def okX11_act (b0 : Nat) (x1 : Int32) (h : ea_H) : Prop := (okX8_mayBegin b0 (x1 : Int32) h) ∧ (((vX8_mayBegin b0 (x1 : Int32) h) = (0 : Int32) → True) ∧ (¬ (vX8_mayBegin b0 (x1 : Int32) h) = (0 : Int32) → (okX5_read b0 (x1 : Int32) h) ∧ ((okX8_add b0 ((vX5_read b0 (x1 : Int32) h) : Option Nat) (wX5_read b0 (x1 : Int32) h)))))
theorem shX11_act {b0 : Nat} {x1 : Int32} {h : ea_H} (hs : ShC b0 h) : ShC b0 (wX11_act b0 x1 h) := (ShC_it (shX5_drop hs) (shX8_add (shX5_read hs)))
theorem sX11_act {d : Nat} {b0 : Nat} {x1 : Int32} {h : ea_H} (hd : 46 ≤ d) (hs : ShC b0 h) (K : okX11_act b0 x1 h) : ea_Met mX11_act d [vR (some (b0 + 0)), vI x1] h (some (vI (vX11_act b0 x1 h))) (wX11_act b0 x1 h) := by
  obtain ⟨X, EX⟩ : ∃ z, z = vX11_act b0 x1 h := ⟨_, rfl⟩
  rw [← EX]
  unfold vX11_act at EX
  obtain ⟨Y, EY⟩ : ∃ z, z = wX11_act b0 x1 h := ⟨_, rfl⟩
  rw [← EY]
  unfold wX11_act at EY
  unfold okX11_act at K
  refine ea_enter rfl (Nat.le_of_ble_eq_true rfl) ?_
  refine ea_aload_n (pc := 0) dX11_act_0 rfl 0 rfl ?_
  refine ea_getR (pc := 1) dX11_act_1 ec_11 (k := 4) (Nat.le_of_ble_eq_true rfl) rfl (Or.inl ew_441) (hs.1 0 (by decide)).1 (hs.1 0 (by decide)).2.1 (hs.2 0 4 rfl) ?_
  refine ea_iload_n (pc := 4) dX11_act_4 rfl 1 rfl ?_
  obtain ⟨z1, K⟩ := K
  refine ea_callV (pc := 5) (d' := d - 1) (As := [vI x1]) (st := []) dX11_act_5 kX8_mayBegin (sX8_mayBegin (d := d - 1) (by omega) hs z1) (by omega) rfl (Nat.le_of_ble_eq_true rfl) ew_745 ew_746 ew_747 (ci := 8) rfl (by decide) (hs.1 21 (by decide)).1 (hs.1 21 (by decide)).2.1 ?_
  refine ea_if_ne (pc := 8) (tgt := 23) dX11_act_8 rfl (fun c8 => ?_) (fun c8 => ?_)
  · have EX := EX.trans (if_neg c8)
    have EY := EY.trans (if_neg c8)
    have K := K.2 c8
    refine ea_aload_n (pc := 23) dX11_act_23 rfl 0 rfl ?_
    refine ea_getR (pc := 24) dX11_act_24 ec_11 (k := 4) (Nat.le_of_ble_eq_true rfl) rfl (Or.inl ew_441) (hs.1 0 (by decide)).1 (hs.1 0 (by decide)).2.1 (hs.2 0 4 rfl) ?_
    refine ea_aload_n (pc := 27) dX11_act_27 rfl 0 rfl ?_
    refine ea_getR (pc := 28) dX11_act_28 ec_11 (k := 4) (Nat.le_of_ble_eq_true rfl) rfl (Or.inl ew_441) (hs.1 0 (by decide)).1 (hs.1 0 (by decide)).2.1 (hs.2 0 4 rfl) ?_
    refine ea_getR (pc := 31) dX11_act_31 ec_8 (k := 0) (Nat.le_of_ble_eq_true rfl) rfl (Or.inl ew_334) (hs.1 21 (by decide)).1 (hs.1 21 (by decide)).2.1 (hs.2 21 0 rfl) ?_
    refine ea_iload_n (pc := 34) dX11_act_34 rfl 1 rfl ?_
    obtain ⟨z2, K⟩ := K
    refine ea_callV (pc := 35) (d' := d - 1) (As := [vI x1]) (st := [vR (some (b0 + 21))]) dX11_act_35 kX5_read (sX5_read (d := d - 1) (by omega) hs z2) (by omega) rfl (Nat.le_of_ble_eq_true rfl) ew_753 ew_754 ew_755 (ci := 5) rfl (by decide) (hs.1 22 (by decide)).1 (hs.1 22 (by decide)).2.1 ?_
    have hs3 : ShC b0 (wX5_read b0 (x1 : Int32) h) := shX5_read hs
    have z4 := K
    refine ea_callV (pc := 38) (d' := d - 1) (As := [vR (vX5_read b0 (x1 : Int32) h)]) (st := []) dX11_act_38 kX8_add (sX8_add (d := d - 1) (by omega) hs3 z4) (by omega) rfl (Nat.le_of_ble_eq_true rfl) ew_904 ew_905 ew_906 (ci := 8) rfl (by decide) (hs3.1 21 (by decide)).1 (hs3.1 21 (by decide)).2.1 ?_
    have hs5 : ShC b0 (wX8_add b0 ((vX5_read b0 (x1 : Int32) h) : Option Nat) (wX5_read b0 (x1 : Int32) h)) := shX8_add hs3
    exact ea_iretE (pc := 41) dX11_act_41 rfl rfl EX EY
  · have EX := EX.trans (if_pos c8)
    have EY := EY.trans (if_pos c8)
    refine ea_aload_n (pc := 11) dX11_act_11 rfl 0 rfl ?_
    refine ea_getR (pc := 12) dX11_act_12 ec_11 (k := 4) (Nat.le_of_ble_eq_true rfl) rfl (Or.inl ew_441) (hs.1 0 (by decide)).1 (hs.1 0 (by decide)).2.1 (hs.2 0 4 rfl) ?_
    refine ea_getR (pc := 15) dX11_act_15 ec_8 (k := 0) (Nat.le_of_ble_eq_true rfl) rfl (Or.inl ew_334) (hs.1 21 (by decide)).1 (hs.1 21 (by decide)).2.1 (hs.2 21 0 rfl) ?_
    refine ea_callV (pc := 18) (d' := d - 1) (As := []) (st := []) dX11_act_18 kX5_drop (sX5_drop (d := d - 1) (by omega) hs) (by omega) rfl (Nat.le_of_ble_eq_true rfl) ew_749 ew_750 ew_751 (ci := 5) rfl (by decide) (hs.1 22 (by decide)).1 (hs.1 22 (by decide)).2.1 ?_
    have hs7 : ShC b0 (wX5_drop b0 h) := shX5_drop hs
    refine ea_iconst (pc := 21) dX11_act_21 (v := (-1)) rfl ?_
    exact ea_iretE (pc := 22) dX11_act_22 rfl rfl EX EY
