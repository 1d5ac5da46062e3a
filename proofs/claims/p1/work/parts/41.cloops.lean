/-! the class: methods with loops, from each start -/
theorem pX11_road_0 {d b0 : Nat} {h0 hE h : ea_H} {rv : Option ea_V} {x1 : Int32} {x2 : Int32} {x3 : Int32} (hd : 2 ≤ d) (hs_h : ShC b0 h) (H : ((vX6_has b0 (x1 : Int32) h) = (0 : Int32) → rv = some (vI 0) ∧ hE = h) ∧ (¬ (vX6_has b0 (x1 : Int32) h) = (0 : Int32) → ((vX6_has b0 (x2 : Int32) h) = (0 : Int32) → rv = some (vI 0) ∧ hE = h) ∧ (¬ (vX6_has b0 (x2 : Int32) h) = (0 : Int32) → (x1 = x2 → rv = some (vI 0) ∧ hE = h) ∧ (¬ x1 = x2 → (x3 < (1 : Int32) → rv = some (vI 0) ∧ hE = h) ∧ (¬ x3 < (1 : Int32) → (x3 ≤ (999 : Int32) → ∃ (d42 : Nat) (h43 : ea_H), ea_Met mX6_lay d42 [vR (some (b0 + 1)), vI x1, vI x2, vI x3] h none h43 ∧ d42 + 1 ≤ d ∧ ShC b0 h43 ∧ rv = some (vI 1) ∧ hE = h43) ∧ (¬ x3 ≤ (999 : Int32) → rv = some (vI 0) ∧ hE = h)))))) : ea_W mX11_road d h0 rv hE 0 [(0, vR (some (b0 + 0))), (1, vI x1), (2, vI x2), (3, vI x3)] [] h := by
  refine ea_aload_n (pc := 0) dX11_road_0 rfl 0 rfl ?_
  refine ea_getR (pc := 1) dX11_road_1 ec_11 (k := 0) (Nat.le_of_ble_eq_true rfl) rfl (Or.inl ew_437) (hs_h.1 0 (by decide)).1 (hs_h.1 0 (by decide)).2.1 (hs_h.2 0 0 rfl) ?_
  refine ea_iload_n (pc := 4) dX11_road_4 rfl 1 rfl ?_
  refine ea_callV (pc := 5) (d' := d - 1) (As := [vI x1]) (st := []) dX11_road_5 kX6_has (sX6_has (d := d - 1) (by omega) hs_h) (by omega) rfl (Nat.le_of_ble_eq_true rfl) ew_494 ew_495 ew_496 (ci := 6) rfl (by decide) (hs_h.1 1 (by decide)).1 (hs_h.1 1 (by decide)).2.1 ?_
  refine ea_if_eq (pc := 8) (tgt := 39) dX11_road_8 rfl (fun c51 => ?_) (fun c51 => ?_)
  · have H := H.1 c51
    refine ea_iconst (pc := 39) dX11_road_39 (v := 0) rfl ?_
    obtain ⟨rfl, rfl⟩ := H
    exact ea_ireturn (pc := 40) dX11_road_40 rfl (ea_bn (Or.inl rfl))
  · have H := H.2 c51
    refine ea_aload_n (pc := 11) dX11_road_11 rfl 0 rfl ?_
    refine ea_getR (pc := 12) dX11_road_12 ec_11 (k := 0) (Nat.le_of_ble_eq_true rfl) rfl (Or.inl ew_437) (hs_h.1 0 (by decide)).1 (hs_h.1 0 (by decide)).2.1 (hs_h.2 0 0 rfl) ?_
    refine ea_iload_n (pc := 15) dX11_road_15 rfl 2 rfl ?_
    refine ea_callV (pc := 16) (d' := d - 1) (As := [vI x2]) (st := []) dX11_road_16 kX6_has (sX6_has (d := d - 1) (by omega) hs_h) (by omega) rfl (Nat.le_of_ble_eq_true rfl) ew_494 ew_495 ew_496 (ci := 6) rfl (by decide) (hs_h.1 1 (by decide)).1 (hs_h.1 1 (by decide)).2.1 ?_
    refine ea_if_eq (pc := 19) (tgt := 39) dX11_road_19 rfl (fun c49 => ?_) (fun c49 => ?_)
    · have H := H.1 c49
      refine ea_iconst (pc := 39) dX11_road_39 (v := 0) rfl ?_
      obtain ⟨rfl, rfl⟩ := H
      exact ea_ireturn (pc := 40) dX11_road_40 rfl (ea_bn (Or.inl rfl))
    · have H := H.2 c49
      refine ea_iload_n (pc := 22) dX11_road_22 rfl 1 rfl ?_
      refine ea_iload_n (pc := 23) dX11_road_23 rfl 2 rfl ?_
      refine ea_icmp_eq (pc := 24) (tgt := 39) dX11_road_24 rfl (fun c48 => ?_) (fun c48 => ?_)
      · have H := H.1 c48
        refine ea_iconst (pc := 39) dX11_road_39 (v := 0) rfl ?_
        obtain ⟨rfl, rfl⟩ := H
        exact ea_ireturn (pc := 40) dX11_road_40 rfl (ea_bn (Or.inl rfl))
      · have H := H.2 c48
        refine ea_iload_n (pc := 27) dX11_road_27 rfl 3 rfl ?_
        refine ea_iconst (pc := 28) dX11_road_28 (v := 1) rfl ?_
        refine ea_icmp_lt (pc := 29) (tgt := 39) dX11_road_29 rfl (fun c47 => ?_) (fun c47 => ?_)
        · have H := H.1 c47
          refine ea_iconst (pc := 39) dX11_road_39 (v := 0) rfl ?_
          obtain ⟨rfl, rfl⟩ := H
          exact ea_ireturn (pc := 40) dX11_road_40 rfl (ea_bn (Or.inl rfl))
        · have H := H.2 c47
          refine ea_iload_n (pc := 32) dX11_road_32 rfl 3 rfl ?_
          refine ea_sipush (pc := 33) dX11_road_33 (v := 999) rfl ?_
          refine ea_icmp_le (pc := 36) (tgt := 41) dX11_road_36 rfl (fun c46 => ?_) (fun c46 => ?_)
          · have H := H.1 c46
            refine ea_aload_n (pc := 41) dX11_road_41 rfl 0 rfl ?_
            refine ea_getR (pc := 42) dX11_road_42 ec_11 (k := 0) (Nat.le_of_ble_eq_true rfl) rfl (Or.inl ew_437) (hs_h.1 0 (by decide)).1 (hs_h.1 0 (by decide)).2.1 (hs_h.2 0 0 rfl) ?_
            refine ea_iload_n (pc := 45) dX11_road_45 rfl 1 rfl ?_
            refine ea_iload_n (pc := 46) dX11_road_46 rfl 2 rfl ?_
            refine ea_iload_n (pc := 47) dX11_road_47 rfl 3 rfl ?_
            obtain ⟨d42, h43, m44, q45, hs_h43, H⟩ := H
            refine ea_callV (pc := 48) (As := [vI x1, vI x2, vI x3]) (st := []) dX11_road_48 kX6_lay m44 q45 rfl (Nat.le_of_ble_eq_true rfl) ew_498 ew_499 ew_500 (ci := 6) rfl (by decide) (hs_h.1 1 (by decide)).1 (hs_h.1 1 (by decide)).2.1 ?_
            refine ea_iconst (pc := 51) dX11_road_51 (v := 1) rfl ?_
            obtain ⟨rfl, rfl⟩ := H
            exact ea_ireturn (pc := 52) dX11_road_52 rfl (ea_bn (Or.inr rfl))
          · have H := H.2 c46
            refine ea_iconst (pc := 39) dX11_road_39 (v := 0) rfl ?_
            obtain ⟨rfl, rfl⟩ := H
            exact ea_ireturn (pc := 40) dX11_road_40 rfl (ea_bn (Or.inl rfl))
theorem pX11_minutes_0 {d b0 : Nat} {h0 hE h : ea_H} {rv : Option ea_V} {x1 : Int32} (hd : 1 ≤ d) (hs_h : ShC b0 h) (H : (x1 < (1 : Int32) → rv = some (vI (-1)) ∧ hE = h) ∧ (¬ x1 < (1 : Int32) → ((3000 : Int32) < x1 → rv = some (vI (-1)) ∧ hE = h) ∧ (¬ (3000 : Int32) < x1 → (((ea_i h (b0 + 0) 11) + x1) ≤ (10079 : Int32) → ∀ h1, h1 = ea_wi h (b0 + 0) 12 0 → ∃ (d3 : Nat) (h4 : ea_H), ea_Met mX1_carry d3 [vR (some (b0 + 32)), vI (ea_i h1 (b0 + 0) 11), vI ((ea_i h1 (b0 + 0) 11) + x1)] h1 none h4 ∧ d3 + 1 ≤ d ∧ ShC b0 h4 ∧ ∀ h7, h7 = ea_wi h4 (b0 + 0) 11 ((ea_i h4 (b0 + 0) 11) + x1) → rv = some (vI (ea_i h7 (b0 + 0) 11)) ∧ hE = h7) ∧ (¬ ((ea_i h (b0 + 0) 11) + x1) ≤ (10079 : Int32) → rv = some (vI (-1)) ∧ hE = h)))) : ea_W mX11_minutes d h0 rv hE 0 [(0, vR (some (b0 + 0))), (1, vI x1)] [] h := by
  refine ea_iload_n (pc := 0) dX11_minutes_0 rfl 1 rfl ?_
  refine ea_iconst (pc := 1) dX11_minutes_1 (v := 1) rfl ?_
  refine ea_icmp_lt (pc := 2) (tgt := 24) dX11_minutes_2 rfl (fun c11 => ?_) (fun c11 => ?_)
  · have H := H.1 c11
    refine ea_iconst (pc := 24) dX11_minutes_24 (v := (-1)) rfl ?_
    obtain ⟨rfl, rfl⟩ := H
    exact ea_ireturn (pc := 25) dX11_minutes_25 rfl rfl
  · have H := H.2 c11
    refine ea_iload_n (pc := 5) dX11_minutes_5 rfl 1 rfl ?_
    refine ea_sipush (pc := 6) dX11_minutes_6 (v := 3000) rfl ?_
    refine ea_icmp_gt (pc := 9) (tgt := 24) dX11_minutes_9 rfl (fun c10 => ?_) (fun c10 => ?_)
    · have H := H.1 c10
      refine ea_iconst (pc := 24) dX11_minutes_24 (v := (-1)) rfl ?_
      obtain ⟨rfl, rfl⟩ := H
      exact ea_ireturn (pc := 25) dX11_minutes_25 rfl rfl
    · have H := H.2 c10
      refine ea_aload_n (pc := 12) dX11_minutes_12 rfl 0 rfl ?_
      refine ea_getI (pc := 13) dX11_minutes_13 ec_11 (k := 11) (Nat.le_of_ble_eq_true rfl) rfl (Or.inl ew_448) (hs_h.1 0 (by decide)).1 (hs_h.1 0 (by decide)).2.1 ?_
      refine ea_iload_n (pc := 16) dX11_minutes_16 rfl 1 rfl ?_
      refine ea_iadd (pc := 17) dX11_minutes_17 ?_
      refine ea_sipush (pc := 18) dX11_minutes_18 (v := 10079) rfl ?_
      refine ea_icmp_le (pc := 21) (tgt := 26) dX11_minutes_21 rfl (fun c9 => ?_) (fun c9 => ?_)
      · have H := H.1 c9
        refine ea_aload_n (pc := 26) dX11_minutes_26 rfl 0 rfl ?_
        refine ea_iconst (pc := 27) dX11_minutes_27 (v := 0) rfl ?_
        refine ea_putI (pc := 28) dX11_minutes_28 ec_11 (k := 12) (Nat.le_of_ble_eq_true rfl) rfl (Or.inl ⟨rfl, Or.inl ew_449⟩) (ea_bn (Or.inl rfl)) (ea_bf (Or.inl rfl)) (hs_h.1 0 (by decide)).1 (hs_h.1 0 (by decide)).2.1 ?_
        obtain ⟨h1, E2⟩ : ∃ z, z = ea_wi h (b0 + 0) 12 0 := ⟨_, rfl⟩
        have H := H h1 E2
        refine ea_nm E2 ?_
        have hs_h1 : ShC b0 h1 := by rw [E2]; exact ShC_wi hs_h
        refine ea_aload_n (pc := 31) dX11_minutes_31 rfl 0 rfl ?_
        refine ea_getR (pc := 32) dX11_minutes_32 ec_11 (k := 6) (Nat.le_of_ble_eq_true rfl) rfl (Or.inl ew_443) (hs_h1.1 0 (by decide)).1 (hs_h1.1 0 (by decide)).2.1 (hs_h1.2 0 6 rfl) ?_
        refine ea_aload_n (pc := 35) dX11_minutes_35 rfl 0 rfl ?_
        refine ea_getI (pc := 36) dX11_minutes_36 ec_11 (k := 11) (Nat.le_of_ble_eq_true rfl) rfl (Or.inl ew_448) (hs_h1.1 0 (by decide)).1 (hs_h1.1 0 (by decide)).2.1 ?_
        refine ea_aload_n (pc := 39) dX11_minutes_39 rfl 0 rfl ?_
        refine ea_getI (pc := 40) dX11_minutes_40 ec_11 (k := 11) (Nat.le_of_ble_eq_true rfl) rfl (Or.inl ew_448) (hs_h1.1 0 (by decide)).1 (hs_h1.1 0 (by decide)).2.1 ?_
        refine ea_iload_n (pc := 43) dX11_minutes_43 rfl 1 rfl ?_
        refine ea_iadd (pc := 44) dX11_minutes_44 ?_
        obtain ⟨d3, h4, m5, q6, hs_h4, H⟩ := H
        refine ea_callV (pc := 45) (As := [vI (ea_i h1 (b0 + 0) 11), vI ((ea_i h1 (b0 + 0) 11) + x1)]) (st := []) dX11_minutes_45 kX1_carry m5 q6 rfl (Nat.le_of_ble_eq_true rfl) ew_559 ew_560 ew_561 (ci := 1) rfl (by decide) (hs_h1.1 32 (by decide)).1 (hs_h1.1 32 (by decide)).2.1 ?_
        refine ea_aload_n (pc := 48) dX11_minutes_48 rfl 0 rfl ?_
        refine ea_dup (pc := 49) dX11_minutes_49 rfl ?_
        refine ea_getI (pc := 50) dX11_minutes_50 ec_11 (k := 11) (Nat.le_of_ble_eq_true rfl) rfl (Or.inl ew_448) (hs_h4.1 0 (by decide)).1 (hs_h4.1 0 (by decide)).2.1 ?_
        refine ea_iload_n (pc := 53) dX11_minutes_53 rfl 1 rfl ?_
        refine ea_iadd (pc := 54) dX11_minutes_54 ?_
        refine ea_putI (pc := 55) dX11_minutes_55 ec_11 (k := 11) (Nat.le_of_ble_eq_true rfl) rfl (Or.inl ⟨rfl, Or.inl ew_448⟩) rfl rfl (hs_h4.1 0 (by decide)).1 (hs_h4.1 0 (by decide)).2.1 ?_
        obtain ⟨h7, E8⟩ : ∃ z, z = ea_wi h4 (b0 + 0) 11 ((ea_i h4 (b0 + 0) 11) + x1) := ⟨_, rfl⟩
        have H := H h7 E8
        refine ea_nm E8 ?_
        have hs_h7 : ShC b0 h7 := by rw [E8]; exact ShC_wi hs_h4
        refine ea_aload_n (pc := 58) dX11_minutes_58 rfl 0 rfl ?_
        refine ea_getI (pc := 59) dX11_minutes_59 ec_11 (k := 11) (Nat.le_of_ble_eq_true rfl) rfl (Or.inl ew_448) (hs_h7.1 0 (by decide)).1 (hs_h7.1 0 (by decide)).2.1 ?_
        obtain ⟨rfl, rfl⟩ := H
        exact ea_ireturn (pc := 62) dX11_minutes_62 rfl rfl
      · have H := H.2 c9
        refine ea_iconst (pc := 24) dX11_minutes_24 (v := (-1)) rfl ?_
        obtain ⟨rfl, rfl⟩ := H
        exact ea_ireturn (pc := 25) dX11_minutes_25 rfl rfl
theorem pX11_look_0 {d b0 : Nat} {h0 hE h : ea_H} {rv : Option ea_V} {x1 : Int32} (hd : 1 ≤ d) (hs_h : ShC b0 h) (H : (x1 < (10 : Int32) → ea_W mX11_look d h0 rv hE 24 [(0, vR (some (b0 + 0))), (1, vI x1)] [] h) ∧ (¬ x1 < (10 : Int32) → ((16 : Int32) < x1 → ea_W mX11_look d h0 rv hE 24 [(0, vR (some (b0 + 0))), (1, vI x1)] [] h) ∧ (¬ (16 : Int32) < x1 → ∃ (d1 : Nat) (xc5 : Int32) (h2 : ea_H), ea_Met mX1_inState d1 [vR (some (b0 + 32)), vI (x1 - (10 : Int32))] h (some (vI xc5)) h2 ∧ d1 + 1 ≤ d ∧ ShC b0 h2 ∧ rv = some (vI xc5) ∧ hE = h2))) : ea_W mX11_look d h0 rv hE 0 [(0, vR (some (b0 + 0))), (1, vI x1)] [] h := by
  refine ea_iload_n (pc := 0) dX11_look_0 rfl 1 rfl ?_
  refine ea_bipush (pc := 1) dX11_look_1 (v := 10) rfl ?_
  refine ea_icmp_lt (pc := 3) (tgt := 24) dX11_look_3 rfl (fun c7 => ?_) (fun c7 => ?_)
  · have H := H.1 c7
    exact H
  · have H := H.2 c7
    refine ea_iload_n (pc := 6) dX11_look_6 rfl 1 rfl ?_
    refine ea_bipush (pc := 7) dX11_look_7 (v := 16) rfl ?_
    refine ea_icmp_gt (pc := 9) (tgt := 24) dX11_look_9 rfl (fun c6 => ?_) (fun c6 => ?_)
    · have H := H.1 c6
      exact H
    · have H := H.2 c6
      refine ea_aload_n (pc := 12) dX11_look_12 rfl 0 rfl ?_
      refine ea_getR (pc := 13) dX11_look_13 ec_11 (k := 6) (Nat.le_of_ble_eq_true rfl) rfl (Or.inl ew_443) (hs_h.1 0 (by decide)).1 (hs_h.1 0 (by decide)).2.1 (hs_h.2 0 6 rfl) ?_
      refine ea_iload_n (pc := 16) dX11_look_16 rfl 1 rfl ?_
      refine ea_bipush (pc := 17) dX11_look_17 (v := 10) rfl ?_
      refine ea_isub (pc := 19) dX11_look_19 ?_
      obtain ⟨d1, xc5, h2, m3, q4, hs_h2, H⟩ := H
      refine ea_callV (pc := 20) (As := [vI (x1 - (10 : Int32))]) (st := []) dX11_look_20 kX1_inState m3 q4 rfl (Nat.le_of_ble_eq_true rfl) ew_725 ew_726 ew_727 (ci := 1) rfl (by decide) (hs_h.1 32 (by decide)).1 (hs_h.1 32 (by decide)).2.1 ?_
      obtain ⟨rfl, rfl⟩ := H
      exact ea_ireturn (pc := 23) dX11_look_23 rfl rfl
theorem pX11_look_24 {d b0 : Nat} {h0 hE h : ea_H} {rv : Option ea_V} {x1 : Int32} (hd : 1 ≤ d) (hs_h : ShC b0 h) (H : (Int32.toInt x1 = 0 → rv = some (vI (ea_i h (b0 + 0) 11)) ∧ hE = h) ∧ (Int32.toInt x1 = 1 → rv = some (vI (ea_i h (b0 + 1) 0)) ∧ hE = h) ∧ (Int32.toInt x1 = 2 → rv = some (vI (ea_i h (b0 + 5) 0)) ∧ hE = h) ∧ (Int32.toInt x1 = 3 → rv = some (vI (ea_i h (b0 + 32) 0)) ∧ hE = h) ∧ (Int32.toInt x1 = 4 → rv = some (vI (ea_i h (b0 + 16) 0)) ∧ hE = h) ∧ (Int32.toInt x1 = 5 → rv = some (vI (ea_i h (b0 + 21) 1)) ∧ hE = h) ∧ (Int32.toInt x1 < 0 ∨ 5 < Int32.toInt x1 → rv = some (vI (-1)) ∧ hE = h)) : ea_W mX11_look d h0 rv hE 24 [(0, vR (some (b0 + 0))), (1, vI x1)] [] h := by
  refine ea_iload_n (pc := 24) dX11_look_24 rfl 1 rfl ?_
  by_cases qc1 : Int32.toInt x1 = 0
  · have H := H.1 qc1
    refine ea_tswIn (pc := 25) (tgt := 64) dX11_look_25 (by omega) (by omega) (by rw [qc1]; rfl) rfl ?_
    refine ea_aload_n (pc := 64) dX11_look_64 rfl 0 rfl ?_
    refine ea_getI (pc := 65) dX11_look_65 ec_11 (k := 11) (Nat.le_of_ble_eq_true rfl) rfl (Or.inl ew_448) (hs_h.1 0 (by decide)).1 (hs_h.1 0 (by decide)).2.1 ?_
    obtain ⟨rfl, rfl⟩ := H
    exact ea_ireturn (pc := 68) dX11_look_68 rfl rfl
  by_cases qc2 : Int32.toInt x1 = 1
  · have H := H.2.1 qc2
    refine ea_tswIn (pc := 25) (tgt := 69) dX11_look_25 (by omega) (by omega) (by rw [qc2]; rfl) rfl ?_
    refine ea_aload_n (pc := 69) dX11_look_69 rfl 0 rfl ?_
    refine ea_getR (pc := 70) dX11_look_70 ec_11 (k := 0) (Nat.le_of_ble_eq_true rfl) rfl (Or.inl ew_437) (hs_h.1 0 (by decide)).1 (hs_h.1 0 (by decide)).2.1 (hs_h.2 0 0 rfl) ?_
    refine ea_getI (pc := 73) dX11_look_73 ec_6 (k := 0) (Nat.le_of_ble_eq_true rfl) rfl (Or.inl ew_156) (hs_h.1 1 (by decide)).1 (hs_h.1 1 (by decide)).2.1 ?_
    obtain ⟨rfl, rfl⟩ := H
    exact ea_ireturn (pc := 76) dX11_look_76 rfl rfl
  by_cases qc3 : Int32.toInt x1 = 2
  · have H := H.2.2.1 qc3
    refine ea_tswIn (pc := 25) (tgt := 77) dX11_look_25 (by omega) (by omega) (by rw [qc3]; rfl) rfl ?_
    refine ea_aload_n (pc := 77) dX11_look_77 rfl 0 rfl ?_
    refine ea_getR (pc := 78) dX11_look_78 ec_11 (k := 1) (Nat.le_of_ble_eq_true rfl) rfl (Or.inl ew_438) (hs_h.1 0 (by decide)).1 (hs_h.1 0 (by decide)).2.1 (hs_h.2 0 1 rfl) ?_
    refine ea_getI (pc := 81) dX11_look_81 ec_9 (k := 0) (Nat.le_of_ble_eq_true rfl) rfl (Or.inl ew_178) (hs_h.1 5 (by decide)).1 (hs_h.1 5 (by decide)).2.1 ?_
    obtain ⟨rfl, rfl⟩ := H
    exact ea_ireturn (pc := 84) dX11_look_84 rfl rfl
  by_cases qc4 : Int32.toInt x1 = 3
  · have H := H.2.2.2.1 qc4
    refine ea_tswIn (pc := 25) (tgt := 85) dX11_look_25 (by omega) (by omega) (by rw [qc4]; rfl) rfl ?_
    refine ea_aload_n (pc := 85) dX11_look_85 rfl 0 rfl ?_
    refine ea_getR (pc := 86) dX11_look_86 ec_11 (k := 6) (Nat.le_of_ble_eq_true rfl) rfl (Or.inl ew_443) (hs_h.1 0 (by decide)).1 (hs_h.1 0 (by decide)).2.1 (hs_h.2 0 6 rfl) ?_
    refine ea_getI (pc := 89) dX11_look_89 ec_1 (k := 0) (Nat.le_of_ble_eq_true rfl) rfl (Or.inl ew_360) (hs_h.1 32 (by decide)).1 (hs_h.1 32 (by decide)).2.1 ?_
    obtain ⟨rfl, rfl⟩ := H
    exact ea_ireturn (pc := 92) dX11_look_92 rfl rfl
  by_cases qc5 : Int32.toInt x1 = 4
  · have H := H.2.2.2.2.1 qc5
    refine ea_tswIn (pc := 25) (tgt := 93) dX11_look_25 (by omega) (by omega) (by rw [qc5]; rfl) rfl ?_
    refine ea_aload_n (pc := 93) dX11_look_93 rfl 0 rfl ?_
    refine ea_getR (pc := 94) dX11_look_94 ec_11 (k := 3) (Nat.le_of_ble_eq_true rfl) rfl (Or.inl ew_440) (hs_h.1 0 (by decide)).1 (hs_h.1 0 (by decide)).2.1 (hs_h.2 0 3 rfl) ?_
    refine ea_getI (pc := 97) dX11_look_97 ec_3 (k := 0) (Nat.le_of_ble_eq_true rfl) rfl (Or.inl ew_262) (hs_h.1 16 (by decide)).1 (hs_h.1 16 (by decide)).2.1 ?_
    obtain ⟨rfl, rfl⟩ := H
    exact ea_ireturn (pc := 100) dX11_look_100 rfl rfl
  by_cases qc6 : Int32.toInt x1 = 5
  · have H := H.2.2.2.2.2.1 qc6
    refine ea_tswIn (pc := 25) (tgt := 101) dX11_look_25 (by omega) (by omega) (by rw [qc6]; rfl) rfl ?_
    refine ea_aload_n (pc := 101) dX11_look_101 rfl 0 rfl ?_
    refine ea_getR (pc := 102) dX11_look_102 ec_11 (k := 4) (Nat.le_of_ble_eq_true rfl) rfl (Or.inl ew_441) (hs_h.1 0 (by decide)).1 (hs_h.1 0 (by decide)).2.1 (hs_h.2 0 4 rfl) ?_
    refine ea_getI (pc := 105) dX11_look_105 ec_8 (k := 1) (Nat.le_of_ble_eq_true rfl) rfl (Or.inl ew_336) (hs_h.1 21 (by decide)).1 (hs_h.1 21 (by decide)).2.1 ?_
    obtain ⟨rfl, rfl⟩ := H
    exact ea_ireturn (pc := 108) dX11_look_108 rfl rfl
  have qd : Int32.toInt x1 < 0 ∨ 5 < Int32.toInt x1 := by omega
  have H := H.2.2.2.2.2.2 qd
  refine ea_tswOut (pc := 25) (tgt := 109) dX11_look_25 qd rfl ?_
  refine ea_iconst (pc := 109) dX11_look_109 (v := (-1)) rfl ?_
  obtain ⟨rfl, rfl⟩ := H
  exact ea_ireturn (pc := 110) dX11_look_110 rfl rfl
theorem pX11_feed_0 {d b0 : Nat} {h0 hE h : ea_H} {rv : Option ea_V} {x1 : Int32} {x2 : Int32} {x3 : Int32} {x4 : Int32} {x5 : Int32} (hd : 1 ≤ d) (hs_h : ShC b0 h) (H : (((ea_i h (b0 + 22) 0) + (20 : Int32)) ≤ (600 : Int32) → ∃ (d1 : Nat) (h2 : ea_H), ea_Met mX5_take d1 [vR (some (b0 + 22)), vI x1] h none h2 ∧ d1 + 1 ≤ d ∧ ShC b0 h2 ∧ ∃ (d5 : Nat) (h6 : ea_H), ea_Met mX5_take d5 [vR (some (b0 + 22)), vI x2] h2 none h6 ∧ d5 + 1 ≤ d ∧ ShC b0 h6 ∧ ∃ (d9 : Nat) (h10 : ea_H), ea_Met mX5_take d9 [vR (some (b0 + 22)), vI x3] h6 none h10 ∧ d9 + 1 ≤ d ∧ ShC b0 h10 ∧ ∃ (d13 : Nat) (h14 : ea_H), ea_Met mX5_take d13 [vR (some (b0 + 22)), vI x4] h10 none h14 ∧ d13 + 1 ≤ d ∧ ShC b0 h14 ∧ ∃ (d17 : Nat) (h18 : ea_H), ea_Met mX5_take d17 [vR (some (b0 + 22)), vI x5] h14 none h18 ∧ d17 + 1 ≤ d ∧ ShC b0 h18 ∧ rv = some (vI (ea_i h18 (b0 + 22) 0)) ∧ hE = h18) ∧ (¬ ((ea_i h (b0 + 22) 0) + (20 : Int32)) ≤ (600 : Int32) → rv = some (vI (-1)) ∧ hE = h)) : ea_W mX11_feed d h0 rv hE 0 [(0, vR (some (b0 + 0))), (1, vI x1), (2, vI x2), (3, vI x3), (4, vI x4), (5, vI x5)] [] h := by
  refine ea_aload_n (pc := 0) dX11_feed_0 rfl 0 rfl ?_
  refine ea_getR (pc := 1) dX11_feed_1 ec_11 (k := 4) (Nat.le_of_ble_eq_true rfl) rfl (Or.inl ew_441) (hs_h.1 0 (by decide)).1 (hs_h.1 0 (by decide)).2.1 (hs_h.2 0 4 rfl) ?_
  refine ea_getR (pc := 4) dX11_feed_4 ec_8 (k := 0) (Nat.le_of_ble_eq_true rfl) rfl (Or.inl ew_334) (hs_h.1 21 (by decide)).1 (hs_h.1 21 (by decide)).2.1 (hs_h.2 21 0 rfl) ?_
  refine ea_astore (pc := 7) (lv' := [(1, vI x1), (2, vI x2), (3, vI x3), (4, vI x4), (5, vI x5), (6, vR (some (b0 + 22)))]) dX11_feed_7 (Nat.le_of_ble_eq_true rfl) [2, 3, 4, 5, 6, 0] rfl ?_
  refine ea_aload (pc := 9) dX11_feed_9 5 rfl ?_
  refine ea_getI (pc := 11) dX11_feed_11 ec_5 (k := 0) (Nat.le_of_ble_eq_true rfl) rfl (Or.inl ew_292) (hs_h.1 22 (by decide)).1 (hs_h.1 22 (by decide)).2.1 ?_
  refine ea_bipush (pc := 14) dX11_feed_14 (v := 20) rfl ?_
  refine ea_iadd (pc := 16) dX11_feed_16 ?_
  refine ea_sipush (pc := 17) dX11_feed_17 (v := 600) rfl ?_
  refine ea_icmp_le (pc := 20) (tgt := 25) dX11_feed_20 rfl (fun c21 => ?_) (fun c21 => ?_)
  · have H := H.1 c21
    refine ea_aload (pc := 25) dX11_feed_25 5 rfl ?_
    refine ea_iload_n (pc := 27) dX11_feed_27 rfl 0 rfl ?_
    obtain ⟨d1, h2, m3, q4, hs_h2, H⟩ := H
    refine ea_callV (pc := 28) (As := [vI x1]) (st := []) dX11_feed_28 kX5_take m3 q4 rfl (Nat.le_of_ble_eq_true rfl) ew_733 ew_734 ew_735 (ci := 5) rfl (by decide) (hs_h.1 22 (by decide)).1 (hs_h.1 22 (by decide)).2.1 ?_
    refine ea_aload (pc := 31) dX11_feed_31 5 rfl ?_
    refine ea_iload_n (pc := 33) dX11_feed_33 rfl 1 rfl ?_
    obtain ⟨d5, h6, m7, q8, hs_h6, H⟩ := H
    refine ea_callV (pc := 34) (As := [vI x2]) (st := []) dX11_feed_34 kX5_take m7 q8 rfl (Nat.le_of_ble_eq_true rfl) ew_733 ew_734 ew_735 (ci := 5) rfl (by decide) (hs_h2.1 22 (by decide)).1 (hs_h2.1 22 (by decide)).2.1 ?_
    refine ea_aload (pc := 37) dX11_feed_37 5 rfl ?_
    refine ea_iload_n (pc := 39) dX11_feed_39 rfl 2 rfl ?_
    obtain ⟨d9, h10, m11, q12, hs_h10, H⟩ := H
    refine ea_callV (pc := 40) (As := [vI x3]) (st := []) dX11_feed_40 kX5_take m11 q12 rfl (Nat.le_of_ble_eq_true rfl) ew_733 ew_734 ew_735 (ci := 5) rfl (by decide) (hs_h6.1 22 (by decide)).1 (hs_h6.1 22 (by decide)).2.1 ?_
    refine ea_aload (pc := 43) dX11_feed_43 5 rfl ?_
    refine ea_iload (pc := 45) dX11_feed_45 3 rfl ?_
    obtain ⟨d13, h14, m15, q16, hs_h14, H⟩ := H
    refine ea_callV (pc := 47) (As := [vI x4]) (st := []) dX11_feed_47 kX5_take m15 q16 rfl (Nat.le_of_ble_eq_true rfl) ew_733 ew_734 ew_735 (ci := 5) rfl (by decide) (hs_h10.1 22 (by decide)).1 (hs_h10.1 22 (by decide)).2.1 ?_
    refine ea_aload (pc := 50) dX11_feed_50 5 rfl ?_
    refine ea_iload (pc := 52) dX11_feed_52 4 rfl ?_
    obtain ⟨d17, h18, m19, q20, hs_h18, H⟩ := H
    refine ea_callV (pc := 54) (As := [vI x5]) (st := []) dX11_feed_54 kX5_take m19 q20 rfl (Nat.le_of_ble_eq_true rfl) ew_733 ew_734 ew_735 (ci := 5) rfl (by decide) (hs_h14.1 22 (by decide)).1 (hs_h14.1 22 (by decide)).2.1 ?_
    refine ea_aload (pc := 57) dX11_feed_57 5 rfl ?_
    refine ea_getI (pc := 59) dX11_feed_59 ec_5 (k := 0) (Nat.le_of_ble_eq_true rfl) rfl (Or.inl ew_292) (hs_h18.1 22 (by decide)).1 (hs_h18.1 22 (by decide)).2.1 ?_
    obtain ⟨rfl, rfl⟩ := H
    exact ea_ireturn (pc := 62) dX11_feed_62 rfl rfl
  · have H := H.2 c21
    refine ea_iconst (pc := 23) dX11_feed_23 (v := (-1)) rfl ?_
    obtain ⟨rfl, rfl⟩ := H
    exact ea_ireturn (pc := 24) dX11_feed_24 rfl rfl
theorem pX11_act_0 {d b0 : Nat} {h0 hE h : ea_H} {rv : Option ea_V} {x1 : Int32} (hd : 2 ≤ d) (hs_h : ShC b0 h) (H : (okX8_mayBegin b0 (x1 : Int32) h) ∧ (¬ (vX8_mayBegin b0 (x1 : Int32) h) = (0 : Int32) → ∃ (d25 : Nat) (rc29 : Option Nat) (h26 : ea_H), ea_Met mX5_read d25 [vR (some (b0 + 22)), vI x1] h (some (vR rc29)) h26 ∧ d25 + 1 ≤ d ∧ ShC b0 h26 ∧ (okX8_add b0 (rc29 : Option Nat) h26) ∧ ∀ h31, h31 = (wX8_add b0 (rc29 : Option Nat) h26) → rv = some (vI (vX8_add b0 (rc29 : Option Nat) h26)) ∧ hE = h31) ∧ ((vX8_mayBegin b0 (x1 : Int32) h) = (0 : Int32) → ∀ h38, h38 = (wX5_drop b0 h) → rv = some (vI (-1)) ∧ hE = h38)) : ea_W mX11_act d h0 rv hE 0 [(0, vR (some (b0 + 0))), (1, vI x1)] [] h := by
  refine ea_aload_n (pc := 0) dX11_act_0 rfl 0 rfl ?_
  refine ea_getR (pc := 1) dX11_act_1 ec_11 (k := 4) (Nat.le_of_ble_eq_true rfl) rfl (Or.inl ew_441) (hs_h.1 0 (by decide)).1 (hs_h.1 0 (by decide)).2.1 (hs_h.2 0 4 rfl) ?_
  refine ea_iload_n (pc := 4) dX11_act_4 rfl 1 rfl ?_
  obtain ⟨z44, H⟩ := H
  refine ea_callV (pc := 5) (d' := d - 1) (As := [vI x1]) (st := []) dX11_act_5 kX8_mayBegin (sX8_mayBegin (d := d - 1) (by omega) hs_h z44) (by omega) rfl (Nat.le_of_ble_eq_true rfl) ew_745 ew_746 ew_747 (ci := 8) rfl (by decide) (hs_h.1 21 (by decide)).1 (hs_h.1 21 (by decide)).2.1 ?_
  refine ea_if_ne (pc := 8) (tgt := 23) dX11_act_8 rfl (fun c43 => ?_) (fun c43 => ?_)
  · have H := H.1 c43
    refine ea_aload_n (pc := 23) dX11_act_23 rfl 0 rfl ?_
    refine ea_getR (pc := 24) dX11_act_24 ec_11 (k := 4) (Nat.le_of_ble_eq_true rfl) rfl (Or.inl ew_441) (hs_h.1 0 (by decide)).1 (hs_h.1 0 (by decide)).2.1 (hs_h.2 0 4 rfl) ?_
    refine ea_aload_n (pc := 27) dX11_act_27 rfl 0 rfl ?_
    refine ea_getR (pc := 28) dX11_act_28 ec_11 (k := 4) (Nat.le_of_ble_eq_true rfl) rfl (Or.inl ew_441) (hs_h.1 0 (by decide)).1 (hs_h.1 0 (by decide)).2.1 (hs_h.2 0 4 rfl) ?_
    refine ea_getR (pc := 31) dX11_act_31 ec_8 (k := 0) (Nat.le_of_ble_eq_true rfl) rfl (Or.inl ew_334) (hs_h.1 21 (by decide)).1 (hs_h.1 21 (by decide)).2.1 (hs_h.2 21 0 rfl) ?_
    refine ea_iload_n (pc := 34) dX11_act_34 rfl 1 rfl ?_
    obtain ⟨d25, rc29, h26, m27, q28, hs_h26, H⟩ := H
    refine ea_callV (pc := 35) (As := [vI x1]) (st := [vR (some (b0 + 21))]) dX11_act_35 kX5_read m27 q28 rfl (Nat.le_of_ble_eq_true rfl) ew_753 ew_754 ew_755 (ci := 5) rfl (by decide) (hs_h.1 22 (by decide)).1 (hs_h.1 22 (by decide)).2.1 ?_
    obtain ⟨z35, H⟩ := H
    refine ea_callV (pc := 38) (d' := d - 1) (As := [vR rc29]) (st := []) dX11_act_38 kX8_add (sX8_add (d := d - 1) (by omega) hs_h26 z35) (by omega) rfl (Nat.le_of_ble_eq_true rfl) ew_904 ew_905 ew_906 (ci := 8) rfl (by decide) (hs_h26.1 21 (by decide)).1 (hs_h26.1 21 (by decide)).2.1 ?_
    obtain ⟨h31, E36⟩ : ∃ z, z = (wX8_add b0 (rc29 : Option Nat) h26) := ⟨_, rfl⟩
    have H := H h31 E36
    refine ea_nm E36 ?_
    have hs_h31 : ShC b0 h31 := by rw [E36]; exact shX8_add hs_h26
    obtain ⟨rfl, rfl⟩ := H
    exact ea_ireturn (pc := 41) dX11_act_41 rfl rfl
  · have H := H.2 c43
    refine ea_aload_n (pc := 11) dX11_act_11 rfl 0 rfl ?_
    refine ea_getR (pc := 12) dX11_act_12 ec_11 (k := 4) (Nat.le_of_ble_eq_true rfl) rfl (Or.inl ew_441) (hs_h.1 0 (by decide)).1 (hs_h.1 0 (by decide)).2.1 (hs_h.2 0 4 rfl) ?_
    refine ea_getR (pc := 15) dX11_act_15 ec_8 (k := 0) (Nat.le_of_ble_eq_true rfl) rfl (Or.inl ew_334) (hs_h.1 21 (by decide)).1 (hs_h.1 21 (by decide)).2.1 (hs_h.2 21 0 rfl) ?_
    refine ea_callV (pc := 18) (d' := d - 1) (As := []) (st := []) dX11_act_18 kX5_drop (sX5_drop (d := d - 1) (by omega) hs_h) (by omega) rfl (Nat.le_of_ble_eq_true rfl) ew_749 ew_750 ew_751 (ci := 5) rfl (by decide) (hs_h.1 22 (by decide)).1 (hs_h.1 22 (by decide)).2.1 ?_
    obtain ⟨h38, E42⟩ : ∃ z, z = (wX5_drop b0 h) := ⟨_, rfl⟩
    have H := H h38 E42
    refine ea_nm E42 ?_
    have hs_h38 : ShC b0 h38 := by rw [E42]; exact shX5_drop hs_h
    refine ea_iconst (pc := 21) dX11_act_21 (v := (-1)) rfl ?_
    obtain ⟨rfl, rfl⟩ := H
    exact ea_ireturn (pc := 22) dX11_act_22 rfl rfl
theorem pX11_inForce_0 {d b0 : Nat} {h0 hE h : ea_H} {rv : Option ea_V} {x1 : Int32} {x2 : Int32} (hd : 2 ≤ d) (hs_h : ShC b0 h) (H : (x1 < (0 : Int32) → rv = some (vI (-1)) ∧ hE = h) ∧ (¬ x1 < (0 : Int32) → (x1 < (7 : Int32) → ∃ (d1 : Nat) (xc5 : Int32) (h2 : ea_H), ea_Met mX8_numberOn d1 [vR (some (b0 + 21)), vI x1] h (some (vI xc5)) h2 ∧ d1 + 1 ≤ d ∧ ShC b0 h2 ∧ (okX8_actOf b0 (xc5 : Int32) h2) ∧ (∀ a27, (vX8_actOf b0 (xc5 : Int32) h2) = some a27 → (Int32.toInt x2 = 0 → rv = some (vI xc5) ∧ hE = h2) ∧ (Int32.toInt x2 = 1 → a27 < ea_n h2 ∧ ea_c h2 a27 = 0 ∧ rv = some (vI (ea_i h2 a27 1)) ∧ hE = h2) ∧ (Int32.toInt x2 = 2 → a27 < ea_n h2 ∧ ea_c h2 a27 = 0 ∧ rv = some (vI (ea_i h2 a27 2)) ∧ hE = h2) ∧ (Int32.toInt x2 = 3 → a27 < ea_n h2 ∧ ea_c h2 a27 = 0 ∧ rv = some (vI (ea_i h2 a27 3)) ∧ hE = h2) ∧ (Int32.toInt x2 = 4 → a27 < ea_n h2 ∧ ea_c h2 a27 = 0 ∧ rv = some (vI (ea_i h2 a27 4)) ∧ hE = h2) ∧ (Int32.toInt x2 = 5 → a27 < ea_n h2 ∧ ea_c h2 a27 = 0 ∧ rv = some (vI (ea_i h2 a27 5)) ∧ hE = h2) ∧ (Int32.toInt x2 = 6 → a27 < ea_n h2 ∧ ea_c h2 a27 = 0 ∧ rv = some (vI (ea_i h2 a27 6)) ∧ hE = h2) ∧ (Int32.toInt x2 = 7 → a27 < ea_n h2 ∧ ea_c h2 a27 = 0 ∧ rv = some (vI (ea_i h2 a27 7)) ∧ hE = h2) ∧ (Int32.toInt x2 < 0 ∨ 7 < Int32.toInt x2 → rv = some (vI (-1)) ∧ hE = h2)) ∧ ((vX8_actOf b0 (xc5 : Int32) h2) = none → rv = some (vI (-1)) ∧ hE = h2)) ∧ (¬ x1 < (7 : Int32) → rv = some (vI (-1)) ∧ hE = h))) : ea_W mX11_inForce d h0 rv hE 0 [(0, vR (some (b0 + 0))), (1, vI x1), (2, vI x2)] [] h := by
  refine ea_iload_n (pc := 0) dX11_inForce_0 rfl 1 rfl ?_
  refine ea_if_lt (pc := 1) (tgt := 10) dX11_inForce_1 rfl (fun c45 => ?_) (fun c45 => ?_)
  · have H := H.1 c45
    refine ea_iconst (pc := 10) dX11_inForce_10 (v := (-1)) rfl ?_
    obtain ⟨rfl, rfl⟩ := H
    exact ea_ireturn (pc := 11) dX11_inForce_11 rfl rfl
  · have H := H.2 c45
    refine ea_iload_n (pc := 4) dX11_inForce_4 rfl 1 rfl ?_
    refine ea_bipush (pc := 5) dX11_inForce_5 (v := 7) rfl ?_
    refine ea_icmp_lt (pc := 7) (tgt := 12) dX11_inForce_7 rfl (fun c44 => ?_) (fun c44 => ?_)
    · have H := H.1 c44
      refine ea_aload_n (pc := 12) dX11_inForce_12 rfl 0 rfl ?_
      refine ea_getR (pc := 13) dX11_inForce_13 ec_11 (k := 4) (Nat.le_of_ble_eq_true rfl) rfl (Or.inl ew_441) (hs_h.1 0 (by decide)).1 (hs_h.1 0 (by decide)).2.1 (hs_h.2 0 4 rfl) ?_
      refine ea_iload_n (pc := 16) dX11_inForce_16 rfl 1 rfl ?_
      obtain ⟨d1, xc5, h2, m3, q4, hs_h2, H⟩ := H
      refine ea_callV (pc := 17) (As := [vI x1]) (st := []) dX11_inForce_17 kX8_numberOn m3 q4 rfl (Nat.le_of_ble_eq_true rfl) ew_916 ew_917 ew_918 (ci := 8) rfl (by decide) (hs_h.1 21 (by decide)).1 (hs_h.1 21 (by decide)).2.1 ?_
      refine ea_istore_n (pc := 20) (lv' := [(0, vR (some (b0 + 0))), (2, vI x2), (3, vI xc5)]) dX11_inForce_20 rfl (Nat.le_of_ble_eq_true rfl) [1, 3, 0] rfl ?_
      refine ea_aload_n (pc := 21) dX11_inForce_21 rfl 0 rfl ?_
      refine ea_getR (pc := 22) dX11_inForce_22 ec_11 (k := 4) (Nat.le_of_ble_eq_true rfl) rfl (Or.inl ew_441) (hs_h2.1 0 (by decide)).1 (hs_h2.1 0 (by decide)).2.1 (hs_h2.2 0 4 rfl) ?_
      refine ea_iload_n (pc := 25) dX11_inForce_25 rfl 2 rfl ?_
      obtain ⟨z43, H⟩ := H
      refine ea_callV (pc := 26) (d' := d - 1) (As := [vI xc5]) (st := []) dX11_inForce_26 kX8_actOf (sX8_actOf (d := d - 1) (by omega) hs_h2 z43) (by omega) rfl (Nat.le_of_ble_eq_true rfl) ew_920 ew_921 ew_922 (ci := 8) rfl (by decide) (hs_h2.1 21 (by decide)).1 (hs_h2.1 21 (by decide)).2.1 ?_
      refine ea_astore (pc := 29) (lv' := [(2, vI x2), (3, vI xc5), (4, vR (vX8_actOf b0 (xc5 : Int32) h2))]) dX11_inForce_29 (Nat.le_of_ble_eq_true rfl) [2, 3, 0] rfl ?_
      refine ea_aload (pc := 31) dX11_inForce_31 2 rfl ?_
      refine ea_ifnonnull (pc := 33) (tgt := 38) dX11_inForce_33 rfl (fun a27 e28 => ?_) (fun e28 => ?_)
      · have H := H.1 a27 e28
        refine ea_iload_n (pc := 38) dX11_inForce_38 rfl 0 rfl ?_
        by_cases qc1 : Int32.toInt x2 = 0
        · have H := H.1 qc1
          refine ea_tswIn (pc := 39) (tgt := 84) dX11_inForce_39 (by omega) (by omega) (by rw [qc1]; rfl) rfl ?_
          refine ea_iload_n (pc := 84) dX11_inForce_84 rfl 1 rfl ?_
          obtain ⟨rfl, rfl⟩ := H
          exact ea_ireturn (pc := 85) dX11_inForce_85 rfl rfl
        by_cases qc2 : Int32.toInt x2 = 1
        · have H := H.2.1 qc2
          refine ea_tswIn (pc := 39) (tgt := 86) dX11_inForce_39 (by omega) (by omega) (by rw [qc2]; rfl) rfl ?_
          refine ea_aload (pc := 86) dX11_inForce_86 2 rfl ?_
          obtain ⟨f29, g30, H⟩ := H
          refine ea_deref0 e28 ?_
          refine ea_getI (pc := 88) dX11_inForce_88 ec_0 (k := 1) (Nat.le_of_ble_eq_true rfl) rfl (Or.inl ew_795) f29 g30 ?_
          obtain ⟨rfl, rfl⟩ := H
          exact ea_ireturn (pc := 91) dX11_inForce_91 rfl rfl
        by_cases qc3 : Int32.toInt x2 = 2
        · have H := H.2.2.1 qc3
          refine ea_tswIn (pc := 39) (tgt := 92) dX11_inForce_39 (by omega) (by omega) (by rw [qc3]; rfl) rfl ?_
          refine ea_aload (pc := 92) dX11_inForce_92 2 rfl ?_
          obtain ⟨f31, g32, H⟩ := H
          refine ea_deref0 e28 ?_
          refine ea_getI (pc := 94) dX11_inForce_94 ec_0 (k := 2) (Nat.le_of_ble_eq_true rfl) rfl (Or.inl ew_798) f31 g32 ?_
          obtain ⟨rfl, rfl⟩ := H
          exact ea_ireturn (pc := 97) dX11_inForce_97 rfl rfl
        by_cases qc4 : Int32.toInt x2 = 3
        · have H := H.2.2.2.1 qc4
          refine ea_tswIn (pc := 39) (tgt := 98) dX11_inForce_39 (by omega) (by omega) (by rw [qc4]; rfl) rfl ?_
          refine ea_aload (pc := 98) dX11_inForce_98 2 rfl ?_
          obtain ⟨f33, g34, H⟩ := H
          refine ea_deref0 e28 ?_
          refine ea_getI (pc := 100) dX11_inForce_100 ec_0 (k := 3) (Nat.le_of_ble_eq_true rfl) rfl (Or.inl ew_802) f33 g34 ?_
          obtain ⟨rfl, rfl⟩ := H
          exact ea_ireturn (pc := 103) dX11_inForce_103 rfl rfl
        by_cases qc5 : Int32.toInt x2 = 4
        · have H := H.2.2.2.2.1 qc5
          refine ea_tswIn (pc := 39) (tgt := 104) dX11_inForce_39 (by omega) (by omega) (by rw [qc5]; rfl) rfl ?_
          refine ea_aload (pc := 104) dX11_inForce_104 2 rfl ?_
          obtain ⟨f35, g36, H⟩ := H
          refine ea_deref0 e28 ?_
          refine ea_getI (pc := 106) dX11_inForce_106 ec_0 (k := 4) (Nat.le_of_ble_eq_true rfl) rfl (Or.inl ew_805) f35 g36 ?_
          obtain ⟨rfl, rfl⟩ := H
          exact ea_ireturn (pc := 109) dX11_inForce_109 rfl rfl
        by_cases qc6 : Int32.toInt x2 = 5
        · have H := H.2.2.2.2.2.1 qc6
          refine ea_tswIn (pc := 39) (tgt := 110) dX11_inForce_39 (by omega) (by omega) (by rw [qc6]; rfl) rfl ?_
          refine ea_aload (pc := 110) dX11_inForce_110 2 rfl ?_
          obtain ⟨f37, g38, H⟩ := H
          refine ea_deref0 e28 ?_
          refine ea_getI (pc := 112) dX11_inForce_112 ec_0 (k := 5) (Nat.le_of_ble_eq_true rfl) rfl (Or.inl ew_808) f37 g38 ?_
          obtain ⟨rfl, rfl⟩ := H
          exact ea_ireturn (pc := 115) dX11_inForce_115 rfl rfl
        by_cases qc7 : Int32.toInt x2 = 6
        · have H := H.2.2.2.2.2.2.1 qc7
          refine ea_tswIn (pc := 39) (tgt := 116) dX11_inForce_39 (by omega) (by omega) (by rw [qc7]; rfl) rfl ?_
          refine ea_aload (pc := 116) dX11_inForce_116 2 rfl ?_
          obtain ⟨f39, g40, H⟩ := H
          refine ea_deref0 e28 ?_
          refine ea_getI (pc := 118) dX11_inForce_118 ec_0 (k := 6) (Nat.le_of_ble_eq_true rfl) rfl (Or.inl ew_811) f39 g40 ?_
          obtain ⟨rfl, rfl⟩ := H
          exact ea_ireturn (pc := 121) dX11_inForce_121 rfl rfl
        by_cases qc8 : Int32.toInt x2 = 7
        · have H := H.2.2.2.2.2.2.2.1 qc8
          refine ea_tswIn (pc := 39) (tgt := 122) dX11_inForce_39 (by omega) (by omega) (by rw [qc8]; rfl) rfl ?_
          refine ea_aload (pc := 122) dX11_inForce_122 2 rfl ?_
          obtain ⟨f41, g42, H⟩ := H
          refine ea_deref0 e28 ?_
          refine ea_getI (pc := 124) dX11_inForce_124 ec_0 (k := 7) (Nat.le_of_ble_eq_true rfl) rfl (Or.inl ew_815) f41 g42 ?_
          obtain ⟨rfl, rfl⟩ := H
          exact ea_ireturn (pc := 127) dX11_inForce_127 rfl rfl
        have qd : Int32.toInt x2 < 0 ∨ 7 < Int32.toInt x2 := by omega
        have H := H.2.2.2.2.2.2.2.2 qd
        refine ea_tswOut (pc := 39) (tgt := 128) dX11_inForce_39 qd rfl ?_
        refine ea_iconst (pc := 128) dX11_inForce_128 (v := (-1)) rfl ?_
        obtain ⟨rfl, rfl⟩ := H
        exact ea_ireturn (pc := 129) dX11_inForce_129 rfl rfl
      · have H := H.2 e28
        refine ea_iconst (pc := 36) dX11_inForce_36 (v := (-1)) rfl ?_
        obtain ⟨rfl, rfl⟩ := H
        exact ea_ireturn (pc := 37) dX11_inForce_37 rfl rfl
    · have H := H.2 c44
      refine ea_iconst (pc := 10) dX11_inForce_10 (v := (-1)) rfl ?_
      obtain ⟨rfl, rfl⟩ := H
      exact ea_ireturn (pc := 11) dX11_inForce_11 rfl rfl
theorem pX11_post_0 {d b0 : Nat} {h0 hE h : ea_H} {rv : Option ea_V} {x1 : Int32} {x2 : Int32} {x3 : Int32} {x4 : Int32} {x5 : Int32} {x6 : Int32} (hd : 2 ≤ d) (hs_h : ShC b0 h) (H : (x1 < (0 : Int32) → rv = some (vI (-1)) ∧ hE = h) ∧ (¬ x1 < (0 : Int32) → ((4 : Int32) < x1 → rv = some (vI (-1)) ∧ hE = h) ∧ (¬ (4 : Int32) < x1 → ((vX6_has b0 (x2 : Int32) h) = (0 : Int32) → rv = some (vI (-1)) ∧ hE = h) ∧ (¬ (vX6_has b0 (x2 : Int32) h) = (0 : Int32) → ((vX6_has b0 (x3 : Int32) h) = (0 : Int32) → rv = some (vI (-1)) ∧ hE = h) ∧ (¬ (vX6_has b0 (x3 : Int32) h) = (0 : Int32) → (¬ x2 = x3 → (x4 < (1 : Int32) → rv = some (vI (-1)) ∧ hE = h) ∧ (¬ x4 < (1 : Int32) → ((9 : Int32) < x4 → rv = some (vI (-1)) ∧ hE = h) ∧ (¬ (9 : Int32) < x4 → (x5 < (0 : Int32) → rv = some (vI (-1)) ∧ hE = h) ∧ (¬ x5 < (0 : Int32) → ((99 : Int32) < x5 → rv = some (vI (-1)) ∧ hE = h) ∧ (¬ (99 : Int32) < x5 → (x6 < (0 : Int32) → rv = some (vI (-1)) ∧ hE = h) ∧ (¬ x6 < (0 : Int32) → (x6 ≤ (9 : Int32) → ((ea_i h (b0 + 32) 0) < (120 : Int32) → ∀ h531, h531 = ea_new h 4 0 20 → ∃ (d533 : Nat) (h534 : ea_H), ea_Met mX4_init d533 [vR (some (ea_n h)), vI x1, vI x2, vI x3, vI x4, vI x5, vI x6] h531 none h534 ∧ d533 + 1 ≤ d ∧ ShC b0 h534 ∧ (ea_n h) < ea_n h534 ∧ ea_c h534 (ea_n h) = 4 ∧ ∀ h539, h539 = ea_wi h534 (ea_n h) 6 (ea_i h534 (b0 + 0) 11) → (okX6_between b0 (x2 : Int32) (x3 : Int32) h539) ∧ ∃ (d619 : Nat) (xc623 : Int32) (h620 : ea_H), ea_Met mJ9_max_7cf53 d619 [vI (vX6_between b0 (x2 : Int32) (x3 : Int32) h539), vI 0] h539 (some (vI xc623)) h620 ∧ d619 + 1 ≤ d ∧ ShC b0 h620 ∧ (ea_n h) < ea_n h620 ∧ ea_c h620 (ea_n h) = 4 ∧ ∀ h626, h626 = ea_wi h620 (ea_n h) 7 xc623 → (okX6_isCross b0 (x2 : Int32) (x3 : Int32) h626) ∧ (ea_n h) < ea_n h626 ∧ ea_c h626 (ea_n h) = 4 ∧ ((vX6_isCross b0 (x2 : Int32) (x3 : Int32) h626) = 0 ∨ (vX6_isCross b0 (x2 : Int32) (x3 : Int32) h626) = 1) ∧ ∀ h664, h664 = ea_wi h626 (ea_n h) 8 (vX6_isCross b0 (x2 : Int32) (x3 : Int32) h626) → ∃ (d666 : Nat) (xc670 : Int32) (h667 : ea_H), ea_Met mX11_franksAhead d666 [vR (some (b0 + 0)), vR (some (ea_n h))] h664 (some (vI xc670)) h667 ∧ d666 + 1 ≤ d ∧ ShC b0 h667 ∧ (ea_n h) < ea_n h667 ∧ ea_c h667 (ea_n h) = 4 ∧ ∀ h673, h673 = ea_wi h667 (ea_n h) 9 xc670 → vp_in (ea_i h664 (b0 + 32) 0) 120 ∧ (ea_n h) < ea_n h673 ∧ ea_c h673 (ea_n h) = 4 ∧ ∀ h676, h676 = ea_wr h673 (b0 + 31) (Int32.toNatClampNeg (ea_i h664 (b0 + 32) 0)) (some (ea_n h)) → ∃ (d680 : Nat) (h681 : ea_H), ea_Met mX8_price d680 [vR (some (b0 + 21)), vR (some (ea_n h))] h676 none h681 ∧ d680 + 1 ≤ d ∧ ShC b0 h681 ∧ ∃ (d684 : Nat) (h685 : ea_H), ea_Met mX1_begin d684 [vR (some (b0 + 32)), vI (ea_i h681 (b0 + 0) 11), vI x2] h681 none h685 ∧ d684 + 1 ≤ d ∧ ShC b0 h685 ∧ ∀ h688, h688 = ea_wi h685 (b0 + 0) 12 0 → rv = some (vI (ea_i h664 (b0 + 32) 0)) ∧ hE = h688) ∧ (¬ (ea_i h (b0 + 32) 0) < (120 : Int32) → rv = some (vI (-1)) ∧ hE = h)) ∧ (¬ x6 ≤ (9 : Int32) → rv = some (vI (-1)) ∧ hE = h))))))) ∧ (x2 = x3 → rv = some (vI (-1)) ∧ hE = h)))))) : ea_W mX11_post d h0 rv hE 0 [(0, vR (some (b0 + 0))), (1, vI x1), (2, vI x2), (3, vI x3), (4, vI x4), (5, vI x5), (6, vI x6)] [] h := by
  refine ea_iload_n (pc := 0) dX11_post_0 rfl 1 rfl ?_
  refine ea_if_lt (pc := 1) (tgt := 36) dX11_post_1 rfl (fun c706 => ?_) (fun c706 => ?_)
  · have H := H.1 c706
    refine ea_iconst (pc := 36) dX11_post_36 (v := (-1)) rfl ?_
    obtain ⟨rfl, rfl⟩ := H
    exact ea_ireturn (pc := 37) dX11_post_37 rfl rfl
  · have H := H.2 c706
    refine ea_iload_n (pc := 4) dX11_post_4 rfl 1 rfl ?_
    refine ea_iconst (pc := 5) dX11_post_5 (v := 4) rfl ?_
    refine ea_icmp_gt (pc := 6) (tgt := 36) dX11_post_6 rfl (fun c705 => ?_) (fun c705 => ?_)
    · have H := H.1 c705
      refine ea_iconst (pc := 36) dX11_post_36 (v := (-1)) rfl ?_
      obtain ⟨rfl, rfl⟩ := H
      exact ea_ireturn (pc := 37) dX11_post_37 rfl rfl
    · have H := H.2 c705
      refine ea_aload_n (pc := 9) dX11_post_9 rfl 0 rfl ?_
      refine ea_getR (pc := 10) dX11_post_10 ec_11 (k := 0) (Nat.le_of_ble_eq_true rfl) rfl (Or.inl ew_437) (hs_h.1 0 (by decide)).1 (hs_h.1 0 (by decide)).2.1 (hs_h.2 0 0 rfl) ?_
      refine ea_iload_n (pc := 13) dX11_post_13 rfl 2 rfl ?_
      refine ea_callV (pc := 14) (d' := d - 1) (As := [vI x2]) (st := []) dX11_post_14 kX6_has (sX6_has (d := d - 1) (by omega) hs_h) (by omega) rfl (Nat.le_of_ble_eq_true rfl) ew_494 ew_495 ew_496 (ci := 6) rfl (by decide) (hs_h.1 1 (by decide)).1 (hs_h.1 1 (by decide)).2.1 ?_
      refine ea_if_eq (pc := 17) (tgt := 36) dX11_post_17 rfl (fun c703 => ?_) (fun c703 => ?_)
      · have H := H.1 c703
        refine ea_iconst (pc := 36) dX11_post_36 (v := (-1)) rfl ?_
        obtain ⟨rfl, rfl⟩ := H
        exact ea_ireturn (pc := 37) dX11_post_37 rfl rfl
      · have H := H.2 c703
        refine ea_aload_n (pc := 20) dX11_post_20 rfl 0 rfl ?_
        refine ea_getR (pc := 21) dX11_post_21 ec_11 (k := 0) (Nat.le_of_ble_eq_true rfl) rfl (Or.inl ew_437) (hs_h.1 0 (by decide)).1 (hs_h.1 0 (by decide)).2.1 (hs_h.2 0 0 rfl) ?_
        refine ea_iload_n (pc := 24) dX11_post_24 rfl 3 rfl ?_
        refine ea_callV (pc := 25) (d' := d - 1) (As := [vI x3]) (st := []) dX11_post_25 kX6_has (sX6_has (d := d - 1) (by omega) hs_h) (by omega) rfl (Nat.le_of_ble_eq_true rfl) ew_494 ew_495 ew_496 (ci := 6) rfl (by decide) (hs_h.1 1 (by decide)).1 (hs_h.1 1 (by decide)).2.1 ?_
        refine ea_if_eq (pc := 28) (tgt := 36) dX11_post_28 rfl (fun c701 => ?_) (fun c701 => ?_)
        · have H := H.1 c701
          refine ea_iconst (pc := 36) dX11_post_36 (v := (-1)) rfl ?_
          obtain ⟨rfl, rfl⟩ := H
          exact ea_ireturn (pc := 37) dX11_post_37 rfl rfl
        · have H := H.2 c701
          refine ea_iload_n (pc := 31) dX11_post_31 rfl 2 rfl ?_
          refine ea_iload_n (pc := 32) dX11_post_32 rfl 3 rfl ?_
          refine ea_icmp_ne (pc := 33) (tgt := 38) dX11_post_33 rfl (fun c700 => ?_) (fun c700 => ?_)
          · have H := H.1 c700
            refine ea_iload (pc := 38) dX11_post_38 4 rfl ?_
            refine ea_iconst (pc := 40) dX11_post_40 (v := 1) rfl ?_
            refine ea_icmp_lt (pc := 41) (tgt := 75) dX11_post_41 rfl (fun c699 => ?_) (fun c699 => ?_)
            · have H := H.1 c699
              refine ea_iconst (pc := 75) dX11_post_75 (v := (-1)) rfl ?_
              obtain ⟨rfl, rfl⟩ := H
              exact ea_ireturn (pc := 76) dX11_post_76 rfl rfl
            · have H := H.2 c699
              refine ea_iload (pc := 44) dX11_post_44 4 rfl ?_
              refine ea_bipush (pc := 46) dX11_post_46 (v := 9) rfl ?_
              refine ea_icmp_gt (pc := 48) (tgt := 75) dX11_post_48 rfl (fun c698 => ?_) (fun c698 => ?_)
              · have H := H.1 c698
                refine ea_iconst (pc := 75) dX11_post_75 (v := (-1)) rfl ?_
                obtain ⟨rfl, rfl⟩ := H
                exact ea_ireturn (pc := 76) dX11_post_76 rfl rfl
              · have H := H.2 c698
                refine ea_iload (pc := 51) dX11_post_51 5 rfl ?_
                refine ea_if_lt (pc := 53) (tgt := 75) dX11_post_53 rfl (fun c697 => ?_) (fun c697 => ?_)
                · have H := H.1 c697
                  refine ea_iconst (pc := 75) dX11_post_75 (v := (-1)) rfl ?_
                  obtain ⟨rfl, rfl⟩ := H
                  exact ea_ireturn (pc := 76) dX11_post_76 rfl rfl
                · have H := H.2 c697
                  refine ea_iload (pc := 56) dX11_post_56 5 rfl ?_
                  refine ea_bipush (pc := 58) dX11_post_58 (v := 99) rfl ?_
                  refine ea_icmp_gt (pc := 60) (tgt := 75) dX11_post_60 rfl (fun c696 => ?_) (fun c696 => ?_)
                  · have H := H.1 c696
                    refine ea_iconst (pc := 75) dX11_post_75 (v := (-1)) rfl ?_
                    obtain ⟨rfl, rfl⟩ := H
                    exact ea_ireturn (pc := 76) dX11_post_76 rfl rfl
                  · have H := H.2 c696
                    refine ea_iload (pc := 63) dX11_post_63 6 rfl ?_
                    refine ea_if_lt (pc := 65) (tgt := 75) dX11_post_65 rfl (fun c695 => ?_) (fun c695 => ?_)
                    · have H := H.1 c695
                      refine ea_iconst (pc := 75) dX11_post_75 (v := (-1)) rfl ?_
                      obtain ⟨rfl, rfl⟩ := H
                      exact ea_ireturn (pc := 76) dX11_post_76 rfl rfl
                    · have H := H.2 c695
                      refine ea_iload (pc := 68) dX11_post_68 6 rfl ?_
                      refine ea_bipush (pc := 70) dX11_post_70 (v := 9) rfl ?_
                      refine ea_icmp_le (pc := 72) (tgt := 77) dX11_post_72 rfl (fun c694 => ?_) (fun c694 => ?_)
                      · have H := H.1 c694
                        refine ea_aload_n (pc := 77) dX11_post_77 rfl 0 rfl ?_
                        refine ea_getR (pc := 78) dX11_post_78 ec_11 (k := 6) (Nat.le_of_ble_eq_true rfl) rfl (Or.inl ew_443) (hs_h.1 0 (by decide)).1 (hs_h.1 0 (by decide)).2.1 (hs_h.2 0 6 rfl) ?_
                        refine ea_getI (pc := 81) dX11_post_81 ec_1 (k := 0) (Nat.le_of_ble_eq_true rfl) rfl (Or.inl ew_360) (hs_h.1 32 (by decide)).1 (hs_h.1 32 (by decide)).2.1 ?_
                        refine ea_bipush (pc := 84) dX11_post_84 (v := 120) rfl ?_
                        refine ea_icmp_lt (pc := 86) (tgt := 91) dX11_post_86 rfl (fun c693 => ?_) (fun c693 => ?_)
                        · have H := H.1 c693
                          refine ea_newO (pc := 91) dX11_post_91 ec_4 ew_351 ew_928 ew_126 ?_
                          obtain ⟨h531, E532⟩ : ∃ z, z = ea_new h 4 0 20 := ⟨_, rfl⟩
                          have H := H h531 E532
                          refine ea_nm E532 ?_
                          have hs_h531 : ShC b0 h531 := by rw [E532]; exact ShC_new hs_h
                          refine ea_dup (pc := 94) dX11_post_94 rfl ?_
                          refine ea_iload_n (pc := 95) dX11_post_95 rfl 1 rfl ?_
                          refine ea_iload_n (pc := 96) dX11_post_96 rfl 2 rfl ?_
                          refine ea_iload_n (pc := 97) dX11_post_97 rfl 3 rfl ?_
                          refine ea_iload (pc := 98) dX11_post_98 4 rfl ?_
                          refine ea_iload (pc := 100) dX11_post_100 5 rfl ?_
                          refine ea_iload (pc := 102) dX11_post_102 6 rfl ?_
                          obtain ⟨d533, h534, m535, q536, hs_h534, H⟩ := H
                          refine ea_callI (pc := 104) (As := [vI x1, vI x2, vI x3, vI x4, vI x5, vI x6]) (st := [vR (some (ea_n h))]) dX11_post_104 kX4_init m535 q536 rfl (Nat.le_of_ble_eq_true rfl) ew_929 ew_930 rfl rfl ?_
                          refine ea_astore (pc := 107) (lv' := [(0, vR (some (b0 + 0))), (2, vI x2), (3, vI x3), (7, vR (some (ea_n h)))]) dX11_post_107 (Nat.le_of_ble_eq_true rfl) [1, 3, 4, 0] rfl ?_
                          refine ea_aload (pc := 109) dX11_post_109 3 rfl ?_
                          refine ea_aload_n (pc := 111) dX11_post_111 rfl 0 rfl ?_
                          refine ea_getI (pc := 112) dX11_post_112 ec_11 (k := 11) (Nat.le_of_ble_eq_true rfl) rfl (Or.inl ew_448) (hs_h534.1 0 (by decide)).1 (hs_h534.1 0 (by decide)).2.1 ?_
                          obtain ⟨f537, g538, H⟩ := H
                          refine ea_putI (pc := 115) dX11_post_115 ec_4 (k := 6) (Nat.le_of_ble_eq_true rfl) rfl (Or.inl ⟨rfl, Or.inl ew_951⟩) rfl rfl f537 g538 ?_
                          obtain ⟨h539, E540⟩ : ∃ z, z = ea_wi h534 (ea_n h) 6 (ea_i h534 (b0 + 0) 11) := ⟨_, rfl⟩
                          have H := H h539 E540
                          refine ea_nm E540 ?_
                          have hs_h539 : ShC b0 h539 := by rw [E540]; exact ShC_wi hs_h534
                          refine ea_aload (pc := 118) dX11_post_118 3 rfl ?_
                          refine ea_aload_n (pc := 120) dX11_post_120 rfl 0 rfl ?_
                          refine ea_getR (pc := 121) dX11_post_121 ec_11 (k := 0) (Nat.le_of_ble_eq_true rfl) rfl (Or.inl ew_437) (hs_h539.1 0 (by decide)).1 (hs_h539.1 0 (by decide)).2.1 (hs_h539.2 0 0 rfl) ?_
                          refine ea_iload_n (pc := 124) dX11_post_124 rfl 1 rfl ?_
                          refine ea_iload_n (pc := 125) dX11_post_125 rfl 2 rfl ?_
                          obtain ⟨z692, H⟩ := H
                          refine ea_callV (pc := 126) (d' := d - 1) (As := [vI x2, vI x3]) (st := [vR (some (ea_n h))]) dX11_post_126 kX6_between (sX6_between (d := d - 1) (by omega) hs_h539 z692) (by omega) rfl (Nat.le_of_ble_eq_true rfl) ew_506 ew_507 ew_508 (ci := 6) rfl (by decide) (hs_h539.1 1 (by decide)).1 (hs_h539.1 1 (by decide)).2.1 ?_
                          refine ea_iconst (pc := 129) dX11_post_129 (v := 0) rfl ?_
                          obtain ⟨d619, xc623, h620, m621, q622, hs_h620, H⟩ := H
                          refine ea_callS (pc := 130) (As := [vI (vX6_between b0 (x2 : Int32) (x3 : Int32) h539), vI 0]) (st := [vR (some (ea_n h))]) dX11_post_130 kJ9_max_7cf53 m621 q622 rfl (Nat.le_of_ble_eq_true rfl) ew_1021 ew_1022 ?_
                          obtain ⟨f624, g625, H⟩ := H
                          refine ea_putI (pc := 133) dX11_post_133 ec_4 (k := 7) (Nat.le_of_ble_eq_true rfl) rfl (Or.inl ⟨rfl, Or.inl ew_953⟩) rfl rfl f624 g625 ?_
                          obtain ⟨h626, E627⟩ : ∃ z, z = ea_wi h620 (ea_n h) 7 xc623 := ⟨_, rfl⟩
                          have H := H h626 E627
                          refine ea_nm E627 ?_
                          have hs_h626 : ShC b0 h626 := by rw [E627]; exact ShC_wi hs_h620
                          refine ea_aload (pc := 136) dX11_post_136 3 rfl ?_
                          refine ea_aload_n (pc := 138) dX11_post_138 rfl 0 rfl ?_
                          refine ea_getR (pc := 139) dX11_post_139 ec_11 (k := 0) (Nat.le_of_ble_eq_true rfl) rfl (Or.inl ew_437) (hs_h626.1 0 (by decide)).1 (hs_h626.1 0 (by decide)).2.1 (hs_h626.2 0 0 rfl) ?_
                          refine ea_iload_n (pc := 142) dX11_post_142 rfl 1 rfl ?_
                          refine ea_iload_n (pc := 143) dX11_post_143 rfl 2 rfl ?_
                          obtain ⟨z691, H⟩ := H
                          refine ea_callV (pc := 144) (d' := d - 1) (As := [vI x2, vI x3]) (st := [vR (some (ea_n h))]) dX11_post_144 kX6_isCross (sX6_isCross (d := d - 1) (by omega) hs_h626 z691) (by omega) rfl (Nat.le_of_ble_eq_true rfl) ew_1024 ew_1025 ew_1026 (ci := 6) rfl (by decide) (hs_h626.1 1 (by decide)).1 (hs_h626.1 1 (by decide)).2.1 ?_
                          obtain ⟨f662, g663, H⟩ := H
                          obtain ⟨z690, H⟩ := H
                          refine ea_putI (pc := 147) dX11_post_147 ec_4 (k := 8) (Nat.le_of_ble_eq_true rfl) rfl (Or.inl ⟨rfl, Or.inl ew_955⟩) (ea_bn z690) (ea_bf z690) f662 g663 ?_
                          obtain ⟨h664, E665⟩ : ∃ z, z = ea_wi h626 (ea_n h) 8 (vX6_isCross b0 (x2 : Int32) (x3 : Int32) h626) := ⟨_, rfl⟩
                          have H := H h664 E665
                          refine ea_nm E665 ?_
                          have hs_h664 : ShC b0 h664 := by rw [E665]; exact ShC_wi hs_h626
                          refine ea_aload_n (pc := 150) dX11_post_150 rfl 0 rfl ?_
                          refine ea_getR (pc := 151) dX11_post_151 ec_11 (k := 6) (Nat.le_of_ble_eq_true rfl) rfl (Or.inl ew_443) (hs_h664.1 0 (by decide)).1 (hs_h664.1 0 (by decide)).2.1 (hs_h664.2 0 6 rfl) ?_
                          refine ea_getI (pc := 154) dX11_post_154 ec_1 (k := 0) (Nat.le_of_ble_eq_true rfl) rfl (Or.inl ew_360) (hs_h664.1 32 (by decide)).1 (hs_h664.1 32 (by decide)).2.1 ?_
                          refine ea_istore (pc := 157) (lv' := [(0, vR (some (b0 + 0))), (2, vI x2), (7, vR (some (ea_n h))), (8, vI (ea_i h664 (b0 + 32) 0))]) dX11_post_157 (Nat.le_of_ble_eq_true rfl) [1, 2, 4, 0] rfl ?_
                          refine ea_aload (pc := 159) dX11_post_159 2 rfl ?_
                          refine ea_aload_n (pc := 161) dX11_post_161 rfl 0 rfl ?_
                          refine ea_aload (pc := 162) dX11_post_162 2 rfl ?_
                          obtain ⟨d666, xc670, h667, m668, q669, hs_h667, H⟩ := H
                          refine ea_callV (pc := 164) (As := [vR (some (ea_n h))]) (st := [vR (some (ea_n h))]) dX11_post_164 kX11_franksAhead m668 q669 rfl (Nat.le_of_ble_eq_true rfl) ew_1028 ew_1030 ew_33 (ci := 11) rfl (by decide) (hs_h664.1 0 (by decide)).1 (hs_h664.1 0 (by decide)).2.1 ?_
                          obtain ⟨f671, g672, H⟩ := H
                          refine ea_putI (pc := 167) dX11_post_167 ec_4 (k := 9) (Nat.le_of_ble_eq_true rfl) rfl (Or.inl ⟨rfl, Or.inl ew_957⟩) rfl rfl f671 g672 ?_
                          obtain ⟨h673, E674⟩ : ∃ z, z = ea_wi h667 (ea_n h) 9 xc670 := ⟨_, rfl⟩
                          have H := H h673 E674
                          refine ea_nm E674 ?_
                          have hs_h673 : ShC b0 h673 := by rw [E674]; exact ShC_wi hs_h667
                          refine ea_aload_n (pc := 170) dX11_post_170 rfl 0 rfl ?_
                          refine ea_getR (pc := 171) dX11_post_171 ec_11 (k := 5) (Nat.le_of_ble_eq_true rfl) rfl (Or.inl ew_442) (hs_h673.1 0 (by decide)).1 (hs_h673.1 0 (by decide)).2.1 (hs_h673.2 0 5 rfl) ?_
                          refine ea_iload (pc := 174) dX11_post_174 3 rfl ?_
                          refine ea_aload (pc := 176) dX11_post_176 2 rfl ?_
                          obtain ⟨z675, H⟩ := H
                          obtain ⟨f678, g679, H⟩ := H
                          refine ea_aast23 (pc := 178) dX11_post_178 (hs_h673.1 31 (by decide)).1 (hs_h673.1 31 (by decide)).2.1 (ea_vpl (hs_h673.1 31 (by decide)).2.2 z675) f678 g679 ?_
                          obtain ⟨h676, E677⟩ : ∃ z, z = ea_wr h673 (b0 + 31) (Int32.toNatClampNeg (ea_i h664 (b0 + 32) 0)) (some (ea_n h)) := ⟨_, rfl⟩
                          have H := H h676 E677
                          refine ea_nm E677 ?_
                          have hs_h676 : ShC b0 h676 := by rw [E677]; exact ShC_wr (o := 31) rfl hs_h673
                          refine ea_aload_n (pc := 179) dX11_post_179 rfl 0 rfl ?_
                          refine ea_getR (pc := 180) dX11_post_180 ec_11 (k := 4) (Nat.le_of_ble_eq_true rfl) rfl (Or.inl ew_441) (hs_h676.1 0 (by decide)).1 (hs_h676.1 0 (by decide)).2.1 (hs_h676.2 0 4 rfl) ?_
                          refine ea_aload (pc := 183) dX11_post_183 2 rfl ?_
                          obtain ⟨d680, h681, m682, q683, hs_h681, H⟩ := H
                          refine ea_callV (pc := 185) (As := [vR (some (ea_n h))]) (st := []) dX11_post_185 kX8_price m682 q683 rfl (Nat.le_of_ble_eq_true rfl) ew_1036 ew_1037 ew_1038 (ci := 8) rfl (by decide) (hs_h676.1 21 (by decide)).1 (hs_h676.1 21 (by decide)).2.1 ?_
                          refine ea_aload_n (pc := 188) dX11_post_188 rfl 0 rfl ?_
                          refine ea_getR (pc := 189) dX11_post_189 ec_11 (k := 6) (Nat.le_of_ble_eq_true rfl) rfl (Or.inl ew_443) (hs_h681.1 0 (by decide)).1 (hs_h681.1 0 (by decide)).2.1 (hs_h681.2 0 6 rfl) ?_
                          refine ea_aload_n (pc := 192) dX11_post_192 rfl 0 rfl ?_
                          refine ea_getI (pc := 193) dX11_post_193 ec_11 (k := 11) (Nat.le_of_ble_eq_true rfl) rfl (Or.inl ew_448) (hs_h681.1 0 (by decide)).1 (hs_h681.1 0 (by decide)).2.1 ?_
                          refine ea_iload_n (pc := 196) dX11_post_196 rfl 1 rfl ?_
                          obtain ⟨d684, h685, m686, q687, hs_h685, H⟩ := H
                          refine ea_callV (pc := 197) (As := [vI (ea_i h681 (b0 + 0) 11), vI x2]) (st := []) dX11_post_197 kX1_begin m686 q687 rfl (Nat.le_of_ble_eq_true rfl) ew_1068 ew_1069 ew_1070 (ci := 1) rfl (by decide) (hs_h681.1 32 (by decide)).1 (hs_h681.1 32 (by decide)).2.1 ?_
                          refine ea_aload_n (pc := 200) dX11_post_200 rfl 0 rfl ?_
                          refine ea_iconst (pc := 201) dX11_post_201 (v := 0) rfl ?_
                          refine ea_putI (pc := 202) dX11_post_202 ec_11 (k := 12) (Nat.le_of_ble_eq_true rfl) rfl (Or.inl ⟨rfl, Or.inl ew_449⟩) (ea_bn (Or.inl rfl)) (ea_bf (Or.inl rfl)) (hs_h685.1 0 (by decide)).1 (hs_h685.1 0 (by decide)).2.1 ?_
                          obtain ⟨h688, E689⟩ : ∃ z, z = ea_wi h685 (b0 + 0) 12 0 := ⟨_, rfl⟩
                          have H := H h688 E689
                          refine ea_nm E689 ?_
                          have hs_h688 : ShC b0 h688 := by rw [E689]; exact ShC_wi hs_h685
                          refine ea_iload (pc := 205) dX11_post_205 3 rfl ?_
                          obtain ⟨rfl, rfl⟩ := H
                          exact ea_ireturn (pc := 207) dX11_post_207 rfl rfl
                        · have H := H.2 c693
                          refine ea_iconst (pc := 89) dX11_post_89 (v := (-1)) rfl ?_
                          obtain ⟨rfl, rfl⟩ := H
                          exact ea_ireturn (pc := 90) dX11_post_90 rfl rfl
                      · have H := H.2 c694
                        refine ea_iconst (pc := 75) dX11_post_75 (v := (-1)) rfl ?_
                        obtain ⟨rfl, rfl⟩ := H
                        exact ea_ireturn (pc := 76) dX11_post_76 rfl rfl
          · have H := H.2 c700
            refine ea_iconst (pc := 36) dX11_post_36 (v := (-1)) rfl ?_
            obtain ⟨rfl, rfl⟩ := H
            exact ea_ireturn (pc := 37) dX11_post_37 rfl rfl
theorem pX11_way_0 {d b0 : Nat} {h0 hE h : ea_H} {rv : Option ea_V} {x1 : Int32} {x2 : Int32} {x3 : Int32} {x4 : Int32} (hd : 2 ≤ d) (hs_h : ShC b0 h) (H : ((vX6_has b0 (x1 : Int32) h) = (0 : Int32) → rv = some (vI (-1)) ∧ hE = h) ∧ (¬ (vX6_has b0 (x1 : Int32) h) = (0 : Int32) → ((vX6_has b0 (x3 : Int32) h) = (0 : Int32) → rv = some (vI (-1)) ∧ hE = h) ∧ (¬ (vX6_has b0 (x3 : Int32) h) = (0 : Int32) → (x1 = x3 → rv = some (vI (-1)) ∧ hE = h) ∧ (¬ x1 = x3 → (x2 < (ea_i h (b0 + 0) 11) → rv = some (vI (-1)) ∧ hE = h) ∧ (¬ x2 < (ea_i h (b0 + 0) 11) → (x2 ≤ (10079 : Int32) → ∃ (d156 : Nat) (yc160 : Int64) (h157 : ea_H), ea_Met mX10_bestFrom d156 [vR (some (b0 + 13)), vI x1, vI x2, vI x3] h (some (vJ yc160)) h157 ∧ d156 + 1 ≤ d ∧ ShC b0 h157 ∧ (¬ (lg_cmp yc160 9223372036854775807) = (0 : Int32) → (Int32.toInt x4 = 0 → rv = some (vI (vX10_minuteOf (yc160 : Int64) h157)) ∧ hE = h157) ∧ (Int32.toInt x4 = 1 → rv = some (vI (vX10_runsOf (yc160 : Int64) h157)) ∧ hE = h157) ∧ (Int32.toInt x4 = 2 → rv = some (vI (vX10_trainOf (yc160 : Int64) h157)) ∧ hE = h157) ∧ (Int32.toInt x4 = 3 → rv = some (vI (vX10_dayOf (yc160 : Int64) h157)) ∧ hE = h157) ∧ (Int32.toInt x4 = 4 → rv = some (vI (vX10_takenOf (yc160 : Int64) h157)) ∧ hE = h157) ∧ (Int32.toInt x4 = 5 → rv = some (vI (vX10_leftOf (yc160 : Int64) h157)) ∧ hE = h157) ∧ (Int32.toInt x4 < 0 ∨ 5 < Int32.toInt x4 → rv = some (vI (-1)) ∧ hE = h157)) ∧ ((lg_cmp yc160 9223372036854775807) = (0 : Int32) → rv = some (vI (-1)) ∧ hE = h157)) ∧ (¬ x2 ≤ (10079 : Int32) → rv = some (vI (-1)) ∧ hE = h)))))) : ea_W mX11_way d h0 rv hE 0 [(0, vR (some (b0 + 0))), (1, vI x1), (2, vI x2), (3, vI x3), (4, vI x4)] [] h := by
  refine ea_aload_n (pc := 0) dX11_way_0 rfl 0 rfl ?_
  refine ea_getR (pc := 1) dX11_way_1 ec_11 (k := 0) (Nat.le_of_ble_eq_true rfl) rfl (Or.inl ew_437) (hs_h.1 0 (by decide)).1 (hs_h.1 0 (by decide)).2.1 (hs_h.2 0 0 rfl) ?_
  refine ea_iload_n (pc := 4) dX11_way_4 rfl 1 rfl ?_
  refine ea_callV (pc := 5) (d' := d - 1) (As := [vI x1]) (st := []) dX11_way_5 kX6_has (sX6_has (d := d - 1) (by omega) hs_h) (by omega) rfl (Nat.le_of_ble_eq_true rfl) ew_494 ew_495 ew_496 (ci := 6) rfl (by decide) (hs_h.1 1 (by decide)).1 (hs_h.1 1 (by decide)).2.1 ?_
  refine ea_if_eq (pc := 8) (tgt := 42) dX11_way_8 rfl (fun c203 => ?_) (fun c203 => ?_)
  · have H := H.1 c203
    refine ea_iconst (pc := 42) dX11_way_42 (v := (-1)) rfl ?_
    obtain ⟨rfl, rfl⟩ := H
    exact ea_ireturn (pc := 43) dX11_way_43 rfl rfl
  · have H := H.2 c203
    refine ea_aload_n (pc := 11) dX11_way_11 rfl 0 rfl ?_
    refine ea_getR (pc := 12) dX11_way_12 ec_11 (k := 0) (Nat.le_of_ble_eq_true rfl) rfl (Or.inl ew_437) (hs_h.1 0 (by decide)).1 (hs_h.1 0 (by decide)).2.1 (hs_h.2 0 0 rfl) ?_
    refine ea_iload_n (pc := 15) dX11_way_15 rfl 3 rfl ?_
    refine ea_callV (pc := 16) (d' := d - 1) (As := [vI x3]) (st := []) dX11_way_16 kX6_has (sX6_has (d := d - 1) (by omega) hs_h) (by omega) rfl (Nat.le_of_ble_eq_true rfl) ew_494 ew_495 ew_496 (ci := 6) rfl (by decide) (hs_h.1 1 (by decide)).1 (hs_h.1 1 (by decide)).2.1 ?_
    refine ea_if_eq (pc := 19) (tgt := 42) dX11_way_19 rfl (fun c201 => ?_) (fun c201 => ?_)
    · have H := H.1 c201
      refine ea_iconst (pc := 42) dX11_way_42 (v := (-1)) rfl ?_
      obtain ⟨rfl, rfl⟩ := H
      exact ea_ireturn (pc := 43) dX11_way_43 rfl rfl
    · have H := H.2 c201
      refine ea_iload_n (pc := 22) dX11_way_22 rfl 1 rfl ?_
      refine ea_iload_n (pc := 23) dX11_way_23 rfl 3 rfl ?_
      refine ea_icmp_eq (pc := 24) (tgt := 42) dX11_way_24 rfl (fun c200 => ?_) (fun c200 => ?_)
      · have H := H.1 c200
        refine ea_iconst (pc := 42) dX11_way_42 (v := (-1)) rfl ?_
        obtain ⟨rfl, rfl⟩ := H
        exact ea_ireturn (pc := 43) dX11_way_43 rfl rfl
      · have H := H.2 c200
        refine ea_iload_n (pc := 27) dX11_way_27 rfl 2 rfl ?_
        refine ea_aload_n (pc := 28) dX11_way_28 rfl 0 rfl ?_
        refine ea_getI (pc := 29) dX11_way_29 ec_11 (k := 11) (Nat.le_of_ble_eq_true rfl) rfl (Or.inl ew_448) (hs_h.1 0 (by decide)).1 (hs_h.1 0 (by decide)).2.1 ?_
        refine ea_icmp_lt (pc := 32) (tgt := 42) dX11_way_32 rfl (fun c199 => ?_) (fun c199 => ?_)
        · have H := H.1 c199
          refine ea_iconst (pc := 42) dX11_way_42 (v := (-1)) rfl ?_
          obtain ⟨rfl, rfl⟩ := H
          exact ea_ireturn (pc := 43) dX11_way_43 rfl rfl
        · have H := H.2 c199
          refine ea_iload_n (pc := 35) dX11_way_35 rfl 2 rfl ?_
          refine ea_sipush (pc := 36) dX11_way_36 (v := 10079) rfl ?_
          refine ea_icmp_le (pc := 39) (tgt := 44) dX11_way_39 rfl (fun c198 => ?_) (fun c198 => ?_)
          · have H := H.1 c198
            refine ea_aload_n (pc := 44) dX11_way_44 rfl 0 rfl ?_
            refine ea_getR (pc := 45) dX11_way_45 ec_11 (k := 2) (Nat.le_of_ble_eq_true rfl) rfl (Or.inl ew_439) (hs_h.1 0 (by decide)).1 (hs_h.1 0 (by decide)).2.1 (hs_h.2 0 2 rfl) ?_
            refine ea_iload_n (pc := 48) dX11_way_48 rfl 1 rfl ?_
            refine ea_iload_n (pc := 49) dX11_way_49 rfl 2 rfl ?_
            refine ea_iload_n (pc := 50) dX11_way_50 rfl 3 rfl ?_
            obtain ⟨d156, yc160, h157, m158, q159, hs_h157, H⟩ := H
            refine ea_callV (pc := 51) (As := [vI x1, vI x2, vI x3]) (st := []) dX11_way_51 kX10_bestFrom m158 q159 rfl (Nat.le_of_ble_eq_true rfl) ew_1092 ew_1093 ew_1094 (ci := 10) rfl (by decide) (hs_h.1 13 (by decide)).1 (hs_h.1 13 (by decide)).2.1 ?_
            refine ea_lstore (pc := 54) (lv' := [(4, vI x4), (5, vJ yc160)]) dX11_way_54 (Nat.le_of_ble_eq_true rfl) [5, 0] rfl ?_
            refine ea_lload (pc := 56) dX11_way_56 1 rfl ?_
            refine ea_ldc2 (pc := 58) dX11_way_58 ew_1097 ?_
            refine ea_lcmp (pc := 61) dX11_way_61 ?_
            refine ea_if_ne (pc := 62) (tgt := 67) dX11_way_62 rfl (fun c197 => ?_) (fun c197 => ?_)
            · have H := H.1 c197
              refine ea_iload (pc := 67) dX11_way_67 0 rfl ?_
              by_cases qc1 : Int32.toInt x4 = 0
              · have H := H.1 qc1
                refine ea_tswIn (pc := 69) (tgt := 108) dX11_way_69 (by omega) (by omega) (by rw [qc1]; rfl) rfl ?_
                refine ea_lload (pc := 108) dX11_way_108 1 rfl ?_
                refine ea_callS (pc := 110) (d' := d - 1) (As := [vJ yc160]) (st := []) dX11_way_110 kX10_minuteOf (sX10_minuteOf (d := d - 1) (by omega)) (by omega) rfl (Nat.le_of_ble_eq_true rfl) ew_1098 ew_1099 ?_
                obtain ⟨rfl, rfl⟩ := H
                exact ea_ireturn (pc := 113) dX11_way_113 rfl rfl
              by_cases qc2 : Int32.toInt x4 = 1
              · have H := H.2.1 qc2
                refine ea_tswIn (pc := 69) (tgt := 114) dX11_way_69 (by omega) (by omega) (by rw [qc2]; rfl) rfl ?_
                refine ea_lload (pc := 114) dX11_way_114 1 rfl ?_
                refine ea_callS (pc := 116) (d' := d - 1) (As := [vJ yc160]) (st := []) dX11_way_116 kX10_runsOf (sX10_runsOf (d := d - 1) (by omega)) (by omega) rfl (Nat.le_of_ble_eq_true rfl) ew_1101 ew_1102 ?_
                obtain ⟨rfl, rfl⟩ := H
                exact ea_ireturn (pc := 119) dX11_way_119 rfl rfl
              by_cases qc3 : Int32.toInt x4 = 2
              · have H := H.2.2.1 qc3
                refine ea_tswIn (pc := 69) (tgt := 120) dX11_way_69 (by omega) (by omega) (by rw [qc3]; rfl) rfl ?_
                refine ea_lload (pc := 120) dX11_way_120 1 rfl ?_
                refine ea_callS (pc := 122) (d' := d - 1) (As := [vJ yc160]) (st := []) dX11_way_122 kX10_trainOf (sX10_trainOf (d := d - 1) (by omega)) (by omega) rfl (Nat.le_of_ble_eq_true rfl) ew_1104 ew_681 ?_
                obtain ⟨rfl, rfl⟩ := H
                exact ea_ireturn (pc := 125) dX11_way_125 rfl rfl
              by_cases qc4 : Int32.toInt x4 = 3
              · have H := H.2.2.2.1 qc4
                refine ea_tswIn (pc := 69) (tgt := 126) dX11_way_69 (by omega) (by omega) (by rw [qc4]; rfl) rfl ?_
                refine ea_lload (pc := 126) dX11_way_126 1 rfl ?_
                refine ea_callS (pc := 128) (d' := d - 1) (As := [vJ yc160]) (st := []) dX11_way_128 kX10_dayOf (sX10_dayOf (d := d - 1) (by omega)) (by omega) rfl (Nat.le_of_ble_eq_true rfl) ew_1105 ew_684 ?_
                obtain ⟨rfl, rfl⟩ := H
                exact ea_ireturn (pc := 131) dX11_way_131 rfl rfl
              by_cases qc5 : Int32.toInt x4 = 4
              · have H := H.2.2.2.2.1 qc5
                refine ea_tswIn (pc := 69) (tgt := 132) dX11_way_69 (by omega) (by omega) (by rw [qc5]; rfl) rfl ?_
                refine ea_lload (pc := 132) dX11_way_132 1 rfl ?_
                refine ea_callS (pc := 134) (d' := d - 1) (As := [vJ yc160]) (st := []) dX11_way_134 kX10_takenOf (sX10_takenOf (d := d - 1) (by omega)) (by omega) rfl (Nat.le_of_ble_eq_true rfl) ew_1106 ew_687 ?_
                obtain ⟨rfl, rfl⟩ := H
                exact ea_ireturn (pc := 137) dX11_way_137 rfl rfl
              by_cases qc6 : Int32.toInt x4 = 5
              · have H := H.2.2.2.2.2.1 qc6
                refine ea_tswIn (pc := 69) (tgt := 138) dX11_way_69 (by omega) (by omega) (by rw [qc6]; rfl) rfl ?_
                refine ea_lload (pc := 138) dX11_way_138 1 rfl ?_
                refine ea_callS (pc := 140) (d' := d - 1) (As := [vJ yc160]) (st := []) dX11_way_140 kX10_leftOf (sX10_leftOf (d := d - 1) (by omega)) (by omega) rfl (Nat.le_of_ble_eq_true rfl) ew_1107 ew_690 ?_
                obtain ⟨rfl, rfl⟩ := H
                exact ea_ireturn (pc := 143) dX11_way_143 rfl rfl
              have qd : Int32.toInt x4 < 0 ∨ 5 < Int32.toInt x4 := by omega
              have H := H.2.2.2.2.2.2 qd
              refine ea_tswOut (pc := 69) (tgt := 144) dX11_way_69 qd rfl ?_
              refine ea_iconst (pc := 144) dX11_way_144 (v := (-1)) rfl ?_
              obtain ⟨rfl, rfl⟩ := H
              exact ea_ireturn (pc := 145) dX11_way_145 rfl rfl
            · have H := H.2 c197
              refine ea_iconst (pc := 65) dX11_way_65 (v := (-1)) rfl ?_
              obtain ⟨rfl, rfl⟩ := H
              exact ea_ireturn (pc := 66) dX11_way_66 rfl rfl
          · have H := H.2 c198
            refine ea_iconst (pc := 42) dX11_way_42 (v := (-1)) rfl ?_
            obtain ⟨rfl, rfl⟩ := H
            exact ea_ireturn (pc := 43) dX11_way_43 rfl rfl
theorem pX11_where_0 {d b0 : Nat} {h0 hE h : ea_H} {rv : Option ea_V} {x1 : Int32} {x2 : Int32} {x3 : Int32} (hd : 2 ≤ d) (hs_h : ShC b0 h) (H : (okX11_letterOf b0 (x1 : Int32) h) ∧ ((vX11_letterOf b0 (x1 : Int32) h) = none → rv = some (vI (-1)) ∧ hE = h) ∧ (∀ a18, (vX11_letterOf b0 (x1 : Int32) h) = some a18 → (x2 < (0 : Int32) → rv = some (vI (-1)) ∧ hE = h) ∧ (¬ x2 < (0 : Int32) → (x2 ≤ (ea_i h (b0 + 0) 11) → a18 < ea_n h ∧ ea_c h a18 = 4 ∧ ∃ (d20 : Nat) (xc26 : Int32) (h21 : ea_H), ea_Met mX4_rowAt d20 [vR (some a18), vI x2] h (some (vI xc26)) h21 ∧ d20 + 1 ≤ d ∧ ShC b0 h21 ∧ (¬ xc26 = ((-1) : Int32) → False) ∧ (xc26 = ((-1) : Int32) → rv = some (vI (-1)) ∧ hE = h21)) ∧ (¬ x2 ≤ (ea_i h (b0 + 0) 11) → rv = some (vI (-1)) ∧ hE = h)))) : ea_W mX11_where d h0 rv hE 0 [(0, vR (some (b0 + 0))), (1, vI x1), (2, vI x2), (3, vI x3)] [] h := by
  refine ea_aload_n (pc := 0) dX11_where_0 rfl 0 rfl ?_
  refine ea_iload_n (pc := 1) dX11_where_1 rfl 1 rfl ?_
  obtain ⟨z30, H⟩ := H
  refine ea_callV (pc := 2) (d' := d - 1) (As := [vI x1]) (st := []) dX11_where_2 kX11_letterOf (sX11_letterOf (d := d - 1) (by omega) hs_h z30) (by omega) rfl (Nat.le_of_ble_eq_true rfl) ew_1076 ew_1078 ew_37 (ci := 11) rfl (by decide) (hs_h.1 0 (by decide)).1 (hs_h.1 0 (by decide)).2.1 ?_
  refine ea_astore (pc := 5) (lv' := [(0, vR (some (b0 + 0))), (2, vI x2), (3, vI x3), (4, vR (vX11_letterOf b0 (x1 : Int32) h))]) dX11_where_5 (Nat.le_of_ble_eq_true rfl) [1, 3, 4, 0] rfl ?_
  refine ea_aload (pc := 7) dX11_where_7 3 rfl ?_
  refine ea_ifnull (pc := 9) (tgt := 24) dX11_where_9 rfl (fun e19 => ?_) (fun a18 e19 => ?_)
  · have H := H.1 e19
    refine ea_iconst (pc := 24) dX11_where_24 (v := (-1)) rfl ?_
    obtain ⟨rfl, rfl⟩ := H
    exact ea_ireturn (pc := 25) dX11_where_25 rfl rfl
  · have H := H.2 a18 e19
    refine ea_iload_n (pc := 12) dX11_where_12 rfl 1 rfl ?_
    refine ea_if_lt (pc := 13) (tgt := 24) dX11_where_13 rfl (fun c29 => ?_) (fun c29 => ?_)
    · have H := H.1 c29
      refine ea_iconst (pc := 24) dX11_where_24 (v := (-1)) rfl ?_
      obtain ⟨rfl, rfl⟩ := H
      exact ea_ireturn (pc := 25) dX11_where_25 rfl rfl
    · have H := H.2 c29
      refine ea_iload_n (pc := 16) dX11_where_16 rfl 1 rfl ?_
      refine ea_aload_n (pc := 17) dX11_where_17 rfl 0 rfl ?_
      refine ea_getI (pc := 18) dX11_where_18 ec_11 (k := 11) (Nat.le_of_ble_eq_true rfl) rfl (Or.inl ew_448) (hs_h.1 0 (by decide)).1 (hs_h.1 0 (by decide)).2.1 ?_
      refine ea_icmp_le (pc := 21) (tgt := 26) dX11_where_21 rfl (fun c28 => ?_) (fun c28 => ?_)
      · have H := H.1 c28
        refine ea_aload (pc := 26) dX11_where_26 3 rfl ?_
        refine ea_iload_n (pc := 28) dX11_where_28 rfl 1 rfl ?_
        obtain ⟨f24, g25, H⟩ := H
        refine ea_deref1 e19 ?_
        obtain ⟨d20, xc26, h21, m22, q23, hs_h21, H⟩ := H
        refine ea_callV (pc := 29) (As := [vI x2]) (st := []) dX11_where_29 kX4_rowAt m22 q23 rfl (Nat.le_of_ble_eq_true rfl) ew_1128 ew_1129 ew_1130 (ci := 4) rfl (by decide) f24 g25 ?_
        refine ea_istore (pc := 32) (lv' := [(3, vI x3), (4, vR (vX11_letterOf b0 (x1 : Int32) h)), (5, vI xc26)]) dX11_where_32 (Nat.le_of_ble_eq_true rfl) [3, 4, 0] rfl ?_
        refine ea_iload (pc := 34) dX11_where_34 2 rfl ?_
        refine ea_iconst (pc := 36) dX11_where_36 (v := (-1)) rfl ?_
        refine ea_icmp_ne (pc := 37) (tgt := 42) dX11_where_37 rfl (fun c27 => ?_) (fun c27 => ?_)
        · have H := H.1 c27
          refine ea_iload_n (pc := 42) dX11_where_42 rfl 0 rfl ?_
          exact H.elim
        · have H := H.2 c27
          refine ea_iconst (pc := 40) dX11_where_40 (v := (-1)) rfl ?_
          obtain ⟨rfl, rfl⟩ := H
          exact ea_ireturn (pc := 41) dX11_where_41 rfl rfl
      · have H := H.2 c28
        refine ea_iconst (pc := 24) dX11_where_24 (v := (-1)) rfl ?_
        obtain ⟨rfl, rfl⟩ := H
        exact ea_ireturn (pc := 25) dX11_where_25 rfl rfl
theorem pX11_run_0 {d b0 : Nat} {h0 hE h : ea_H} {rv : Option ea_V} {x1 : Int32} {x2 : Int32} {x3 : Int32} (hd : 3 ≤ d) (hs_h : ShC b0 h) (H : (¬ (vX9_hasRun b0 (x1 : Int32) (x2 : Int32) h) = (0 : Int32) → (Int32.toInt x3 = 0 → ∃ (d24 : Nat) (xc28 : Int32) (h25 : ea_H), ea_Met mX1_aboardOf d24 [vR (some (b0 + 32)), vI (((10 : Int32) * x2) + x1), vI 0] h (some (vI xc28)) h25 ∧ d24 + 1 ≤ d ∧ ShC b0 h25 ∧ rv = some (vI xc28) ∧ hE = h25) ∧ (Int32.toInt x3 = 1 → ∃ (d29 : Nat) (xc33 : Int32) (h30 : ea_H), ea_Met mX1_aboardOf d29 [vR (some (b0 + 32)), vI (((10 : Int32) * x2) + x1), vI 1] h (some (vI xc33)) h30 ∧ d29 + 1 ≤ d ∧ ShC b0 h30 ∧ rv = some (vI xc33) ∧ hE = h30) ∧ (Int32.toInt x3 = 2 → ∃ (d34 : Nat) (xc38 : Int32) (h35 : ea_H), ea_Met mX9_goneFrom d34 [vR (some (b0 + 5)), vI x1, vI x2, vI (ea_i h (b0 + 0) 11)] h (some (vI xc38)) h35 ∧ d34 + 1 ≤ d ∧ ShC b0 h35 ∧ rv = some (vI xc38) ∧ hE = h35) ∧ (Int32.toInt x3 = 3 → vp_in (((10 : Int32) * x2) + x1) 70 ∧ rv = some (vI (ea_i h (b0 + 38) (Int32.toNatClampNeg (((10 : Int32) * x2) + x1)))) ∧ hE = h) ∧ (Int32.toInt x3 = 4 → vp_in (((10 : Int32) * x2) + x1) 70 ∧ rv = some (vI (ea_i h (b0 + 11) (Int32.toNatClampNeg (((10 : Int32) * x2) + x1)))) ∧ hE = h) ∧ (Int32.toInt x3 < 0 ∨ 4 < Int32.toInt x3 → rv = some (vI (-1)) ∧ hE = h)) ∧ ((vX9_hasRun b0 (x1 : Int32) (x2 : Int32) h) = (0 : Int32) → rv = some (vI (-1)) ∧ hE = h)) : ea_W mX11_run d h0 rv hE 0 [(0, vR (some (b0 + 0))), (1, vI x1), (2, vI x2), (3, vI x3)] [] h := by
  refine ea_aload_n (pc := 0) dX11_run_0 rfl 0 rfl ?_
  refine ea_getR (pc := 1) dX11_run_1 ec_11 (k := 1) (Nat.le_of_ble_eq_true rfl) rfl (Or.inl ew_438) (hs_h.1 0 (by decide)).1 (hs_h.1 0 (by decide)).2.1 (hs_h.2 0 1 rfl) ?_
  refine ea_iload_n (pc := 4) dX11_run_4 rfl 1 rfl ?_
  refine ea_iload_n (pc := 5) dX11_run_5 rfl 2 rfl ?_
  refine ea_callV (pc := 6) (d' := d - 1) (As := [vI x1, vI x2]) (st := []) dX11_run_6 kX9_hasRun (sX9_hasRun (d := d - 1) (by omega) hs_h) (by omega) rfl (Nat.le_of_ble_eq_true rfl) ew_542 ew_543 ew_544 (ci := 9) rfl (by decide) (hs_h.1 5 (by decide)).1 (hs_h.1 5 (by decide)).2.1 ?_
  refine ea_if_ne (pc := 9) (tgt := 14) dX11_run_9 rfl (fun c41 => ?_) (fun c41 => ?_)
  · have H := H.1 c41
    refine ea_bipush (pc := 14) dX11_run_14 (v := 10) rfl ?_
    refine ea_iload_n (pc := 16) dX11_run_16 rfl 2 rfl ?_
    refine ea_imul (pc := 17) dX11_run_17 ?_
    refine ea_iload_n (pc := 18) dX11_run_18 rfl 1 rfl ?_
    refine ea_iadd (pc := 19) dX11_run_19 ?_
    refine ea_istore (pc := 20) (lv' := [(0, vR (some (b0 + 0))), (1, vI x1), (2, vI x2), (3, vI x3), (4, vI (((10 : Int32) * x2) + x1))]) dX11_run_20 (Nat.le_of_ble_eq_true rfl) [1, 2, 3, 4, 0] rfl ?_
    refine ea_iload_n (pc := 22) dX11_run_22 rfl 3 rfl ?_
    by_cases qc1 : Int32.toInt x3 = 0
    · have H := H.1 qc1
      refine ea_tswIn (pc := 23) (tgt := 56) dX11_run_23 (by omega) (by omega) (by rw [qc1]; rfl) rfl ?_
      refine ea_aload_n (pc := 56) dX11_run_56 rfl 0 rfl ?_
      refine ea_getR (pc := 57) dX11_run_57 ec_11 (k := 6) (Nat.le_of_ble_eq_true rfl) rfl (Or.inl ew_443) (hs_h.1 0 (by decide)).1 (hs_h.1 0 (by decide)).2.1 (hs_h.2 0 6 rfl) ?_
      refine ea_iload (pc := 60) dX11_run_60 4 rfl ?_
      refine ea_iconst (pc := 62) dX11_run_62 (v := 0) rfl ?_
      obtain ⟨d24, xc28, h25, m26, q27, hs_h25, H⟩ := H
      refine ea_callV (pc := 63) (As := [vI (((10 : Int32) * x2) + x1), vI 0]) (st := []) dX11_run_63 kX1_aboardOf m26 q27 rfl (Nat.le_of_ble_eq_true rfl) ew_1149 ew_1150 ew_1151 (ci := 1) rfl (by decide) (hs_h.1 32 (by decide)).1 (hs_h.1 32 (by decide)).2.1 ?_
      obtain ⟨rfl, rfl⟩ := H
      exact ea_ireturn (pc := 66) dX11_run_66 rfl rfl
    by_cases qc2 : Int32.toInt x3 = 1
    · have H := H.2.1 qc2
      refine ea_tswIn (pc := 23) (tgt := 67) dX11_run_23 (by omega) (by omega) (by rw [qc2]; rfl) rfl ?_
      refine ea_aload_n (pc := 67) dX11_run_67 rfl 0 rfl ?_
      refine ea_getR (pc := 68) dX11_run_68 ec_11 (k := 6) (Nat.le_of_ble_eq_true rfl) rfl (Or.inl ew_443) (hs_h.1 0 (by decide)).1 (hs_h.1 0 (by decide)).2.1 (hs_h.2 0 6 rfl) ?_
      refine ea_iload (pc := 71) dX11_run_71 4 rfl ?_
      refine ea_iconst (pc := 73) dX11_run_73 (v := 1) rfl ?_
      obtain ⟨d29, xc33, h30, m31, q32, hs_h30, H⟩ := H
      refine ea_callV (pc := 74) (As := [vI (((10 : Int32) * x2) + x1), vI 1]) (st := []) dX11_run_74 kX1_aboardOf m31 q32 rfl (Nat.le_of_ble_eq_true rfl) ew_1149 ew_1150 ew_1151 (ci := 1) rfl (by decide) (hs_h.1 32 (by decide)).1 (hs_h.1 32 (by decide)).2.1 ?_
      obtain ⟨rfl, rfl⟩ := H
      exact ea_ireturn (pc := 77) dX11_run_77 rfl rfl
    by_cases qc3 : Int32.toInt x3 = 2
    · have H := H.2.2.1 qc3
      refine ea_tswIn (pc := 23) (tgt := 78) dX11_run_23 (by omega) (by omega) (by rw [qc3]; rfl) rfl ?_
      refine ea_aload_n (pc := 78) dX11_run_78 rfl 0 rfl ?_
      refine ea_getR (pc := 79) dX11_run_79 ec_11 (k := 1) (Nat.le_of_ble_eq_true rfl) rfl (Or.inl ew_438) (hs_h.1 0 (by decide)).1 (hs_h.1 0 (by decide)).2.1 (hs_h.2 0 1 rfl) ?_
      refine ea_iload_n (pc := 82) dX11_run_82 rfl 1 rfl ?_
      refine ea_iload_n (pc := 83) dX11_run_83 rfl 2 rfl ?_
      refine ea_aload_n (pc := 84) dX11_run_84 rfl 0 rfl ?_
      refine ea_getI (pc := 85) dX11_run_85 ec_11 (k := 11) (Nat.le_of_ble_eq_true rfl) rfl (Or.inl ew_448) (hs_h.1 0 (by decide)).1 (hs_h.1 0 (by decide)).2.1 ?_
      obtain ⟨d34, xc38, h35, m36, q37, hs_h35, H⟩ := H
      refine ea_callV (pc := 88) (As := [vI x1, vI x2, vI (ea_i h (b0 + 0) 11)]) (st := []) dX11_run_88 kX9_goneFrom m36 q37 rfl (Nat.le_of_ble_eq_true rfl) ew_1153 ew_1154 ew_1155 (ci := 9) rfl (by decide) (hs_h.1 5 (by decide)).1 (hs_h.1 5 (by decide)).2.1 ?_
      obtain ⟨rfl, rfl⟩ := H
      exact ea_ireturn (pc := 91) dX11_run_91 rfl rfl
    by_cases qc4 : Int32.toInt x3 = 3
    · have H := H.2.2.2.1 qc4
      refine ea_tswIn (pc := 23) (tgt := 92) dX11_run_23 (by omega) (by omega) (by rw [qc4]; rfl) rfl ?_
      refine ea_aload_n (pc := 92) dX11_run_92 rfl 0 rfl ?_
      refine ea_getR (pc := 93) dX11_run_93 ec_11 (k := 6) (Nat.le_of_ble_eq_true rfl) rfl (Or.inl ew_443) (hs_h.1 0 (by decide)).1 (hs_h.1 0 (by decide)).2.1 (hs_h.2 0 6 rfl) ?_
      refine ea_getR (pc := 96) dX11_run_96 ec_1 (k := 6) (Nat.le_of_ble_eq_true rfl) rfl (Or.inl ew_372) (hs_h.1 32 (by decide)).1 (hs_h.1 32 (by decide)).2.1 (hs_h.2 32 6 rfl) ?_
      refine ea_iload (pc := 99) dX11_run_99 4 rfl ?_
      obtain ⟨z39, H⟩ := H
      refine ea_iald (pc := 101) dX11_run_101 (hs_h.1 38 (by decide)).1 (hs_h.1 38 (by decide)).2.1 (ea_vpl (hs_h.1 38 (by decide)).2.2 z39) ?_
      obtain ⟨rfl, rfl⟩ := H
      exact ea_ireturn (pc := 102) dX11_run_102 rfl rfl
    by_cases qc5 : Int32.toInt x3 = 4
    · have H := H.2.2.2.2.1 qc5
      refine ea_tswIn (pc := 23) (tgt := 103) dX11_run_23 (by omega) (by omega) (by rw [qc5]; rfl) rfl ?_
      refine ea_aload_n (pc := 103) dX11_run_103 rfl 0 rfl ?_
      refine ea_getR (pc := 104) dX11_run_104 ec_11 (k := 1) (Nat.le_of_ble_eq_true rfl) rfl (Or.inl ew_438) (hs_h.1 0 (by decide)).1 (hs_h.1 0 (by decide)).2.1 (hs_h.2 0 1 rfl) ?_
      refine ea_getR (pc := 107) dX11_run_107 ec_9 (k := 6) (Nat.le_of_ble_eq_true rfl) rfl (Or.inl ew_197) (hs_h.1 5 (by decide)).1 (hs_h.1 5 (by decide)).2.1 (hs_h.2 5 6 rfl) ?_
      refine ea_iload (pc := 110) dX11_run_110 4 rfl ?_
      obtain ⟨z40, H⟩ := H
      refine ea_iald (pc := 112) dX11_run_112 (hs_h.1 11 (by decide)).1 (hs_h.1 11 (by decide)).2.1 (ea_vpl (hs_h.1 11 (by decide)).2.2 z40) ?_
      obtain ⟨rfl, rfl⟩ := H
      exact ea_ireturn (pc := 113) dX11_run_113 rfl rfl
    have qd : Int32.toInt x3 < 0 ∨ 4 < Int32.toInt x3 := by omega
    have H := H.2.2.2.2.2 qd
    refine ea_tswOut (pc := 23) (tgt := 114) dX11_run_23 qd rfl ?_
    refine ea_iconst (pc := 114) dX11_run_114 (v := (-1)) rfl ?_
    obtain ⟨rfl, rfl⟩ := H
    exact ea_ireturn (pc := 115) dX11_run_115 rfl rfl
  · have H := H.2 c41
    refine ea_iconst (pc := 12) dX11_run_12 (v := (-1)) rfl ?_
    obtain ⟨rfl, rfl⟩ := H
    exact ea_ireturn (pc := 13) dX11_run_13 rfl rfl
theorem pX11_account_0 {d b0 : Nat} {h0 hE h : ea_H} {rv : Option ea_V} {x1 : Int32} {x2 : Int32} {x3 : Int32} (hd : 2 ≤ d) (hs_h : ShC b0 h) (H : ((vX6_has b0 (x1 : Int32) h) = (0 : Int32) → rv = some (vI (-1)) ∧ hE = h) ∧ (¬ (vX6_has b0 (x1 : Int32) h) = (0 : Int32) → ((vX6_has b0 (x2 : Int32) h) = (0 : Int32) → rv = some (vI (-1)) ∧ hE = h) ∧ (¬ (vX6_has b0 (x2 : Int32) h) = (0 : Int32) → (¬ x1 = x2 → (Int32.toInt x3 = 0 → ∃ (d87 : Nat) (xc91 : Int32) (h88 : ea_H), ea_Met mX11_owedBetween d87 [vR (some (b0 + 0)), vI x1, vI x2, vI 0] h (some (vI xc91)) h88 ∧ d87 + 1 ≤ d ∧ ShC b0 h88 ∧ rv = some (vI xc91) ∧ hE = h88) ∧ (Int32.toInt x3 = 1 → ∃ (d92 : Nat) (xc96 : Int32) (h93 : ea_H), ea_Met mX11_owedBetween d92 [vR (some (b0 + 0)), vI x1, vI x2, vI 1] h (some (vI xc96)) h93 ∧ d92 + 1 ≤ d ∧ ShC b0 h93 ∧ rv = some (vI xc96) ∧ hE = h93) ∧ (Int32.toInt x3 = 2 → ∃ (d97 : Nat) (xc101 : Int32) (h98 : ea_H), ea_Met mX11_differing d97 [vR (some (b0 + 0)), vI x1, vI x2] h (some (vI xc101)) h98 ∧ d97 + 1 ≤ d ∧ ShC b0 h98 ∧ rv = some (vI xc101) ∧ hE = h98) ∧ (Int32.toInt x3 < 0 ∨ 2 < Int32.toInt x3 → ((10 : Int32) ≤ x3 → ∃ (d102 : Nat) (xc106 : Int32) (h103 : ea_H), ea_Met mX11_differingLetter d102 [vR (some (b0 + 0)), vI x1, vI x2, vI (x3 - (10 : Int32))] h (some (vI xc106)) h103 ∧ d102 + 1 ≤ d ∧ ShC b0 h103 ∧ rv = some (vI xc106) ∧ hE = h103) ∧ (¬ (10 : Int32) ≤ x3 → rv = some (vI (-1)) ∧ hE = h))) ∧ (x1 = x2 → rv = some (vI (-1)) ∧ hE = h)))) : ea_W mX11_account d h0 rv hE 0 [(0, vR (some (b0 + 0))), (1, vI x1), (2, vI x2), (3, vI x3)] [] h := by
  refine ea_aload_n (pc := 0) dX11_account_0 rfl 0 rfl ?_
  refine ea_getR (pc := 1) dX11_account_1 ec_11 (k := 0) (Nat.le_of_ble_eq_true rfl) rfl (Or.inl ew_437) (hs_h.1 0 (by decide)).1 (hs_h.1 0 (by decide)).2.1 (hs_h.2 0 0 rfl) ?_
  refine ea_iload_n (pc := 4) dX11_account_4 rfl 1 rfl ?_
  refine ea_callV (pc := 5) (d' := d - 1) (As := [vI x1]) (st := []) dX11_account_5 kX6_has (sX6_has (d := d - 1) (by omega) hs_h) (by omega) rfl (Nat.le_of_ble_eq_true rfl) ew_494 ew_495 ew_496 (ci := 6) rfl (by decide) (hs_h.1 1 (by decide)).1 (hs_h.1 1 (by decide)).2.1 ?_
  refine ea_if_eq (pc := 8) (tgt := 27) dX11_account_8 rfl (fun c111 => ?_) (fun c111 => ?_)
  · have H := H.1 c111
    refine ea_iconst (pc := 27) dX11_account_27 (v := (-1)) rfl ?_
    obtain ⟨rfl, rfl⟩ := H
    exact ea_ireturn (pc := 28) dX11_account_28 rfl rfl
  · have H := H.2 c111
    refine ea_aload_n (pc := 11) dX11_account_11 rfl 0 rfl ?_
    refine ea_getR (pc := 12) dX11_account_12 ec_11 (k := 0) (Nat.le_of_ble_eq_true rfl) rfl (Or.inl ew_437) (hs_h.1 0 (by decide)).1 (hs_h.1 0 (by decide)).2.1 (hs_h.2 0 0 rfl) ?_
    refine ea_iload_n (pc := 15) dX11_account_15 rfl 2 rfl ?_
    refine ea_callV (pc := 16) (d' := d - 1) (As := [vI x2]) (st := []) dX11_account_16 kX6_has (sX6_has (d := d - 1) (by omega) hs_h) (by omega) rfl (Nat.le_of_ble_eq_true rfl) ew_494 ew_495 ew_496 (ci := 6) rfl (by decide) (hs_h.1 1 (by decide)).1 (hs_h.1 1 (by decide)).2.1 ?_
    refine ea_if_eq (pc := 19) (tgt := 27) dX11_account_19 rfl (fun c109 => ?_) (fun c109 => ?_)
    · have H := H.1 c109
      refine ea_iconst (pc := 27) dX11_account_27 (v := (-1)) rfl ?_
      obtain ⟨rfl, rfl⟩ := H
      exact ea_ireturn (pc := 28) dX11_account_28 rfl rfl
    · have H := H.2 c109
      refine ea_iload_n (pc := 22) dX11_account_22 rfl 1 rfl ?_
      refine ea_iload_n (pc := 23) dX11_account_23 rfl 2 rfl ?_
      refine ea_icmp_ne (pc := 24) (tgt := 29) dX11_account_24 rfl (fun c108 => ?_) (fun c108 => ?_)
      · have H := H.1 c108
        refine ea_iload_n (pc := 29) dX11_account_29 rfl 3 rfl ?_
        by_cases qc1 : Int32.toInt x3 = 0
        · have H := H.1 qc1
          refine ea_tswIn (pc := 30) (tgt := 56) dX11_account_30 (by omega) (by omega) (by rw [qc1]; rfl) rfl ?_
          refine ea_aload_n (pc := 56) dX11_account_56 rfl 0 rfl ?_
          refine ea_iload_n (pc := 57) dX11_account_57 rfl 1 rfl ?_
          refine ea_iload_n (pc := 58) dX11_account_58 rfl 2 rfl ?_
          refine ea_iconst (pc := 59) dX11_account_59 (v := 0) rfl ?_
          obtain ⟨d87, xc91, h88, m89, q90, hs_h88, H⟩ := H
          refine ea_callV (pc := 60) (As := [vI x1, vI x2, vI 0]) (st := []) dX11_account_60 kX11_owedBetween m89 q90 rfl (Nat.le_of_ble_eq_true rfl) ew_1162 ew_1164 ew_38 (ci := 11) rfl (by decide) (hs_h.1 0 (by decide)).1 (hs_h.1 0 (by decide)).2.1 ?_
          obtain ⟨rfl, rfl⟩ := H
          exact ea_ireturn (pc := 63) dX11_account_63 rfl rfl
        by_cases qc2 : Int32.toInt x3 = 1
        · have H := H.2.1 qc2
          refine ea_tswIn (pc := 30) (tgt := 64) dX11_account_30 (by omega) (by omega) (by rw [qc2]; rfl) rfl ?_
          refine ea_aload_n (pc := 64) dX11_account_64 rfl 0 rfl ?_
          refine ea_iload_n (pc := 65) dX11_account_65 rfl 1 rfl ?_
          refine ea_iload_n (pc := 66) dX11_account_66 rfl 2 rfl ?_
          refine ea_iconst (pc := 67) dX11_account_67 (v := 1) rfl ?_
          obtain ⟨d92, xc96, h93, m94, q95, hs_h93, H⟩ := H
          refine ea_callV (pc := 68) (As := [vI x1, vI x2, vI 1]) (st := []) dX11_account_68 kX11_owedBetween m94 q95 rfl (Nat.le_of_ble_eq_true rfl) ew_1162 ew_1164 ew_38 (ci := 11) rfl (by decide) (hs_h.1 0 (by decide)).1 (hs_h.1 0 (by decide)).2.1 ?_
          obtain ⟨rfl, rfl⟩ := H
          exact ea_ireturn (pc := 71) dX11_account_71 rfl rfl
        by_cases qc3 : Int32.toInt x3 = 2
        · have H := H.2.2.1 qc3
          refine ea_tswIn (pc := 30) (tgt := 72) dX11_account_30 (by omega) (by omega) (by rw [qc3]; rfl) rfl ?_
          refine ea_aload_n (pc := 72) dX11_account_72 rfl 0 rfl ?_
          refine ea_iload_n (pc := 73) dX11_account_73 rfl 1 rfl ?_
          refine ea_iload_n (pc := 74) dX11_account_74 rfl 2 rfl ?_
          obtain ⟨d97, xc101, h98, m99, q100, hs_h98, H⟩ := H
          refine ea_callV (pc := 75) (As := [vI x1, vI x2]) (st := []) dX11_account_75 kX11_differing m99 q100 rfl (Nat.le_of_ble_eq_true rfl) ew_1170 ew_1172 ew_40 (ci := 11) rfl (by decide) (hs_h.1 0 (by decide)).1 (hs_h.1 0 (by decide)).2.1 ?_
          obtain ⟨rfl, rfl⟩ := H
          exact ea_ireturn (pc := 78) dX11_account_78 rfl rfl
        have qd : Int32.toInt x3 < 0 ∨ 2 < Int32.toInt x3 := by omega
        have H := H.2.2.2 qd
        refine ea_tswOut (pc := 30) (tgt := 79) dX11_account_30 qd rfl ?_
        refine ea_iload_n (pc := 79) dX11_account_79 rfl 3 rfl ?_
        refine ea_bipush (pc := 80) dX11_account_80 (v := 10) rfl ?_
        refine ea_icmp_ge (pc := 82) (tgt := 89) dX11_account_82 rfl (fun c107 => ?_) (fun c107 => ?_)
        · have H := H.1 c107
          refine ea_aload_n (pc := 89) dX11_account_89 rfl 0 rfl ?_
          refine ea_iload_n (pc := 90) dX11_account_90 rfl 1 rfl ?_
          refine ea_iload_n (pc := 91) dX11_account_91 rfl 2 rfl ?_
          refine ea_iload_n (pc := 92) dX11_account_92 rfl 3 rfl ?_
          refine ea_bipush (pc := 93) dX11_account_93 (v := 10) rfl ?_
          refine ea_isub (pc := 95) dX11_account_95 ?_
          obtain ⟨d102, xc106, h103, m104, q105, hs_h103, H⟩ := H
          refine ea_callV (pc := 96) (As := [vI x1, vI x2, vI (x3 - (10 : Int32))]) (st := []) dX11_account_96 kX11_differingLetter m104 q105 rfl (Nat.le_of_ble_eq_true rfl) ew_1178 ew_1180 ew_42 (ci := 11) rfl (by decide) (hs_h.1 0 (by decide)).1 (hs_h.1 0 (by decide)).2.1 ?_
          obtain ⟨rfl, rfl⟩ := H
          exact ea_ireturn (pc := 99) dX11_account_99 rfl rfl
        · have H := H.2 c107
          refine ea_iconst (pc := 85) dX11_account_85 (v := (-1)) rfl ?_
          refine ea_goto (pc := 86) (tgt := 99) dX11_account_86 rfl ?_
          obtain ⟨rfl, rfl⟩ := H
          exact ea_ireturn (pc := 99) dX11_account_99 rfl rfl
      · have H := H.2 c108
        refine ea_iconst (pc := 27) dX11_account_27 (v := (-1)) rfl ?_
        obtain ⟨rfl, rfl⟩ := H
        exact ea_ireturn (pc := 28) dX11_account_28 rfl rfl
theorem pX11_place_0 {d b0 : Nat} {h0 hE h : ea_H} {rv : Option ea_V} {x1 : Int32} {x2 : Int32} {x3 : Int32} (hd : 2 ≤ d) (hs_h : ShC b0 h) (H : (okX11_letterOf b0 (x1 : Int32) h) ∧ ((vX11_letterOf b0 (x1 : Int32) h) = none → rv = some (vI 0) ∧ hE = h) ∧ (∀ a44, (vX11_letterOf b0 (x1 : Int32) h) = some a44 → vp_in x1 120 ∧ (¬ (ea_i h (b0 + 33) (Int32.toNatClampNeg x1)) = (3 : Int32) → rv = some (vI 0) ∧ hE = h) ∧ ((ea_i h (b0 + 33) (Int32.toNatClampNeg x1)) = (3 : Int32) → ((vX6_has b0 (x2 : Int32) h) = (0 : Int32) → rv = some (vI 0) ∧ hE = h) ∧ (¬ (vX6_has b0 (x2 : Int32) h) = (0 : Int32) → a44 < ea_n h ∧ ea_c h a44 = 4 ∧ (¬ x2 = (ea_i h a44 2) → (x3 < (1 : Int32) → rv = some (vI 0) ∧ hE = h) ∧ (¬ x3 < (1 : Int32) → (x3 ≤ (99 : Int32) → a44 < ea_n h ∧ ea_c h a44 = 4 ∧ ∃ (d68 : Nat) (xc74 : Int32) (h69 : ea_H), ea_Met mX4_tell d68 [vR (some a44), vI x2, vI x3] h (some (vI xc74)) h69 ∧ d68 + 1 ≤ d ∧ ShC b0 h69 ∧ (xc74 = 0 ∨ xc74 = 1) ∧ rv = some (vI xc74) ∧ hE = h69) ∧ (¬ x3 ≤ (99 : Int32) → rv = some (vI 0) ∧ hE = h))) ∧ (x2 = (ea_i h a44 2) → rv = some (vI 0) ∧ hE = h))))) : ea_W mX11_place d h0 rv hE 0 [(0, vR (some (b0 + 0))), (1, vI x1), (2, vI x2), (3, vI x3)] [] h := by
  refine ea_aload_n (pc := 0) dX11_place_0 rfl 0 rfl ?_
  refine ea_iload_n (pc := 1) dX11_place_1 rfl 1 rfl ?_
  obtain ⟨z82, H⟩ := H
  refine ea_callV (pc := 2) (d' := d - 1) (As := [vI x1]) (st := []) dX11_place_2 kX11_letterOf (sX11_letterOf (d := d - 1) (by omega) hs_h z82) (by omega) rfl (Nat.le_of_ble_eq_true rfl) ew_1076 ew_1078 ew_37 (ci := 11) rfl (by decide) (hs_h.1 0 (by decide)).1 (hs_h.1 0 (by decide)).2.1 ?_
  refine ea_astore (pc := 5) (lv' := [(0, vR (some (b0 + 0))), (1, vI x1), (2, vI x2), (3, vI x3), (4, vR (vX11_letterOf b0 (x1 : Int32) h))]) dX11_place_5 (Nat.le_of_ble_eq_true rfl) [1, 2, 3, 4, 0] rfl ?_
  refine ea_aload (pc := 7) dX11_place_7 4 rfl ?_
  refine ea_ifnull (pc := 9) (tgt := 45) dX11_place_9 rfl (fun e45 => ?_) (fun a44 e45 => ?_)
  · have H := H.1 e45
    refine ea_iconst (pc := 45) dX11_place_45 (v := 0) rfl ?_
    obtain ⟨rfl, rfl⟩ := H
    exact ea_ireturn (pc := 46) dX11_place_46 rfl (ea_bn (Or.inl rfl))
  · have H := H.2 a44 e45
    refine ea_aload_n (pc := 12) dX11_place_12 rfl 0 rfl ?_
    refine ea_getR (pc := 13) dX11_place_13 ec_11 (k := 6) (Nat.le_of_ble_eq_true rfl) rfl (Or.inl ew_443) (hs_h.1 0 (by decide)).1 (hs_h.1 0 (by decide)).2.1 (hs_h.2 0 6 rfl) ?_
    refine ea_getR (pc := 16) dX11_place_16 ec_1 (k := 1) (Nat.le_of_ble_eq_true rfl) rfl (Or.inl ew_362) (hs_h.1 32 (by decide)).1 (hs_h.1 32 (by decide)).2.1 (hs_h.2 32 1 rfl) ?_
    refine ea_iload_n (pc := 19) dX11_place_19 rfl 1 rfl ?_
    obtain ⟨z46, H⟩ := H
    refine ea_iald (pc := 20) dX11_place_20 (hs_h.1 33 (by decide)).1 (hs_h.1 33 (by decide)).2.1 (ea_vpl (hs_h.1 33 (by decide)).2.2 z46) ?_
    refine ea_iconst (pc := 21) dX11_place_21 (v := 3) rfl ?_
    refine ea_icmp_ne (pc := 22) (tgt := 45) dX11_place_22 rfl (fun c81 => ?_) (fun c81 => ?_)
    · have H := H.1 c81
      refine ea_iconst (pc := 45) dX11_place_45 (v := 0) rfl ?_
      obtain ⟨rfl, rfl⟩ := H
      exact ea_ireturn (pc := 46) dX11_place_46 rfl (ea_bn (Or.inl rfl))
    · have H := H.2 c81
      refine ea_aload_n (pc := 25) dX11_place_25 rfl 0 rfl ?_
      refine ea_getR (pc := 26) dX11_place_26 ec_11 (k := 0) (Nat.le_of_ble_eq_true rfl) rfl (Or.inl ew_437) (hs_h.1 0 (by decide)).1 (hs_h.1 0 (by decide)).2.1 (hs_h.2 0 0 rfl) ?_
      refine ea_iload_n (pc := 29) dX11_place_29 rfl 2 rfl ?_
      refine ea_callV (pc := 30) (d' := d - 1) (As := [vI x2]) (st := []) dX11_place_30 kX6_has (sX6_has (d := d - 1) (by omega) hs_h) (by omega) rfl (Nat.le_of_ble_eq_true rfl) ew_494 ew_495 ew_496 (ci := 6) rfl (by decide) (hs_h.1 1 (by decide)).1 (hs_h.1 1 (by decide)).2.1 ?_
      refine ea_if_eq (pc := 33) (tgt := 45) dX11_place_33 rfl (fun c79 => ?_) (fun c79 => ?_)
      · have H := H.1 c79
        refine ea_iconst (pc := 45) dX11_place_45 (v := 0) rfl ?_
        obtain ⟨rfl, rfl⟩ := H
        exact ea_ireturn (pc := 46) dX11_place_46 rfl (ea_bn (Or.inl rfl))
      · have H := H.2 c79
        refine ea_iload_n (pc := 36) dX11_place_36 rfl 2 rfl ?_
        refine ea_aload (pc := 37) dX11_place_37 4 rfl ?_
        obtain ⟨f66, g67, H⟩ := H
        refine ea_deref0 e45 ?_
        refine ea_getI (pc := 39) dX11_place_39 ec_4 (k := 2) (Nat.le_of_ble_eq_true rfl) rfl (Or.inl ew_940) f66 g67 ?_
        refine ea_icmp_ne (pc := 42) (tgt := 47) dX11_place_42 rfl (fun c78 => ?_) (fun c78 => ?_)
        · have H := H.1 c78
          refine ea_iload_n (pc := 47) dX11_place_47 rfl 3 rfl ?_
          refine ea_iconst (pc := 48) dX11_place_48 (v := 1) rfl ?_
          refine ea_icmp_lt (pc := 49) (tgt := 58) dX11_place_49 rfl (fun c77 => ?_) (fun c77 => ?_)
          · have H := H.1 c77
            refine ea_iconst (pc := 58) dX11_place_58 (v := 0) rfl ?_
            obtain ⟨rfl, rfl⟩ := H
            exact ea_ireturn (pc := 59) dX11_place_59 rfl (ea_bn (Or.inl rfl))
          · have H := H.2 c77
            refine ea_iload_n (pc := 52) dX11_place_52 rfl 3 rfl ?_
            refine ea_bipush (pc := 53) dX11_place_53 (v := 99) rfl ?_
            refine ea_icmp_le (pc := 55) (tgt := 60) dX11_place_55 rfl (fun c76 => ?_) (fun c76 => ?_)
            · have H := H.1 c76
              refine ea_aload (pc := 60) dX11_place_60 4 rfl ?_
              refine ea_iload_n (pc := 62) dX11_place_62 rfl 2 rfl ?_
              refine ea_iload_n (pc := 63) dX11_place_63 rfl 3 rfl ?_
              obtain ⟨f72, g73, H⟩ := H
              refine ea_deref2 e45 ?_
              obtain ⟨d68, xc74, h69, m70, q71, hs_h69, H⟩ := H
              refine ea_callV (pc := 64) (As := [vI x2, vI x3]) (st := []) dX11_place_64 kX4_tell m70 q71 rfl (Nat.le_of_ble_eq_true rfl) ew_1190 ew_1191 ew_1192 (ci := 4) rfl (by decide) f72 g73 ?_
              obtain ⟨z75, rfl, rfl⟩ := H
              exact ea_ireturn (pc := 67) dX11_place_67 rfl (ea_bn z75)
            · have H := H.2 c76
              refine ea_iconst (pc := 58) dX11_place_58 (v := 0) rfl ?_
              obtain ⟨rfl, rfl⟩ := H
              exact ea_ireturn (pc := 59) dX11_place_59 rfl (ea_bn (Or.inl rfl))
        · have H := H.2 c78
          refine ea_iconst (pc := 45) dX11_place_45 (v := 0) rfl ?_
          obtain ⟨rfl, rfl⟩ := H
          exact ea_ireturn (pc := 46) dX11_place_46 rfl (ea_bn (Or.inl rfl))
theorem pX11_order_0 {d b0 : Nat} {h0 hE h : ea_H} {rv : Option ea_V} {x1 : Int32} {x2 : Int32} (hd : 2 ≤ d) (hs_h : ShC b0 h) (H : (okX11_letterOf b0 (x1 : Int32) h) ∧ (∀ a24, (vX11_letterOf b0 (x1 : Int32) h) = some a24 → (¬ x2 = (0 : Int32) → (x2 = (1 : Int32) → ea_W mX11_order d h0 rv hE 34 [(2, vI x2), (3, vR (vX11_letterOf b0 (x1 : Int32) h))] [] h) ∧ (¬ x2 = (1 : Int32) → (¬ x2 = (2 : Int32) → (x2 < (10 : Int32) → ea_W mX11_order d h0 rv hE 89 [(2, vI x2), (3, vR (vX11_letterOf b0 (x1 : Int32) h))] [] h) ∧ (¬ x2 < (10 : Int32) → a24 < ea_n h ∧ ea_c h a24 = 4 ∧ (((10 : Int32) + (ea_i h a24 18)) ≤ x2 → ea_W mX11_order d h0 rv hE 89 [(2, vI x2), (3, vR (vX11_letterOf b0 (x1 : Int32) h))] [] h) ∧ (¬ ((10 : Int32) + (ea_i h a24 18)) ≤ x2 → a24 < ea_n h ∧ ea_c h a24 = 4 ∧ ∃ (d28 : Nat) (xc34 : Int32) (h29 : ea_H), ea_Met mX4_placeTown d28 [vR (some a24), vI (x2 - (10 : Int32))] h (some (vI xc34)) h29 ∧ d28 + 1 ≤ d ∧ ShC b0 h29 ∧ rv = some (vJ (Int32.toInt64 xc34)) ∧ hE = h29))) ∧ (x2 = (2 : Int32) → ea_W mX11_order d h0 rv hE 34 [(2, vI x2), (3, vR (vX11_letterOf b0 (x1 : Int32) h))] [] h))) ∧ (x2 = (0 : Int32) → a24 < ea_n h ∧ ea_c h a24 = 4 ∧ rv = some (vJ (Int32.toInt64 (ea_i h a24 18))) ∧ hE = h)) ∧ ((vX11_letterOf b0 (x1 : Int32) h) = none → rv = some (vJ (-1)) ∧ hE = h)) : ea_W mX11_order d h0 rv hE 0 [(0, vR (some (b0 + 0))), (1, vI x1), (2, vI x2)] [] h := by
  refine ea_aload_n (pc := 0) dX11_order_0 rfl 0 rfl ?_
  refine ea_iload_n (pc := 1) dX11_order_1 rfl 1 rfl ?_
  obtain ⟨z42, H⟩ := H
  refine ea_callV (pc := 2) (d' := d - 1) (As := [vI x1]) (st := []) dX11_order_2 kX11_letterOf (sX11_letterOf (d := d - 1) (by omega) hs_h z42) (by omega) rfl (Nat.le_of_ble_eq_true rfl) ew_1076 ew_1078 ew_37 (ci := 11) rfl (by decide) (hs_h.1 0 (by decide)).1 (hs_h.1 0 (by decide)).2.1 ?_
  refine ea_astore_n (pc := 5) (lv' := [(2, vI x2), (3, vR (vX11_letterOf b0 (x1 : Int32) h))]) dX11_order_5 rfl (Nat.le_of_ble_eq_true rfl) [3, 0] rfl ?_
  refine ea_aload_n (pc := 6) dX11_order_6 rfl 1 rfl ?_
  refine ea_ifnonnull (pc := 7) (tgt := 14) dX11_order_7 rfl (fun a24 e25 => ?_) (fun e25 => ?_)
  · have H := H.1 a24 e25
    refine ea_iload_n (pc := 14) dX11_order_14 rfl 0 rfl ?_
    refine ea_if_ne (pc := 15) (tgt := 24) dX11_order_15 rfl (fun c41 => ?_) (fun c41 => ?_)
    · have H := H.1 c41
      refine ea_iload_n (pc := 24) dX11_order_24 rfl 0 rfl ?_
      refine ea_iconst (pc := 25) dX11_order_25 (v := 1) rfl ?_
      refine ea_icmp_eq (pc := 26) (tgt := 34) dX11_order_26 rfl (fun c38 => ?_) (fun c38 => ?_)
      · have H := H.1 c38
        exact H
      · have H := H.2 c38
        refine ea_iload_n (pc := 29) dX11_order_29 rfl 0 rfl ?_
        refine ea_iconst (pc := 30) dX11_order_30 (v := 2) rfl ?_
        refine ea_icmp_ne (pc := 31) (tgt := 62) dX11_order_31 rfl (fun c37 => ?_) (fun c37 => ?_)
        · have H := H.1 c37
          refine ea_iload_n (pc := 62) dX11_order_62 rfl 0 rfl ?_
          refine ea_bipush (pc := 63) dX11_order_63 (v := 10) rfl ?_
          refine ea_icmp_lt (pc := 65) (tgt := 89) dX11_order_65 rfl (fun c36 => ?_) (fun c36 => ?_)
          · have H := H.1 c36
            exact H
          · have H := H.2 c36
            refine ea_iload_n (pc := 68) dX11_order_68 rfl 0 rfl ?_
            refine ea_bipush (pc := 69) dX11_order_69 (v := 10) rfl ?_
            refine ea_aload_n (pc := 71) dX11_order_71 rfl 1 rfl ?_
            obtain ⟨f26, g27, H⟩ := H
            refine ea_deref0 e25 ?_
            refine ea_getI (pc := 72) dX11_order_72 ec_4 (k := 18) (Nat.le_of_ble_eq_true rfl) rfl (Or.inl ew_978) f26 g27 ?_
            refine ea_iadd (pc := 75) dX11_order_75 ?_
            refine ea_icmp_ge (pc := 76) (tgt := 89) dX11_order_76 rfl (fun c35 => ?_) (fun c35 => ?_)
            · have H := H.1 c35
              exact H
            · have H := H.2 c35
              refine ea_aload_n (pc := 79) dX11_order_79 rfl 1 rfl ?_
              refine ea_iload_n (pc := 80) dX11_order_80 rfl 0 rfl ?_
              refine ea_bipush (pc := 81) dX11_order_81 (v := 10) rfl ?_
              refine ea_isub (pc := 83) dX11_order_83 ?_
              obtain ⟨f32, g33, H⟩ := H
              refine ea_deref1 e25 ?_
              obtain ⟨d28, xc34, h29, m30, q31, hs_h29, H⟩ := H
              refine ea_callV (pc := 84) (As := [vI (x2 - (10 : Int32))]) (st := []) dX11_order_84 kX4_placeTown m30 q31 rfl (Nat.le_of_ble_eq_true rfl) ew_1217 ew_1199 ew_1200 (ci := 4) rfl (by decide) f32 g33 ?_
              refine ea_i2l (pc := 87) dX11_order_87 ?_
              obtain ⟨rfl, rfl⟩ := H
              exact ea_lreturn (pc := 88) dX11_order_88 rfl
        · have H := H.2 c37
          exact H
    · have H := H.2 c41
      refine ea_aload_n (pc := 18) dX11_order_18 rfl 1 rfl ?_
      obtain ⟨f39, g40, H⟩ := H
      refine ea_deref0 e25 ?_
      refine ea_getI (pc := 19) dX11_order_19 ec_4 (k := 18) (Nat.le_of_ble_eq_true rfl) rfl (Or.inl ew_978) f39 g40 ?_
      refine ea_i2l (pc := 22) dX11_order_22 ?_
      obtain ⟨rfl, rfl⟩ := H
      exact ea_lreturn (pc := 23) dX11_order_23 rfl
  · have H := H.2 e25
    refine ea_ldc2 (pc := 10) dX11_order_10 ew_1206 ?_
    obtain ⟨rfl, rfl⟩ := H
    exact ea_lreturn (pc := 13) dX11_order_13 rfl
theorem pX11_order_34 {d b0 : Nat} {h0 hE h : ea_H} {rv : Option ea_V} {x2 : Int32} {r3 : Option Nat} (hd : 2 ≤ d) (hs_h : ShC b0 h) (H : ∃ a3, r3 = some a3 ∧ a3 < ea_n h ∧ ea_c h a3 = 4 ∧ (¬ (ea_i h a3 18) = (0 : Int32) → (¬ x2 = (1 : Int32) → a3 < ea_n h ∧ ea_c h a3 = 4 ∧ ∃ (d5 : Nat) (yc11 : Int64) (h6 : ea_H), ea_Met mX4_foundByAll d5 [vR (some a3), vI 0] h (some (vJ yc11)) h6 ∧ d5 + 1 ≤ d ∧ ShC b0 h6 ∧ rv = some (vJ yc11) ∧ hE = h6) ∧ (x2 = (1 : Int32) → a3 < ea_n h ∧ ea_c h a3 = 4 ∧ ∃ (d12 : Nat) (yc18 : Int64) (h13 : ea_H), ea_Met mX4_foundByAll d12 [vR (some a3), vI 1] h (some (vJ yc18)) h13 ∧ d12 + 1 ≤ d ∧ ShC b0 h13 ∧ rv = some (vJ yc18) ∧ hE = h13)) ∧ ((ea_i h a3 18) = (0 : Int32) → rv = some (vJ (-1)) ∧ hE = h)) : ea_W mX11_order d h0 rv hE 34 [(2, vI x2), (3, vR r3)] [] h := by
  refine ea_aload_n (pc := 34) dX11_order_34 rfl 1 rfl ?_
  obtain ⟨a3, e4, f1, g2, H⟩ := H
  refine ea_deref0 e4 ?_
  refine ea_getI (pc := 35) dX11_order_35 ec_4 (k := 18) (Nat.le_of_ble_eq_true rfl) rfl (Or.inl ew_978) f1 g2 ?_
  refine ea_if_ne (pc := 38) (tgt := 47) dX11_order_38 rfl (fun c20 => ?_) (fun c20 => ?_)
  · have H := H.1 c20
    refine ea_aload_n (pc := 47) dX11_order_47 rfl 1 rfl ?_
    refine ea_iload_n (pc := 48) dX11_order_48 rfl 0 rfl ?_
    refine ea_iconst (pc := 49) dX11_order_49 (v := 1) rfl ?_
    refine ea_icmp_ne (pc := 50) (tgt := 57) dX11_order_50 rfl (fun c19 => ?_) (fun c19 => ?_)
    · have H := H.1 c19
      refine ea_iconst (pc := 57) dX11_order_57 (v := 0) rfl ?_
      obtain ⟨f9, g10, H⟩ := H
      refine ea_deref1 e4 ?_
      obtain ⟨d5, yc11, h6, m7, q8, hs_h6, H⟩ := H
      refine ea_callV (pc := 58) (As := [vI 0]) (st := []) dX11_order_58 kX4_foundByAll m7 q8 rfl (Nat.le_of_ble_eq_true rfl) ew_1207 ew_1208 ew_1209 (ci := 4) rfl (by decide) f9 g10 ?_
      obtain ⟨rfl, rfl⟩ := H
      exact ea_lreturn (pc := 61) dX11_order_61 rfl
    · have H := H.2 c19
      refine ea_iconst (pc := 53) dX11_order_53 (v := 1) rfl ?_
      refine ea_goto (pc := 54) (tgt := 58) dX11_order_54 rfl ?_
      obtain ⟨f16, g17, H⟩ := H
      refine ea_deref1 e4 ?_
      obtain ⟨d12, yc18, h13, m14, q15, hs_h13, H⟩ := H
      refine ea_callV (pc := 58) (As := [vI 1]) (st := []) dX11_order_58 kX4_foundByAll m14 q15 rfl (Nat.le_of_ble_eq_true rfl) ew_1207 ew_1208 ew_1209 (ci := 4) rfl (by decide) f16 g17 ?_
      obtain ⟨rfl, rfl⟩ := H
      exact ea_lreturn (pc := 61) dX11_order_61 rfl
  · have H := H.2 c20
    refine ea_ldc2 (pc := 41) dX11_order_41 ew_1206 ?_
    refine ea_goto (pc := 44) (tgt := 61) dX11_order_44 rfl ?_
    obtain ⟨rfl, rfl⟩ := H
    exact ea_lreturn (pc := 61) dX11_order_61 rfl
theorem pX11_order_89 {d b0 : Nat} {h0 hE h : ea_H} {rv : Option ea_V} {x2 : Int32} {r3 : Option Nat} (hd : 2 ≤ d) (hs_h : ShC b0 h) (H : (x2 < (20 : Int32) → rv = some (vJ (-1)) ∧ hE = h) ∧ (¬ x2 < (20 : Int32) → ∃ a3, r3 = some a3 ∧ a3 < ea_n h ∧ ea_c h a3 = 4 ∧ (((20 : Int32) + (ea_i h a3 18)) ≤ x2 → rv = some (vJ (-1)) ∧ hE = h) ∧ (¬ ((20 : Int32) + (ea_i h a3 18)) ≤ x2 → a3 < ea_n h ∧ ea_c h a3 = 4 ∧ ∃ (d5 : Nat) (xc11 : Int32) (h6 : ea_H), ea_Met mX4_placeChance d5 [vR (some a3), vI (x2 - (20 : Int32))] h (some (vI xc11)) h6 ∧ d5 + 1 ≤ d ∧ ShC b0 h6 ∧ rv = some (vJ (Int32.toInt64 xc11)) ∧ hE = h6))) : ea_W mX11_order d h0 rv hE 89 [(2, vI x2), (3, vR r3)] [] h := by
  refine ea_iload_n (pc := 89) dX11_order_89 rfl 0 rfl ?_
  refine ea_bipush (pc := 90) dX11_order_90 (v := 20) rfl ?_
  refine ea_icmp_lt (pc := 92) (tgt := 116) dX11_order_92 rfl (fun c13 => ?_) (fun c13 => ?_)
  · have H := H.1 c13
    refine ea_ldc2 (pc := 116) dX11_order_116 ew_1206 ?_
    obtain ⟨rfl, rfl⟩ := H
    exact ea_lreturn (pc := 119) dX11_order_119 rfl
  · have H := H.2 c13
    refine ea_iload_n (pc := 95) dX11_order_95 rfl 0 rfl ?_
    refine ea_bipush (pc := 96) dX11_order_96 (v := 20) rfl ?_
    refine ea_aload_n (pc := 98) dX11_order_98 rfl 1 rfl ?_
    obtain ⟨a3, e4, f1, g2, H⟩ := H
    refine ea_deref0 e4 ?_
    refine ea_getI (pc := 99) dX11_order_99 ec_4 (k := 18) (Nat.le_of_ble_eq_true rfl) rfl (Or.inl ew_978) f1 g2 ?_
    refine ea_iadd (pc := 102) dX11_order_102 ?_
    refine ea_icmp_ge (pc := 103) (tgt := 116) dX11_order_103 rfl (fun c12 => ?_) (fun c12 => ?_)
    · have H := H.1 c12
      refine ea_ldc2 (pc := 116) dX11_order_116 ew_1206 ?_
      obtain ⟨rfl, rfl⟩ := H
      exact ea_lreturn (pc := 119) dX11_order_119 rfl
    · have H := H.2 c12
      refine ea_aload_n (pc := 106) dX11_order_106 rfl 1 rfl ?_
      refine ea_iload_n (pc := 107) dX11_order_107 rfl 0 rfl ?_
      refine ea_bipush (pc := 108) dX11_order_108 (v := 20) rfl ?_
      refine ea_isub (pc := 110) dX11_order_110 ?_
      obtain ⟨f9, g10, H⟩ := H
      refine ea_deref1 e4 ?_
      obtain ⟨d5, xc11, h6, m7, q8, hs_h6, H⟩ := H
      refine ea_callV (pc := 111) (As := [vI (x2 - (20 : Int32))]) (st := []) dX11_order_111 kX4_placeChance m7 q8 rfl (Nat.le_of_ble_eq_true rfl) ew_1218 ew_1213 ew_1214 (ci := 4) rfl (by decide) f9 g10 ?_
      refine ea_i2l (pc := 114) dX11_order_114 ?_
      obtain ⟨rfl, rfl⟩ := H
      exact ea_lreturn (pc := 115) dX11_order_115 rfl
theorem pX11_found_0 {d b0 : Nat} {h0 hE h : ea_H} {rv : Option ea_V} {x1 : Int32} {x2 : Int32} (hd : 2 ≤ d) (hs_h : ShC b0 h) (H : (okX11_letterOf b0 (x1 : Int32) h) ∧ ((vX11_letterOf b0 (x1 : Int32) h) = none → rv = some (vI 0) ∧ hE = h) ∧ (∀ a24, (vX11_letterOf b0 (x1 : Int32) h) = some a24 → vp_in x1 120 ∧ (¬ (ea_i h (b0 + 33) (Int32.toNatClampNeg x1)) = (3 : Int32) → rv = some (vI 0) ∧ hE = h) ∧ ((ea_i h (b0 + 33) (Int32.toNatClampNeg x1)) = (3 : Int32) → a24 < ea_n h ∧ ea_c h a24 = 4 ∧ ∃ (d27 : Nat) (xc33 : Int32) (h28 : ea_H), ea_Met mX4_placeOf d27 [vR (some a24), vI x2] h (some (vI xc33)) h28 ∧ d27 + 1 ≤ d ∧ ShC b0 h28 ∧ (¬ xc33 = ((-1) : Int32) → ∃ (d34 : Nat) (h35 : ea_H), ea_Met mX1_move d34 [vR (some (b0 + 32)), vI x1, vI (ea_i h28 (b0 + 0) 11), vI 5, vI x2] h28 none h35 ∧ d34 + 1 ≤ d ∧ ShC b0 h35 ∧ ∀ h38, h38 = ea_wi h35 (b0 + 0) 12 0 → rv = some (vI 1) ∧ hE = h38) ∧ (xc33 = ((-1) : Int32) → rv = some (vI 0) ∧ hE = h28)))) : ea_W mX11_found d h0 rv hE 0 [(0, vR (some (b0 + 0))), (1, vI x1), (2, vI x2)] [] h := by
  refine ea_aload_n (pc := 0) dX11_found_0 rfl 0 rfl ?_
  refine ea_iload_n (pc := 1) dX11_found_1 rfl 1 rfl ?_
  obtain ⟨z42, H⟩ := H
  refine ea_callV (pc := 2) (d' := d - 1) (As := [vI x1]) (st := []) dX11_found_2 kX11_letterOf (sX11_letterOf (d := d - 1) (by omega) hs_h z42) (by omega) rfl (Nat.le_of_ble_eq_true rfl) ew_1076 ew_1078 ew_37 (ci := 11) rfl (by decide) (hs_h.1 0 (by decide)).1 (hs_h.1 0 (by decide)).2.1 ?_
  refine ea_astore_n (pc := 5) (lv' := [(0, vR (some (b0 + 0))), (1, vI x1), (2, vI x2), (3, vR (vX11_letterOf b0 (x1 : Int32) h))]) dX11_found_5 rfl (Nat.le_of_ble_eq_true rfl) [1, 2, 3, 0] rfl ?_
  refine ea_aload_n (pc := 6) dX11_found_6 rfl 3 rfl ?_
  refine ea_ifnull (pc := 7) (tgt := 32) dX11_found_7 rfl (fun e25 => ?_) (fun a24 e25 => ?_)
  · have H := H.1 e25
    refine ea_iconst (pc := 32) dX11_found_32 (v := 0) rfl ?_
    obtain ⟨rfl, rfl⟩ := H
    exact ea_ireturn (pc := 33) dX11_found_33 rfl (ea_bn (Or.inl rfl))
  · have H := H.2 a24 e25
    refine ea_aload_n (pc := 10) dX11_found_10 rfl 0 rfl ?_
    refine ea_getR (pc := 11) dX11_found_11 ec_11 (k := 6) (Nat.le_of_ble_eq_true rfl) rfl (Or.inl ew_443) (hs_h.1 0 (by decide)).1 (hs_h.1 0 (by decide)).2.1 (hs_h.2 0 6 rfl) ?_
    refine ea_getR (pc := 14) dX11_found_14 ec_1 (k := 1) (Nat.le_of_ble_eq_true rfl) rfl (Or.inl ew_362) (hs_h.1 32 (by decide)).1 (hs_h.1 32 (by decide)).2.1 (hs_h.2 32 1 rfl) ?_
    refine ea_iload_n (pc := 17) dX11_found_17 rfl 1 rfl ?_
    obtain ⟨z26, H⟩ := H
    refine ea_iald (pc := 18) dX11_found_18 (hs_h.1 33 (by decide)).1 (hs_h.1 33 (by decide)).2.1 (ea_vpl (hs_h.1 33 (by decide)).2.2 z26) ?_
    refine ea_iconst (pc := 19) dX11_found_19 (v := 3) rfl ?_
    refine ea_icmp_ne (pc := 20) (tgt := 32) dX11_found_20 rfl (fun c41 => ?_) (fun c41 => ?_)
    · have H := H.1 c41
      refine ea_iconst (pc := 32) dX11_found_32 (v := 0) rfl ?_
      obtain ⟨rfl, rfl⟩ := H
      exact ea_ireturn (pc := 33) dX11_found_33 rfl (ea_bn (Or.inl rfl))
    · have H := H.2 c41
      refine ea_aload_n (pc := 23) dX11_found_23 rfl 3 rfl ?_
      refine ea_iload_n (pc := 24) dX11_found_24 rfl 2 rfl ?_
      obtain ⟨f31, g32, H⟩ := H
      refine ea_deref1 e25 ?_
      obtain ⟨d27, xc33, h28, m29, q30, hs_h28, H⟩ := H
      refine ea_callV (pc := 25) (As := [vI x2]) (st := []) dX11_found_25 kX4_placeOf m29 q30 rfl (Nat.le_of_ble_eq_true rfl) ew_1223 ew_1195 ew_1196 (ci := 4) rfl (by decide) f31 g32 ?_
      refine ea_iconst (pc := 28) dX11_found_28 (v := (-1)) rfl ?_
      refine ea_icmp_ne (pc := 29) (tgt := 34) dX11_found_29 rfl (fun c40 => ?_) (fun c40 => ?_)
      · have H := H.1 c40
        refine ea_aload_n (pc := 34) dX11_found_34 rfl 0 rfl ?_
        refine ea_getR (pc := 35) dX11_found_35 ec_11 (k := 6) (Nat.le_of_ble_eq_true rfl) rfl (Or.inl ew_443) (hs_h28.1 0 (by decide)).1 (hs_h28.1 0 (by decide)).2.1 (hs_h28.2 0 6 rfl) ?_
        refine ea_iload_n (pc := 38) dX11_found_38 rfl 1 rfl ?_
        refine ea_aload_n (pc := 39) dX11_found_39 rfl 0 rfl ?_
        refine ea_getI (pc := 40) dX11_found_40 ec_11 (k := 11) (Nat.le_of_ble_eq_true rfl) rfl (Or.inl ew_448) (hs_h28.1 0 (by decide)).1 (hs_h28.1 0 (by decide)).2.1 ?_
        refine ea_iconst (pc := 43) dX11_found_43 (v := 5) rfl ?_
        refine ea_iload_n (pc := 44) dX11_found_44 rfl 2 rfl ?_
        obtain ⟨d34, h35, m36, q37, hs_h35, H⟩ := H
        refine ea_callV (pc := 45) (As := [vI x1, vI (ea_i h28 (b0 + 0) 11), vI 5, vI x2]) (st := []) dX11_found_45 kX1_move m36 q37 rfl (Nat.le_of_ble_eq_true rfl) ew_1224 ew_646 ew_647 (ci := 1) rfl (by decide) (hs_h28.1 32 (by decide)).1 (hs_h28.1 32 (by decide)).2.1 ?_
        refine ea_aload_n (pc := 48) dX11_found_48 rfl 0 rfl ?_
        refine ea_iconst (pc := 49) dX11_found_49 (v := 0) rfl ?_
        refine ea_putI (pc := 50) dX11_found_50 ec_11 (k := 12) (Nat.le_of_ble_eq_true rfl) rfl (Or.inl ⟨rfl, Or.inl ew_449⟩) (ea_bn (Or.inl rfl)) (ea_bf (Or.inl rfl)) (hs_h35.1 0 (by decide)).1 (hs_h35.1 0 (by decide)).2.1 ?_
        obtain ⟨h38, E39⟩ : ∃ z, z = ea_wi h35 (b0 + 0) 12 0 := ⟨_, rfl⟩
        have H := H h38 E39
        refine ea_nm E39 ?_
        have hs_h38 : ShC b0 h38 := by rw [E39]; exact ShC_wi hs_h35
        refine ea_iconst (pc := 53) dX11_found_53 (v := 1) rfl ?_
        obtain ⟨rfl, rfl⟩ := H
        exact ea_ireturn (pc := 54) dX11_found_54 rfl (ea_bn (Or.inr rfl))
      · have H := H.2 c40
        refine ea_iconst (pc := 32) dX11_found_32 (v := 0) rfl ?_
        obtain ⟨rfl, rfl⟩ := H
        exact ea_ireturn (pc := 33) dX11_found_33 rfl (ea_bn (Or.inl rfl))
theorem pX11_rob_0 {d b0 : Nat} {h0 hE h : ea_H} {rv : Option ea_V} {x1 : Int32} {x2 : Int32} (hd : 3 ≤ d) (hs_h : ShC b0 h) (H : ((vX9_hasRun b0 (x1 : Int32) (x2 : Int32) h) = (0 : Int32) → rv = some (vI (-1)) ∧ hE = h) ∧ (¬ (vX9_hasRun b0 (x1 : Int32) (x2 : Int32) h) = (0 : Int32) → ((20 : Int32) ≤ (ea_i h (b0 + 0) 10) → rv = some (vI (-1)) ∧ hE = h) ∧ (¬ (20 : Int32) ≤ (ea_i h (b0 + 0) 10) → ∃ (d25 : Nat) (xc29 : Int32) (h26 : ea_H), ea_Met mX11_isUnderWay d25 [vR (some (b0 + 0)), vI x1, vI x2] h (some (vI xc29)) h26 ∧ d25 + 1 ≤ d ∧ ShC b0 h26 ∧ (¬ xc29 = (0 : Int32) → ∀ h30, h30 = ea_new h26 7 0 5 → ∃ (d32 : Nat) (xc36 : Int32) (h33 : ea_H), ea_Met mX1_aboardOf d32 [vR (some (b0 + 32)), vI (((10 : Int32) * x2) + x1), vI 1] h30 (some (vI xc36)) h33 ∧ d32 + 1 ≤ d ∧ ShC b0 h33 ∧ ∃ (d37 : Nat) (h38 : ea_H), ea_Met mX7_init d37 [vR (some (ea_n h26)), vI (((10 : Int32) * x2) + x1), vI (ea_i h30 (b0 + 0) 11), vI xc36] h33 none h38 ∧ d37 + 1 ≤ d ∧ ShC b0 h38 ∧ ea_W mX11_rob d h0 rv hE 65 [(0, vR (some (b0 + 0))), (3, vI (((10 : Int32) * x2) + x1)), (4, vR (some (ea_n h26))), (5, vI 0)] [] h38) ∧ (xc29 = (0 : Int32) → rv = some (vI (-1)) ∧ hE = h26)))) : ea_W mX11_rob d h0 rv hE 0 [(0, vR (some (b0 + 0))), (1, vI x1), (2, vI x2)] [] h := by
  refine ea_aload_n (pc := 0) dX11_rob_0 rfl 0 rfl ?_
  refine ea_getR (pc := 1) dX11_rob_1 ec_11 (k := 1) (Nat.le_of_ble_eq_true rfl) rfl (Or.inl ew_438) (hs_h.1 0 (by decide)).1 (hs_h.1 0 (by decide)).2.1 (hs_h.2 0 1 rfl) ?_
  refine ea_iload_n (pc := 4) dX11_rob_4 rfl 1 rfl ?_
  refine ea_iload_n (pc := 5) dX11_rob_5 rfl 2 rfl ?_
  refine ea_callV (pc := 6) (d' := d - 1) (As := [vI x1, vI x2]) (st := []) dX11_rob_6 kX9_hasRun (sX9_hasRun (d := d - 1) (by omega) hs_h) (by omega) rfl (Nat.le_of_ble_eq_true rfl) ew_542 ew_543 ew_544 (ci := 9) rfl (by decide) (hs_h.1 5 (by decide)).1 (hs_h.1 5 (by decide)).2.1 ?_
  refine ea_if_eq (pc := 9) (tgt := 30) dX11_rob_9 rfl (fun c43 => ?_) (fun c43 => ?_)
  · have H := H.1 c43
    refine ea_iconst (pc := 30) dX11_rob_30 (v := (-1)) rfl ?_
    obtain ⟨rfl, rfl⟩ := H
    exact ea_ireturn (pc := 31) dX11_rob_31 rfl rfl
  · have H := H.2 c43
    refine ea_aload_n (pc := 12) dX11_rob_12 rfl 0 rfl ?_
    refine ea_getI (pc := 13) dX11_rob_13 ec_11 (k := 10) (Nat.le_of_ble_eq_true rfl) rfl (Or.inl ew_447) (hs_h.1 0 (by decide)).1 (hs_h.1 0 (by decide)).2.1 ?_
    refine ea_bipush (pc := 16) dX11_rob_16 (v := 20) rfl ?_
    refine ea_icmp_ge (pc := 18) (tgt := 30) dX11_rob_18 rfl (fun c42 => ?_) (fun c42 => ?_)
    · have H := H.1 c42
      refine ea_iconst (pc := 30) dX11_rob_30 (v := (-1)) rfl ?_
      obtain ⟨rfl, rfl⟩ := H
      exact ea_ireturn (pc := 31) dX11_rob_31 rfl rfl
    · have H := H.2 c42
      refine ea_aload_n (pc := 21) dX11_rob_21 rfl 0 rfl ?_
      refine ea_iload_n (pc := 22) dX11_rob_22 rfl 1 rfl ?_
      refine ea_iload_n (pc := 23) dX11_rob_23 rfl 2 rfl ?_
      obtain ⟨d25, xc29, h26, m27, q28, hs_h26, H⟩ := H
      refine ea_callV (pc := 24) (As := [vI x1, vI x2]) (st := []) dX11_rob_24 kX11_isUnderWay m27 q28 rfl (Nat.le_of_ble_eq_true rfl) ew_1229 ew_1231 ew_43 (ci := 11) rfl (by decide) (hs_h.1 0 (by decide)).1 (hs_h.1 0 (by decide)).2.1 ?_
      refine ea_if_ne (pc := 27) (tgt := 32) dX11_rob_27 rfl (fun c41 => ?_) (fun c41 => ?_)
      · have H := H.1 c41
        refine ea_bipush (pc := 32) dX11_rob_32 (v := 10) rfl ?_
        refine ea_iload_n (pc := 34) dX11_rob_34 rfl 2 rfl ?_
        refine ea_imul (pc := 35) dX11_rob_35 ?_
        refine ea_iload_n (pc := 36) dX11_rob_36 rfl 1 rfl ?_
        refine ea_iadd (pc := 37) dX11_rob_37 ?_
        refine ea_istore_n (pc := 38) (lv' := [(0, vR (some (b0 + 0))), (3, vI (((10 : Int32) * x2) + x1))]) dX11_rob_38 rfl (Nat.le_of_ble_eq_true rfl) [1, 0] rfl ?_
        refine ea_newO (pc := 39) dX11_rob_39 ec_7 ew_417 ew_1233 ew_127 ?_
        obtain ⟨h30, E31⟩ : ∃ z, z = ea_new h26 7 0 5 := ⟨_, rfl⟩
        have H := H h30 E31
        refine ea_nm E31 ?_
        have hs_h30 : ShC b0 h30 := by rw [E31]; exact ShC_new hs_h26
        refine ea_dup (pc := 42) dX11_rob_42 rfl ?_
        refine ea_iload_n (pc := 43) dX11_rob_43 rfl 1 rfl ?_
        refine ea_aload_n (pc := 44) dX11_rob_44 rfl 0 rfl ?_
        refine ea_getI (pc := 45) dX11_rob_45 ec_11 (k := 11) (Nat.le_of_ble_eq_true rfl) rfl (Or.inl ew_448) (hs_h30.1 0 (by decide)).1 (hs_h30.1 0 (by decide)).2.1 ?_
        refine ea_aload_n (pc := 48) dX11_rob_48 rfl 0 rfl ?_
        refine ea_getR (pc := 49) dX11_rob_49 ec_11 (k := 6) (Nat.le_of_ble_eq_true rfl) rfl (Or.inl ew_443) (hs_h30.1 0 (by decide)).1 (hs_h30.1 0 (by decide)).2.1 (hs_h30.2 0 6 rfl) ?_
        refine ea_iload_n (pc := 52) dX11_rob_52 rfl 1 rfl ?_
        refine ea_iconst (pc := 53) dX11_rob_53 (v := 1) rfl ?_
        obtain ⟨d32, xc36, h33, m34, q35, hs_h33, H⟩ := H
        refine ea_callV (pc := 54) (As := [vI (((10 : Int32) * x2) + x1), vI 1]) (st := [vI (ea_i h30 (b0 + 0) 11), vI (((10 : Int32) * x2) + x1), vR (some (ea_n h26)), vR (some (ea_n h26))]) dX11_rob_54 kX1_aboardOf m34 q35 rfl (Nat.le_of_ble_eq_true rfl) ew_1149 ew_1150 ew_1151 (ci := 1) rfl (by decide) (hs_h30.1 32 (by decide)).1 (hs_h30.1 32 (by decide)).2.1 ?_
        obtain ⟨d37, h38, m39, q40, hs_h38, H⟩ := H
        refine ea_callI (pc := 57) (As := [vI (((10 : Int32) * x2) + x1), vI (ea_i h30 (b0 + 0) 11), vI xc36]) (st := [vR (some (ea_n h26))]) dX11_rob_57 kX7_init m39 q40 rfl (Nat.le_of_ble_eq_true rfl) ew_1234 ew_1235 rfl rfl ?_
        refine ea_astore (pc := 60) (lv' := [(0, vR (some (b0 + 0))), (3, vI (((10 : Int32) * x2) + x1)), (4, vR (some (ea_n h26)))]) dX11_rob_60 (Nat.le_of_ble_eq_true rfl) [1, 2, 0] rfl ?_
        refine ea_iconst (pc := 62) dX11_rob_62 (v := 0) rfl ?_
        refine ea_istore (pc := 63) (lv' := [(0, vR (some (b0 + 0))), (3, vI (((10 : Int32) * x2) + x1)), (4, vR (some (ea_n h26))), (5, vI 0)]) dX11_rob_63 (Nat.le_of_ble_eq_true rfl) [1, 2, 3, 0] rfl ?_
        exact H
      · have H := H.2 c41
        refine ea_iconst (pc := 30) dX11_rob_30 (v := (-1)) rfl ?_
        obtain ⟨rfl, rfl⟩ := H
        exact ea_ireturn (pc := 31) dX11_rob_31 rfl rfl
theorem pX11_rob_65 {d b0 : Nat} {h0 hE h : ea_H} {rv : Option ea_V} {x3 : Int32} {r4 : Option Nat} {x5 : Int32} (hd : 3 ≤ d) (hs_h : ShC b0 h) (H : ((ea_i h (b0 + 32) 0) ≤ x5 → vp_in (ea_i h (b0 + 0) 10) 20 ∧ ∃ a6, r4 = some a6 ∧ a6 < ea_n h ∧ ea_c h a6 = 7 ∧ ∀ h2, h2 = ea_wr h (b0 + 53) (Int32.toNatClampNeg (ea_i h (b0 + 0) 10)) (some a6) → ∀ h8, h8 = ea_wi h2 (b0 + 0) 10 ((ea_i h2 (b0 + 0) 10) + (1 : Int32)) → ∀ h10, h10 = ea_wi h8 (b0 + 0) 12 0 → rv = some (vI ((ea_i h10 (b0 + 0) 10) - (1 : Int32))) ∧ hE = h10) ∧ (¬ (ea_i h (b0 + 32) 0) ≤ x5 → (okX1_isAboard_at32 b0 (x5 : Int32) (x3 : Int32) h) ∧ ((vX1_isAboard_at32 b0 (x5 : Int32) (x3 : Int32) h) = (0 : Int32) → ea_W mX11_rob d h0 rv hE 65 [(0, vR (some (b0 + 0))), (3, vI x3), (4, vR r4), (5, vI (x5 + 1))] [] h) ∧ (¬ (vX1_isAboard_at32 b0 (x5 : Int32) (x3 : Int32) h) = (0 : Int32) → vp_in x5 120 ∧ ((ea_i h (b0 + 37) (Int32.toNatClampNeg x5)) = (0 : Int32) → ea_W mX11_rob d h0 rv hE 65 [(0, vR (some (b0 + 0))), (3, vI x3), (4, vR r4), (5, vI (x5 + 1))] [] h) ∧ (¬ (ea_i h (b0 + 37) (Int32.toNatClampNeg x5)) = (0 : Int32) → vp_in x5 120 ∧ ∃ a50, (ea_r h (b0 + 31) (Int32.toNatClampNeg x5)) = some a50 ∧ a50 < ea_n h ∧ ea_c h a50 = 4 ∧ ∃ (d44 : Nat) (xc52 : Int32) (h45 : ea_H), ea_Met mX4_owed d44 [vR (some a50)] h (some (vI xc52)) h45 ∧ d44 + 1 ≤ d ∧ ShC b0 h45 ∧ ∃ a59, r4 = some a59 ∧ a59 < ea_n h45 ∧ ea_c h45 a59 = 7 ∧ ∃ (d53 : Nat) (h54 : ea_H), ea_Met mX7_take d53 [vR (some a59), vI x5, vI xc52] h45 none h54 ∧ d53 + 1 ≤ d ∧ ShC b0 h54 ∧ ∃ (d61 : Nat) (h62 : ea_H), ea_Met mX1_move d61 [vR (some (b0 + 32)), vI x5, vI (ea_i h54 (b0 + 0) 11), vI 4, vI x3] h54 none h62 ∧ d61 + 1 ≤ d ∧ ShC b0 h62 ∧ ea_W mX11_rob d h0 rv hE 65 [(0, vR (some (b0 + 0))), (3, vI x3), (4, vR r4), (5, vI (x5 + 1))] [] h62)))) : ea_W mX11_rob d h0 rv hE 65 [(0, vR (some (b0 + 0))), (3, vI x3), (4, vR r4), (5, vI x5)] [] h := by
  refine ea_iload (pc := 65) dX11_rob_65 3 rfl ?_
  refine ea_aload_n (pc := 67) dX11_rob_67 rfl 0 rfl ?_
  refine ea_getR (pc := 68) dX11_rob_68 ec_11 (k := 6) (Nat.le_of_ble_eq_true rfl) rfl (Or.inl ew_443) (hs_h.1 0 (by decide)).1 (hs_h.1 0 (by decide)).2.1 (hs_h.2 0 6 rfl) ?_
  refine ea_getI (pc := 71) dX11_rob_71 ec_1 (k := 0) (Nat.le_of_ble_eq_true rfl) rfl (Or.inl ew_360) (hs_h.1 32 (by decide)).1 (hs_h.1 32 (by decide)).2.1 ?_
  refine ea_icmp_ge (pc := 74) (tgt := 141) dX11_rob_74 rfl (fun c68 => ?_) (fun c68 => ?_)
  · have H := H.1 c68
    refine ea_aload_n (pc := 141) dX11_rob_141 rfl 0 rfl ?_
    refine ea_getR (pc := 142) dX11_rob_142 ec_11 (k := 9) (Nat.le_of_ble_eq_true rfl) rfl (Or.inl ew_446) (hs_h.1 0 (by decide)).1 (hs_h.1 0 (by decide)).2.1 (hs_h.2 0 9 rfl) ?_
    refine ea_aload_n (pc := 145) dX11_rob_145 rfl 0 rfl ?_
    refine ea_getI (pc := 146) dX11_rob_146 ec_11 (k := 10) (Nat.le_of_ble_eq_true rfl) rfl (Or.inl ew_447) (hs_h.1 0 (by decide)).1 (hs_h.1 0 (by decide)).2.1 ?_
    refine ea_aload (pc := 149) dX11_rob_149 2 rfl ?_
    obtain ⟨z1, H⟩ := H
    obtain ⟨a6, e7, f4, g5, H⟩ := H
    refine ea_deref0 e7 ?_
    refine ea_aast25 (pc := 151) dX11_rob_151 (hs_h.1 53 (by decide)).1 (hs_h.1 53 (by decide)).2.1 (ea_vpl (hs_h.1 53 (by decide)).2.2 z1) f4 g5 ?_
    obtain ⟨h2, E3⟩ : ∃ z, z = ea_wr h (b0 + 53) (Int32.toNatClampNeg (ea_i h (b0 + 0) 10)) (some a6) := ⟨_, rfl⟩
    have H := H h2 E3
    refine ea_nm E3 ?_
    have hs_h2 : ShC b0 h2 := by rw [E3]; exact ShC_wr (o := 53) rfl hs_h
    refine ea_aload_n (pc := 152) dX11_rob_152 rfl 0 rfl ?_
    refine ea_dup (pc := 153) dX11_rob_153 rfl ?_
    refine ea_getI (pc := 154) dX11_rob_154 ec_11 (k := 10) (Nat.le_of_ble_eq_true rfl) rfl (Or.inl ew_447) (hs_h2.1 0 (by decide)).1 (hs_h2.1 0 (by decide)).2.1 ?_
    refine ea_iconst (pc := 157) dX11_rob_157 (v := 1) rfl ?_
    refine ea_iadd (pc := 158) dX11_rob_158 ?_
    refine ea_putI (pc := 159) dX11_rob_159 ec_11 (k := 10) (Nat.le_of_ble_eq_true rfl) rfl (Or.inl ⟨rfl, Or.inl ew_447⟩) rfl rfl (hs_h2.1 0 (by decide)).1 (hs_h2.1 0 (by decide)).2.1 ?_
    obtain ⟨h8, E9⟩ : ∃ z, z = ea_wi h2 (b0 + 0) 10 ((ea_i h2 (b0 + 0) 10) + (1 : Int32)) := ⟨_, rfl⟩
    have H := H h8 E9
    refine ea_nm E9 ?_
    have hs_h8 : ShC b0 h8 := by rw [E9]; exact ShC_wi hs_h2
    refine ea_aload_n (pc := 162) dX11_rob_162 rfl 0 rfl ?_
    refine ea_iconst (pc := 163) dX11_rob_163 (v := 0) rfl ?_
    refine ea_putI (pc := 164) dX11_rob_164 ec_11 (k := 12) (Nat.le_of_ble_eq_true rfl) rfl (Or.inl ⟨rfl, Or.inl ew_449⟩) (ea_bn (Or.inl rfl)) (ea_bf (Or.inl rfl)) (hs_h8.1 0 (by decide)).1 (hs_h8.1 0 (by decide)).2.1 ?_
    obtain ⟨h10, E11⟩ : ∃ z, z = ea_wi h8 (b0 + 0) 12 0 := ⟨_, rfl⟩
    have H := H h10 E11
    refine ea_nm E11 ?_
    have hs_h10 : ShC b0 h10 := by rw [E11]; exact ShC_wi hs_h8
    refine ea_aload_n (pc := 167) dX11_rob_167 rfl 0 rfl ?_
    refine ea_getI (pc := 168) dX11_rob_168 ec_11 (k := 10) (Nat.le_of_ble_eq_true rfl) rfl (Or.inl ew_447) (hs_h10.1 0 (by decide)).1 (hs_h10.1 0 (by decide)).2.1 ?_
    refine ea_iconst (pc := 171) dX11_rob_171 (v := 1) rfl ?_
    refine ea_isub (pc := 172) dX11_rob_172 ?_
    obtain ⟨rfl, rfl⟩ := H
    exact ea_ireturn (pc := 173) dX11_rob_173 rfl rfl
  · have H := H.2 c68
    refine ea_aload_n (pc := 77) dX11_rob_77 rfl 0 rfl ?_
    refine ea_getR (pc := 78) dX11_rob_78 ec_11 (k := 6) (Nat.le_of_ble_eq_true rfl) rfl (Or.inl ew_443) (hs_h.1 0 (by decide)).1 (hs_h.1 0 (by decide)).2.1 (hs_h.2 0 6 rfl) ?_
    refine ea_iload (pc := 81) dX11_rob_81 3 rfl ?_
    refine ea_iload_n (pc := 83) dX11_rob_83 rfl 1 rfl ?_
    obtain ⟨z67, H⟩ := H
    refine ea_callV (pc := 84) (d' := d - 1) (As := [vI x5, vI x3]) (st := []) dX11_rob_84 kX1_isAboard (sX1_isAboard_at32 (d := d - 1) (by omega) hs_h z67) (by omega) rfl (Nat.le_of_ble_eq_true rfl) ew_1259 ew_705 ew_706 (ci := 1) rfl (by decide) (hs_h.1 32 (by decide)).1 (hs_h.1 32 (by decide)).2.1 ?_
    refine ea_if_eq (pc := 87) (tgt := 135) dX11_rob_87 rfl (fun c66 => ?_) (fun c66 => ?_)
    · have H := H.1 c66
      refine ea_iinc (pc := 135) (v := 1) (lv' := [(0, vR (some (b0 + 0))), (3, vI x3), (4, vR r4), (5, vI (x5 + 1))]) dX11_rob_135 3 rfl rfl (Nat.le_of_ble_eq_true rfl) [1, 2, 3, 0] rfl ?_
      refine ea_goto (pc := 138) (tgt := 65) dX11_rob_138 rfl ?_
      exact H
    · have H := H.2 c66
      refine ea_aload_n (pc := 90) dX11_rob_90 rfl 0 rfl ?_
      refine ea_getR (pc := 91) dX11_rob_91 ec_11 (k := 6) (Nat.le_of_ble_eq_true rfl) rfl (Or.inl ew_443) (hs_h.1 0 (by decide)).1 (hs_h.1 0 (by decide)).2.1 (hs_h.2 0 6 rfl) ?_
      refine ea_getR (pc := 94) dX11_rob_94 ec_1 (k := 5) (Nat.le_of_ble_eq_true rfl) rfl (Or.inl ew_370) (hs_h.1 32 (by decide)).1 (hs_h.1 32 (by decide)).2.1 (hs_h.2 32 5 rfl) ?_
      refine ea_iload (pc := 97) dX11_rob_97 3 rfl ?_
      obtain ⟨z42, H⟩ := H
      refine ea_zald (pc := 99) dX11_rob_99 (hs_h.1 37 (by decide)).1 (hs_h.1 37 (by decide)).2.1 (ea_vpl (hs_h.1 37 (by decide)).2.2 z42) ?_
      refine ea_if_eq (pc := 100) (tgt := 135) dX11_rob_100 rfl (fun c65 => ?_) (fun c65 => ?_)
      · have H := H.1 c65
        refine ea_iinc (pc := 135) (v := 1) (lv' := [(0, vR (some (b0 + 0))), (3, vI x3), (4, vR r4), (5, vI (x5 + 1))]) dX11_rob_135 3 rfl rfl (Nat.le_of_ble_eq_true rfl) [1, 2, 3, 0] rfl ?_
        refine ea_goto (pc := 138) (tgt := 65) dX11_rob_138 rfl ?_
        exact H
      · have H := H.2 c65
        refine ea_aload (pc := 103) dX11_rob_103 2 rfl ?_
        refine ea_iload (pc := 105) dX11_rob_105 3 rfl ?_
        refine ea_aload_n (pc := 107) dX11_rob_107 rfl 0 rfl ?_
        refine ea_getR (pc := 108) dX11_rob_108 ec_11 (k := 5) (Nat.le_of_ble_eq_true rfl) rfl (Or.inl ew_442) (hs_h.1 0 (by decide)).1 (hs_h.1 0 (by decide)).2.1 (hs_h.2 0 5 rfl) ?_
        refine ea_iload (pc := 111) dX11_rob_111 3 rfl ?_
        obtain ⟨z43, H⟩ := H
        refine ea_aald23 (pc := 113) dX11_rob_113 (hs_h.1 31 (by decide)).1 (hs_h.1 31 (by decide)).2.1 (ea_vpl (hs_h.1 31 (by decide)).2.2 z43) rfl ?_
        obtain ⟨a50, e51, f48, g49, H⟩ := H
        refine ea_deref0 e51 ?_
        obtain ⟨d44, xc52, h45, m46, q47, hs_h45, H⟩ := H
        refine ea_callV (pc := 114) (As := []) (st := [vI x5, vR r4]) dX11_rob_114 kX4_owed m46 q47 rfl (Nat.le_of_ble_eq_true rfl) ew_1084 ew_1085 ew_1086 (ci := 4) rfl (by decide) f48 g49 ?_
        obtain ⟨a59, e60, f57, g58, H⟩ := H
        refine ea_deref2 e60 ?_
        obtain ⟨d53, h54, m55, q56, hs_h54, H⟩ := H
        refine ea_callV (pc := 117) (As := [vI x5, vI xc52]) (st := []) dX11_rob_117 kX7_take m55 q56 rfl (Nat.le_of_ble_eq_true rfl) ew_1260 ew_1261 ew_1262 (ci := 7) rfl (by decide) f57 g58 ?_
        refine ea_aload_n (pc := 120) dX11_rob_120 rfl 0 rfl ?_
        refine ea_getR (pc := 121) dX11_rob_121 ec_11 (k := 6) (Nat.le_of_ble_eq_true rfl) rfl (Or.inl ew_443) (hs_h54.1 0 (by decide)).1 (hs_h54.1 0 (by decide)).2.1 (hs_h54.2 0 6 rfl) ?_
        refine ea_iload (pc := 124) dX11_rob_124 3 rfl ?_
        refine ea_aload_n (pc := 126) dX11_rob_126 rfl 0 rfl ?_
        refine ea_getI (pc := 127) dX11_rob_127 ec_11 (k := 11) (Nat.le_of_ble_eq_true rfl) rfl (Or.inl ew_448) (hs_h54.1 0 (by decide)).1 (hs_h54.1 0 (by decide)).2.1 ?_
        refine ea_iconst (pc := 130) dX11_rob_130 (v := 4) rfl ?_
        refine ea_iload_n (pc := 131) dX11_rob_131 rfl 1 rfl ?_
        obtain ⟨d61, h62, m63, q64, hs_h62, H⟩ := H
        refine ea_callV (pc := 132) (As := [vI x5, vI (ea_i h54 (b0 + 0) 11), vI 4, vI x3]) (st := []) dX11_rob_132 kX1_move m63 q64 rfl (Nat.le_of_ble_eq_true rfl) ew_1224 ew_646 ew_647 (ci := 1) rfl (by decide) (hs_h54.1 32 (by decide)).1 (hs_h54.1 32 (by decide)).2.1 ?_
        refine ea_iinc (pc := 135) (v := 1) (lv' := [(0, vR (some (b0 + 0))), (3, vI x3), (4, vR r4), (5, vI (x5 + 1))]) dX11_rob_135 3 rfl rfl (Nat.le_of_ble_eq_true rfl) [1, 2, 3, 0] rfl ?_
        refine ea_goto (pc := 138) (tgt := 65) dX11_rob_138 rfl ?_
        exact H
theorem pX11_seen_0 {d b0 : Nat} {h0 hE h : ea_H} {rv : Option ea_V} {x1 : Int32} {x2 : Int32} (hd : 2 ≤ d) (hs_h : ShC b0 h) (H : ((vX9_has b0 (x1 : Int32) h) = (0 : Int32) → rv = some (vI 0) ∧ hE = h) ∧ (¬ (vX9_has b0 (x1 : Int32) h) = (0 : Int32) → (x2 < (0 : Int32) → rv = some (vI 0) ∧ hE = h) ∧ (¬ x2 < (0 : Int32) → (x2 ≤ (10079 : Int32) → vp_in x1 10 ∧ ∃ a27, (ea_r h (b0 + 52) (Int32.toNatClampNeg x1)) = some a27 ∧ a27 < ea_n h ∧ ea_c h a27 = 2 ∧ ∃ (d21 : Nat) (xc29 : Int32) (h22 : ea_H), ea_Met mX2_learn d21 [vR (some a27), vI (ea_i h (b0 + 0) 11), vI x2] h (some (vI xc29)) h22 ∧ d21 + 1 ≤ d ∧ ShC b0 h22 ∧ (xc29 = 0 ∨ xc29 = 1) ∧ rv = some (vI xc29) ∧ hE = h22) ∧ (¬ x2 ≤ (10079 : Int32) → rv = some (vI 0) ∧ hE = h)))) : ea_W mX11_seen d h0 rv hE 0 [(0, vR (some (b0 + 0))), (1, vI x1), (2, vI x2)] [] h := by
  refine ea_aload_n (pc := 0) dX11_seen_0 rfl 0 rfl ?_
  refine ea_getR (pc := 1) dX11_seen_1 ec_11 (k := 1) (Nat.le_of_ble_eq_true rfl) rfl (Or.inl ew_438) (hs_h.1 0 (by decide)).1 (hs_h.1 0 (by decide)).2.1 (hs_h.2 0 1 rfl) ?_
  refine ea_iload_n (pc := 4) dX11_seen_4 rfl 1 rfl ?_
  refine ea_callV (pc := 5) (d' := d - 1) (As := [vI x1]) (st := []) dX11_seen_5 kX9_has (sX9_has (d := d - 1) (by omega) hs_h) (by omega) rfl (Nat.le_of_ble_eq_true rfl) ew_518 ew_519 ew_520 (ci := 9) rfl (by decide) (hs_h.1 5 (by decide)).1 (hs_h.1 5 (by decide)).2.1 ?_
  refine ea_if_eq (pc := 8) (tgt := 22) dX11_seen_8 rfl (fun c33 => ?_) (fun c33 => ?_)
  · have H := H.1 c33
    refine ea_iconst (pc := 22) dX11_seen_22 (v := 0) rfl ?_
    obtain ⟨rfl, rfl⟩ := H
    exact ea_ireturn (pc := 23) dX11_seen_23 rfl (ea_bn (Or.inl rfl))
  · have H := H.2 c33
    refine ea_iload_n (pc := 11) dX11_seen_11 rfl 2 rfl ?_
    refine ea_if_lt (pc := 12) (tgt := 22) dX11_seen_12 rfl (fun c32 => ?_) (fun c32 => ?_)
    · have H := H.1 c32
      refine ea_iconst (pc := 22) dX11_seen_22 (v := 0) rfl ?_
      obtain ⟨rfl, rfl⟩ := H
      exact ea_ireturn (pc := 23) dX11_seen_23 rfl (ea_bn (Or.inl rfl))
    · have H := H.2 c32
      refine ea_iload_n (pc := 15) dX11_seen_15 rfl 2 rfl ?_
      refine ea_sipush (pc := 16) dX11_seen_16 (v := 10079) rfl ?_
      refine ea_icmp_le (pc := 19) (tgt := 24) dX11_seen_19 rfl (fun c31 => ?_) (fun c31 => ?_)
      · have H := H.1 c31
        refine ea_aload_n (pc := 24) dX11_seen_24 rfl 0 rfl ?_
        refine ea_getR (pc := 25) dX11_seen_25 ec_11 (k := 8) (Nat.le_of_ble_eq_true rfl) rfl (Or.inl ew_445) (hs_h.1 0 (by decide)).1 (hs_h.1 0 (by decide)).2.1 (hs_h.2 0 8 rfl) ?_
        refine ea_iload_n (pc := 28) dX11_seen_28 rfl 1 rfl ?_
        obtain ⟨z20, H⟩ := H
        refine ea_aald24 (pc := 29) dX11_seen_29 (hs_h.1 52 (by decide)).1 (hs_h.1 52 (by decide)).2.1 (ea_vpl (hs_h.1 52 (by decide)).2.2 z20) rfl ?_
        refine ea_aload_n (pc := 30) dX11_seen_30 rfl 0 rfl ?_
        refine ea_getI (pc := 31) dX11_seen_31 ec_11 (k := 11) (Nat.le_of_ble_eq_true rfl) rfl (Or.inl ew_448) (hs_h.1 0 (by decide)).1 (hs_h.1 0 (by decide)).2.1 ?_
        refine ea_iload_n (pc := 34) dX11_seen_34 rfl 2 rfl ?_
        obtain ⟨a27, e28, f25, g26, H⟩ := H
        refine ea_deref2 e28 ?_
        obtain ⟨d21, xc29, h22, m23, q24, hs_h22, H⟩ := H
        refine ea_callV (pc := 35) (As := [vI (ea_i h (b0 + 0) 11), vI x2]) (st := []) dX11_seen_35 kX2_learn m23 q24 rfl (Nat.le_of_ble_eq_true rfl) ew_1280 ew_1281 ew_1282 (ci := 2) rfl (by decide) f25 g26 ?_
        obtain ⟨z30, rfl, rfl⟩ := H
        exact ea_ireturn (pc := 38) dX11_seen_38 rfl (ea_bn z30)
      · have H := H.2 c31
        refine ea_iconst (pc := 22) dX11_seen_22 (v := 0) rfl ?_
        obtain ⟨rfl, rfl⟩ := H
        exact ea_ireturn (pc := 23) dX11_seen_23 rfl (ea_bn (Or.inl rfl))
theorem pX11_trueMinute_0 {d b0 : Nat} {h0 hE h : ea_H} {rv : Option ea_V} {x1 : Int32} {x2 : Int32} {x3 : Int32} (hd : 2 ≤ d) (hs_h : ShC b0 h) (H : ((vX9_has b0 (x1 : Int32) h) = (0 : Int32) → rv = some (vI (-1)) ∧ hE = h) ∧ (¬ (vX9_has b0 (x1 : Int32) h) = (0 : Int32) → (x2 < (0 : Int32) → rv = some (vI (-1)) ∧ hE = h) ∧ (¬ x2 < (0 : Int32) → (x2 ≤ (10079 : Int32) → False) ∧ (¬ x2 ≤ (10079 : Int32) → rv = some (vI (-1)) ∧ hE = h)))) : ea_W mX11_trueMinute d h0 rv hE 0 [(0, vR (some (b0 + 0))), (1, vI x1), (2, vI x2), (3, vI x3)] [] h := by
  refine ea_aload_n (pc := 0) dX11_trueMinute_0 rfl 0 rfl ?_
  refine ea_getR (pc := 1) dX11_trueMinute_1 ec_11 (k := 1) (Nat.le_of_ble_eq_true rfl) rfl (Or.inl ew_438) (hs_h.1 0 (by decide)).1 (hs_h.1 0 (by decide)).2.1 (hs_h.2 0 1 rfl) ?_
  refine ea_iload_n (pc := 4) dX11_trueMinute_4 rfl 1 rfl ?_
  refine ea_callV (pc := 5) (d' := d - 1) (As := [vI x1]) (st := []) dX11_trueMinute_5 kX9_has (sX9_has (d := d - 1) (by omega) hs_h) (by omega) rfl (Nat.le_of_ble_eq_true rfl) ew_518 ew_519 ew_520 (ci := 9) rfl (by decide) (hs_h.1 5 (by decide)).1 (hs_h.1 5 (by decide)).2.1 ?_
  refine ea_if_eq (pc := 8) (tgt := 22) dX11_trueMinute_8 rfl (fun c11 => ?_) (fun c11 => ?_)
  · have H := H.1 c11
    refine ea_iconst (pc := 22) dX11_trueMinute_22 (v := (-1)) rfl ?_
    obtain ⟨rfl, rfl⟩ := H
    exact ea_ireturn (pc := 23) dX11_trueMinute_23 rfl rfl
  · have H := H.2 c11
    refine ea_iload_n (pc := 11) dX11_trueMinute_11 rfl 2 rfl ?_
    refine ea_if_lt (pc := 12) (tgt := 22) dX11_trueMinute_12 rfl (fun c10 => ?_) (fun c10 => ?_)
    · have H := H.1 c10
      refine ea_iconst (pc := 22) dX11_trueMinute_22 (v := (-1)) rfl ?_
      obtain ⟨rfl, rfl⟩ := H
      exact ea_ireturn (pc := 23) dX11_trueMinute_23 rfl rfl
    · have H := H.2 c10
      refine ea_iload_n (pc := 15) dX11_trueMinute_15 rfl 2 rfl ?_
      refine ea_sipush (pc := 16) dX11_trueMinute_16 (v := 10079) rfl ?_
      refine ea_icmp_le (pc := 19) (tgt := 24) dX11_trueMinute_19 rfl (fun c9 => ?_) (fun c9 => ?_)
      · have H := H.1 c9
        refine ea_iload_n (pc := 24) dX11_trueMinute_24 rfl 3 rfl ?_
        exact H.elim
      · have H := H.2 c9
        refine ea_iconst (pc := 22) dX11_trueMinute_22 (v := (-1)) rfl ?_
        obtain ⟨rfl, rfl⟩ := H
        exact ea_ireturn (pc := 23) dX11_trueMinute_23 rfl rfl
theorem pX11_tried_0 {d b0 : Nat} {h0 hE h : ea_H} {rv : Option ea_V} {x1 : Int32} (hd : 2 ≤ d) (hs_h : ShC b0 h) (H : (okX8_actOf b0 (x1 : Int32) h) ∧ (∀ a8, (vX8_actOf b0 (x1 : Int32) h) = some a8 → ea_W mX11_tried d h0 rv hE 22 [(0, vR (some (b0 + 0))), (2, vR (vX8_actOf b0 (x1 : Int32) h)), (3, vJ 0), (5, vI 0)] [] h) ∧ ((vX8_actOf b0 (x1 : Int32) h) = none → rv = some (vJ (-1)) ∧ hE = h)) : ea_W mX11_tried d h0 rv hE 0 [(0, vR (some (b0 + 0))), (1, vI x1)] [] h := by
  refine ea_aload_n (pc := 0) dX11_tried_0 rfl 0 rfl ?_
  refine ea_getR (pc := 1) dX11_tried_1 ec_11 (k := 4) (Nat.le_of_ble_eq_true rfl) rfl (Or.inl ew_441) (hs_h.1 0 (by decide)).1 (hs_h.1 0 (by decide)).2.1 (hs_h.2 0 4 rfl) ?_
  refine ea_iload_n (pc := 4) dX11_tried_4 rfl 1 rfl ?_
  obtain ⟨z10, H⟩ := H
  refine ea_callV (pc := 5) (d' := d - 1) (As := [vI x1]) (st := []) dX11_tried_5 kX8_actOf (sX8_actOf (d := d - 1) (by omega) hs_h z10) (by omega) rfl (Nat.le_of_ble_eq_true rfl) ew_920 ew_921 ew_922 (ci := 8) rfl (by decide) (hs_h.1 21 (by decide)).1 (hs_h.1 21 (by decide)).2.1 ?_
  refine ea_astore_n (pc := 8) (lv' := [(0, vR (some (b0 + 0))), (2, vR (vX8_actOf b0 (x1 : Int32) h))]) dX11_tried_8 rfl (Nat.le_of_ble_eq_true rfl) [1, 0] rfl ?_
  refine ea_aload_n (pc := 9) dX11_tried_9 rfl 1 rfl ?_
  refine ea_ifnonnull (pc := 10) (tgt := 17) dX11_tried_10 rfl (fun a8 e9 => ?_) (fun e9 => ?_)
  · have H := H.1 a8 e9
    refine ea_lconst (pc := 17) dX11_tried_17 (v := 0) rfl ?_
    refine ea_lstore_n (pc := 18) (lv' := [(0, vR (some (b0 + 0))), (2, vR (vX8_actOf b0 (x1 : Int32) h)), (3, vJ 0)]) dX11_tried_18 rfl (Nat.le_of_ble_eq_true rfl) [1, 2, 0] rfl ?_
    refine ea_iconst (pc := 19) dX11_tried_19 (v := 0) rfl ?_
    refine ea_istore (pc := 20) (lv' := [(0, vR (some (b0 + 0))), (2, vR (vX8_actOf b0 (x1 : Int32) h)), (3, vJ 0), (5, vI 0)]) dX11_tried_20 (Nat.le_of_ble_eq_true rfl) [1, 2, 3, 0] rfl ?_
    exact H
  · have H := H.2 e9
    refine ea_ldc2 (pc := 13) dX11_tried_13 ew_1206 ?_
    obtain ⟨rfl, rfl⟩ := H
    exact ea_lreturn (pc := 16) dX11_tried_16 rfl
theorem pX11_tried_22 {d b0 : Nat} {h0 hE h : ea_H} {rv : Option ea_V} {r2 : Option Nat} {y3 : Int64} {x5 : Int32} (hd : 2 ≤ d) (hs_h : ShC b0 h) (H : ((ea_i h (b0 + 32) 0) ≤ x5 → rv = some (vJ y3) ∧ hE = h) ∧ (¬ (ea_i h (b0 + 32) 0) ≤ x5 → vp_in x5 120 ∧ ∃ (d2 : Nat) (xc6 : Int32) (h3 : ea_H), ea_Met mX8_chargeBy d2 [vR (some (b0 + 21)), vR r2, vR (ea_r h (b0 + 31) (Int32.toNatClampNeg x5))] h (some (vI xc6)) h3 ∧ d2 + 1 ≤ d ∧ ShC b0 h3 ∧ ea_W mX11_tried d h0 rv hE 22 [(0, vR (some (b0 + 0))), (2, vR r2), (3, vJ (y3 + (Int32.toInt64 xc6))), (5, vI (x5 + 1))] [] h3)) : ea_W mX11_tried d h0 rv hE 22 [(0, vR (some (b0 + 0))), (2, vR r2), (3, vJ y3), (5, vI x5)] [] h := by
  refine ea_iload (pc := 22) dX11_tried_22 3 rfl ?_
  refine ea_aload_n (pc := 24) dX11_tried_24 rfl 0 rfl ?_
  refine ea_getR (pc := 25) dX11_tried_25 ec_11 (k := 6) (Nat.le_of_ble_eq_true rfl) rfl (Or.inl ew_443) (hs_h.1 0 (by decide)).1 (hs_h.1 0 (by decide)).2.1 (hs_h.2 0 6 rfl) ?_
  refine ea_getI (pc := 28) dX11_tried_28 ec_1 (k := 0) (Nat.le_of_ble_eq_true rfl) rfl (Or.inl ew_360) (hs_h.1 32 (by decide)).1 (hs_h.1 32 (by decide)).2.1 ?_
  refine ea_icmp_ge (pc := 31) (tgt := 59) dX11_tried_31 rfl (fun c7 => ?_) (fun c7 => ?_)
  · have H := H.1 c7
    refine ea_lload_n (pc := 59) dX11_tried_59 rfl 2 rfl ?_
    obtain ⟨rfl, rfl⟩ := H
    exact ea_lreturn (pc := 60) dX11_tried_60 rfl
  · have H := H.2 c7
    refine ea_lload_n (pc := 34) dX11_tried_34 rfl 2 rfl ?_
    refine ea_aload_n (pc := 35) dX11_tried_35 rfl 0 rfl ?_
    refine ea_getR (pc := 36) dX11_tried_36 ec_11 (k := 4) (Nat.le_of_ble_eq_true rfl) rfl (Or.inl ew_441) (hs_h.1 0 (by decide)).1 (hs_h.1 0 (by decide)).2.1 (hs_h.2 0 4 rfl) ?_
    refine ea_aload_n (pc := 39) dX11_tried_39 rfl 1 rfl ?_
    refine ea_aload_n (pc := 40) dX11_tried_40 rfl 0 rfl ?_
    refine ea_getR (pc := 41) dX11_tried_41 ec_11 (k := 5) (Nat.le_of_ble_eq_true rfl) rfl (Or.inl ew_442) (hs_h.1 0 (by decide)).1 (hs_h.1 0 (by decide)).2.1 (hs_h.2 0 5 rfl) ?_
    refine ea_iload (pc := 44) dX11_tried_44 3 rfl ?_
    obtain ⟨z1, H⟩ := H
    refine ea_aald23 (pc := 46) dX11_tried_46 (hs_h.1 31 (by decide)).1 (hs_h.1 31 (by decide)).2.1 (ea_vpl (hs_h.1 31 (by decide)).2.2 z1) rfl ?_
    obtain ⟨d2, xc6, h3, m4, q5, hs_h3, H⟩ := H
    refine ea_callV (pc := 47) (As := [vR r2, vR (ea_r h (b0 + 31) (Int32.toNatClampNeg x5))]) (st := [vJ y3]) dX11_tried_47 kX8_chargeBy m4 q5 rfl (Nat.le_of_ble_eq_true rfl) ew_1311 ew_1047 ew_1048 (ci := 8) rfl (by decide) (hs_h.1 21 (by decide)).1 (hs_h.1 21 (by decide)).2.1 ?_
    refine ea_i2l (pc := 50) dX11_tried_50 ?_
    refine ea_ladd (pc := 51) dX11_tried_51 ?_
    refine ea_lstore_n (pc := 52) (lv' := [(0, vR (some (b0 + 0))), (2, vR r2), (3, vJ (y3 + (Int32.toInt64 xc6))), (5, vI x5)]) dX11_tried_52 rfl (Nat.le_of_ble_eq_true rfl) [1, 2, 0, 3] rfl ?_
    refine ea_iinc (pc := 53) (v := 1) (lv' := [(0, vR (some (b0 + 0))), (2, vR r2), (3, vJ (y3 + (Int32.toInt64 xc6))), (5, vI (x5 + 1))]) dX11_tried_53 3 rfl rfl (Nat.le_of_ble_eq_true rfl) [1, 2, 3, 0] rfl ?_
    refine ea_goto (pc := 56) (tgt := 22) dX11_tried_56 rfl ?_
    exact H
theorem pX11_whatIf_0 {d b0 : Nat} {h0 hE h : ea_H} {rv : Option ea_V} {x1 : Int32} {x2 : Int32} {x3 : Int32} (hd : 4 ≤ d) (hs_h : ShC b0 h) (H : (¬ x1 = ((-1) : Int32) → (okX11_mayBeTold b0 (x1 : Int32) (x2 : Int32) (x3 : Int32) h) ∧ (¬ (vX11_mayBeTold b0 (x1 : Int32) (x2 : Int32) (x3 : Int32) h) = (0 : Int32) → vp_in (((10 : Int32) * x2) + x1) 70 ∧ vp_in (((10 : Int32) * x2) + x1) 70 ∧ ∀ h25, h25 = ea_wi h (b0 + 11) (Int32.toNatClampNeg (((10 : Int32) * x2) + x1)) x3 → ∀ h27, h27 = ea_wi h25 (b0 + 13) 0 0 → ∃ (d29 : Nat) (xc33 : Int32) (h30 : ea_H), ea_Met mX11_outcome d29 [vR (some (b0 + 0))] h27 (some (vI xc33)) h30 ∧ d29 + 1 ≤ d ∧ ShC b0 h30 ∧ vp_in (((10 : Int32) * x2) + x1) 70 ∧ ∀ h35, h35 = ea_wi h30 (b0 + 11) (Int32.toNatClampNeg (((10 : Int32) * x2) + x1)) (ea_i h (b0 + 11) (Int32.toNatClampNeg (((10 : Int32) * x2) + x1))) → ∀ h37, h37 = ea_wi h35 (b0 + 13) 0 0 → rv = some (vI xc33) ∧ hE = h37) ∧ ((vX11_mayBeTold b0 (x1 : Int32) (x2 : Int32) (x3 : Int32) h) = (0 : Int32) → rv = some (vI (-1)) ∧ hE = h)) ∧ (x1 = ((-1) : Int32) → ∃ (d41 : Nat) (xc45 : Int32) (h42 : ea_H), ea_Met mX11_outcome d41 [vR (some (b0 + 0))] h (some (vI xc45)) h42 ∧ d41 + 1 ≤ d ∧ ShC b0 h42 ∧ rv = some (vI xc45) ∧ hE = h42)) : ea_W mX11_whatIf d h0 rv hE 0 [(0, vR (some (b0 + 0))), (1, vI x1), (2, vI x2), (3, vI x3)] [] h := by
  refine ea_iload_n (pc := 0) dX11_whatIf_0 rfl 1 rfl ?_
  refine ea_iconst (pc := 1) dX11_whatIf_1 (v := (-1)) rfl ?_
  refine ea_icmp_ne (pc := 2) (tgt := 10) dX11_whatIf_2 rfl (fun c46 => ?_) (fun c46 => ?_)
  · have H := H.1 c46
    refine ea_aload_n (pc := 10) dX11_whatIf_10 rfl 0 rfl ?_
    refine ea_iload_n (pc := 11) dX11_whatIf_11 rfl 1 rfl ?_
    refine ea_iload_n (pc := 12) dX11_whatIf_12 rfl 2 rfl ?_
    refine ea_iload_n (pc := 13) dX11_whatIf_13 rfl 3 rfl ?_
    obtain ⟨z40, H⟩ := H
    refine ea_callV (pc := 14) (d' := d - 1) (As := [vI x1, vI x2, vI x3]) (st := []) dX11_whatIf_14 kX11_mayBeTold (sX11_mayBeTold (d := d - 1) (by omega) hs_h z40) (by omega) rfl (Nat.le_of_ble_eq_true rfl) ew_538 ew_540 ew_2 (ci := 11) rfl (by decide) (hs_h.1 0 (by decide)).1 (hs_h.1 0 (by decide)).2.1 ?_
    refine ea_if_ne (pc := 17) (tgt := 22) dX11_whatIf_17 rfl (fun c39 => ?_) (fun c39 => ?_)
    · have H := H.1 c39
      refine ea_bipush (pc := 22) dX11_whatIf_22 (v := 10) rfl ?_
      refine ea_iload_n (pc := 24) dX11_whatIf_24 rfl 2 rfl ?_
      refine ea_imul (pc := 25) dX11_whatIf_25 ?_
      refine ea_iload_n (pc := 26) dX11_whatIf_26 rfl 1 rfl ?_
      refine ea_iadd (pc := 27) dX11_whatIf_27 ?_
      refine ea_istore (pc := 28) (lv' := [(0, vR (some (b0 + 0))), (3, vI x3), (4, vI (((10 : Int32) * x2) + x1))]) dX11_whatIf_28 (Nat.le_of_ble_eq_true rfl) [1, 4, 0] rfl ?_
      refine ea_aload_n (pc := 30) dX11_whatIf_30 rfl 0 rfl ?_
      refine ea_getR (pc := 31) dX11_whatIf_31 ec_11 (k := 1) (Nat.le_of_ble_eq_true rfl) rfl (Or.inl ew_438) (hs_h.1 0 (by decide)).1 (hs_h.1 0 (by decide)).2.1 (hs_h.2 0 1 rfl) ?_
      refine ea_getR (pc := 34) dX11_whatIf_34 ec_9 (k := 6) (Nat.le_of_ble_eq_true rfl) rfl (Or.inl ew_197) (hs_h.1 5 (by decide)).1 (hs_h.1 5 (by decide)).2.1 (hs_h.2 5 6 rfl) ?_
      refine ea_iload (pc := 37) dX11_whatIf_37 2 rfl ?_
      obtain ⟨z23, H⟩ := H
      refine ea_iald (pc := 39) dX11_whatIf_39 (hs_h.1 11 (by decide)).1 (hs_h.1 11 (by decide)).2.1 (ea_vpl (hs_h.1 11 (by decide)).2.2 z23) ?_
      refine ea_istore (pc := 40) (lv' := [(0, vR (some (b0 + 0))), (3, vI x3), (4, vI (((10 : Int32) * x2) + x1)), (5, vI (ea_i h (b0 + 11) (Int32.toNatClampNeg (((10 : Int32) * x2) + x1))))]) dX11_whatIf_40 (Nat.le_of_ble_eq_true rfl) [1, 2, 3, 0] rfl ?_
      refine ea_aload_n (pc := 42) dX11_whatIf_42 rfl 0 rfl ?_
      refine ea_getR (pc := 43) dX11_whatIf_43 ec_11 (k := 1) (Nat.le_of_ble_eq_true rfl) rfl (Or.inl ew_438) (hs_h.1 0 (by decide)).1 (hs_h.1 0 (by decide)).2.1 (hs_h.2 0 1 rfl) ?_
      refine ea_getR (pc := 46) dX11_whatIf_46 ec_9 (k := 6) (Nat.le_of_ble_eq_true rfl) rfl (Or.inl ew_197) (hs_h.1 5 (by decide)).1 (hs_h.1 5 (by decide)).2.1 (hs_h.2 5 6 rfl) ?_
      refine ea_iload (pc := 49) dX11_whatIf_49 2 rfl ?_
      refine ea_iload_n (pc := 51) dX11_whatIf_51 rfl 1 rfl ?_
      obtain ⟨z24, H⟩ := H
      refine ea_iast (pc := 52) dX11_whatIf_52 (hs_h.1 11 (by decide)).1 (hs_h.1 11 (by decide)).2.1 (ea_vpl (hs_h.1 11 (by decide)).2.2 z24) ?_
      obtain ⟨h25, E26⟩ : ∃ z, z = ea_wi h (b0 + 11) (Int32.toNatClampNeg (((10 : Int32) * x2) + x1)) x3 := ⟨_, rfl⟩
      have H := H h25 E26
      refine ea_nm E26 ?_
      have hs_h25 : ShC b0 h25 := by rw [E26]; exact ShC_wi hs_h
      refine ea_aload_n (pc := 53) dX11_whatIf_53 rfl 0 rfl ?_
      refine ea_getR (pc := 54) dX11_whatIf_54 ec_11 (k := 2) (Nat.le_of_ble_eq_true rfl) rfl (Or.inl ew_439) (hs_h25.1 0 (by decide)).1 (hs_h25.1 0 (by decide)).2.1 (hs_h25.2 0 2 rfl) ?_
      refine ea_iconst (pc := 57) dX11_whatIf_57 (v := 0) rfl ?_
      refine ea_putI (pc := 58) dX11_whatIf_58 ec_10 (k := 0) (Nat.le_of_ble_eq_true rfl) rfl (Or.inl ⟨rfl, Or.inl ew_226⟩) (ea_bn (Or.inl rfl)) (ea_bf (Or.inl rfl)) (hs_h25.1 13 (by decide)).1 (hs_h25.1 13 (by decide)).2.1 ?_
      obtain ⟨h27, E28⟩ : ∃ z, z = ea_wi h25 (b0 + 13) 0 0 := ⟨_, rfl⟩
      have H := H h27 E28
      refine ea_nm E28 ?_
      have hs_h27 : ShC b0 h27 := by rw [E28]; exact ShC_wi hs_h25
      refine ea_aload_n (pc := 61) dX11_whatIf_61 rfl 0 rfl ?_
      obtain ⟨d29, xc33, h30, m31, q32, hs_h30, H⟩ := H
      refine ea_callV (pc := 62) (As := []) (st := []) dX11_whatIf_62 kX11_outcome m31 q32 rfl (Nat.le_of_ble_eq_true rfl) ew_1316 ew_1318 ew_45 (ci := 11) rfl (by decide) (hs_h27.1 0 (by decide)).1 (hs_h27.1 0 (by decide)).2.1 ?_
      refine ea_istore (pc := 65) (lv' := [(0, vR (some (b0 + 0))), (4, vI (((10 : Int32) * x2) + x1)), (5, vI (ea_i h (b0 + 11) (Int32.toNatClampNeg (((10 : Int32) * x2) + x1)))), (6, vI xc33)]) dX11_whatIf_65 (Nat.le_of_ble_eq_true rfl) [1, 3, 4, 0] rfl ?_
      refine ea_aload_n (pc := 67) dX11_whatIf_67 rfl 0 rfl ?_
      refine ea_getR (pc := 68) dX11_whatIf_68 ec_11 (k := 1) (Nat.le_of_ble_eq_true rfl) rfl (Or.inl ew_438) (hs_h30.1 0 (by decide)).1 (hs_h30.1 0 (by decide)).2.1 (hs_h30.2 0 1 rfl) ?_
      refine ea_getR (pc := 71) dX11_whatIf_71 ec_9 (k := 6) (Nat.le_of_ble_eq_true rfl) rfl (Or.inl ew_197) (hs_h30.1 5 (by decide)).1 (hs_h30.1 5 (by decide)).2.1 (hs_h30.2 5 6 rfl) ?_
      refine ea_iload (pc := 74) dX11_whatIf_74 1 rfl ?_
      refine ea_iload (pc := 76) dX11_whatIf_76 2 rfl ?_
      obtain ⟨z34, H⟩ := H
      refine ea_iast (pc := 78) dX11_whatIf_78 (hs_h30.1 11 (by decide)).1 (hs_h30.1 11 (by decide)).2.1 (ea_vpl (hs_h30.1 11 (by decide)).2.2 z34) ?_
      obtain ⟨h35, E36⟩ : ∃ z, z = ea_wi h30 (b0 + 11) (Int32.toNatClampNeg (((10 : Int32) * x2) + x1)) (ea_i h (b0 + 11) (Int32.toNatClampNeg (((10 : Int32) * x2) + x1))) := ⟨_, rfl⟩
      have H := H h35 E36
      refine ea_nm E36 ?_
      have hs_h35 : ShC b0 h35 := by rw [E36]; exact ShC_wi hs_h30
      refine ea_aload_n (pc := 79) dX11_whatIf_79 rfl 0 rfl ?_
      refine ea_getR (pc := 80) dX11_whatIf_80 ec_11 (k := 2) (Nat.le_of_ble_eq_true rfl) rfl (Or.inl ew_439) (hs_h35.1 0 (by decide)).1 (hs_h35.1 0 (by decide)).2.1 (hs_h35.2 0 2 rfl) ?_
      refine ea_iconst (pc := 83) dX11_whatIf_83 (v := 0) rfl ?_
      refine ea_putI (pc := 84) dX11_whatIf_84 ec_10 (k := 0) (Nat.le_of_ble_eq_true rfl) rfl (Or.inl ⟨rfl, Or.inl ew_226⟩) (ea_bn (Or.inl rfl)) (ea_bf (Or.inl rfl)) (hs_h35.1 13 (by decide)).1 (hs_h35.1 13 (by decide)).2.1 ?_
      obtain ⟨h37, E38⟩ : ∃ z, z = ea_wi h35 (b0 + 13) 0 0 := ⟨_, rfl⟩
      have H := H h37 E38
      refine ea_nm E38 ?_
      have hs_h37 : ShC b0 h37 := by rw [E38]; exact ShC_wi hs_h35
      refine ea_iload (pc := 87) dX11_whatIf_87 3 rfl ?_
      obtain ⟨rfl, rfl⟩ := H
      exact ea_ireturn (pc := 89) dX11_whatIf_89 rfl rfl
    · have H := H.2 c39
      refine ea_iconst (pc := 20) dX11_whatIf_20 (v := (-1)) rfl ?_
      obtain ⟨rfl, rfl⟩ := H
      exact ea_ireturn (pc := 21) dX11_whatIf_21 rfl rfl
  · have H := H.2 c46
    refine ea_aload_n (pc := 5) dX11_whatIf_5 rfl 0 rfl ?_
    obtain ⟨d41, xc45, h42, m43, q44, hs_h42, H⟩ := H
    refine ea_callV (pc := 6) (As := []) (st := []) dX11_whatIf_6 kX11_outcome m43 q44 rfl (Nat.le_of_ble_eq_true rfl) ew_1316 ew_1318 ew_45 (ci := 11) rfl (by decide) (hs_h.1 0 (by decide)).1 (hs_h.1 0 (by decide)).2.1 ?_
    obtain ⟨rfl, rfl⟩ := H
    exact ea_ireturn (pc := 9) dX11_whatIf_9 rfl rfl
theorem pX11_seats_0 {d b0 : Nat} {h0 hE h : ea_H} {rv : Option ea_V} {x1 : Int32} (hd : 1 ≤ d) (hs_h : ShC b0 h) (H : ((ea_i h (b0 + 5) 0) = (0 : Int32) → rv = some (vI (-1)) ∧ hE = h) ∧ (¬ (ea_i h (b0 + 5) 0) = (0 : Int32) → (¬ (ea_i h (b0 + 16) 0) = (0 : Int32) → (x1 = (0 : Int32) → ea_W mX11_seats d h0 rv hE 51 [(0, vR (some (b0 + 0))), (1, vI x1)] [] h) ∧ (¬ x1 = (0 : Int32) → (x1 = (10 : Int32) → ea_W mX11_seats d h0 rv hE 51 [(0, vR (some (b0 + 0))), (1, vI x1)] [] h) ∧ (¬ x1 = (10 : Int32) → (¬ x1 = (11 : Int32) → rv = some (vI (-1)) ∧ hE = h) ∧ (x1 = (11 : Int32) → ((2 : Int32) ≤ (ea_i h (b0 + 16) 0) → ea_W mX11_seats d h0 rv hE 51 [(0, vR (some (b0 + 0))), (1, vI x1)] [] h) ∧ (¬ (2 : Int32) ≤ (ea_i h (b0 + 16) 0) → rv = some (vI (-1)) ∧ hE = h))))) ∧ ((ea_i h (b0 + 16) 0) = (0 : Int32) → rv = some (vI (-1)) ∧ hE = h))) : ea_W mX11_seats d h0 rv hE 0 [(0, vR (some (b0 + 0))), (1, vI x1)] [] h := by
  refine ea_aload_n (pc := 0) dX11_seats_0 rfl 0 rfl ?_
  refine ea_getR (pc := 1) dX11_seats_1 ec_11 (k := 1) (Nat.le_of_ble_eq_true rfl) rfl (Or.inl ew_438) (hs_h.1 0 (by decide)).1 (hs_h.1 0 (by decide)).2.1 (hs_h.2 0 1 rfl) ?_
  refine ea_getI (pc := 4) dX11_seats_4 ec_9 (k := 0) (Nat.le_of_ble_eq_true rfl) rfl (Or.inl ew_178) (hs_h.1 5 (by decide)).1 (hs_h.1 5 (by decide)).2.1 ?_
  refine ea_if_eq (pc := 7) (tgt := 20) dX11_seats_7 rfl (fun c6 => ?_) (fun c6 => ?_)
  · have H := H.1 c6
    refine ea_iconst (pc := 20) dX11_seats_20 (v := (-1)) rfl ?_
    obtain ⟨rfl, rfl⟩ := H
    exact ea_ireturn (pc := 21) dX11_seats_21 rfl rfl
  · have H := H.2 c6
    refine ea_aload_n (pc := 10) dX11_seats_10 rfl 0 rfl ?_
    refine ea_getR (pc := 11) dX11_seats_11 ec_11 (k := 3) (Nat.le_of_ble_eq_true rfl) rfl (Or.inl ew_440) (hs_h.1 0 (by decide)).1 (hs_h.1 0 (by decide)).2.1 (hs_h.2 0 3 rfl) ?_
    refine ea_getI (pc := 14) dX11_seats_14 ec_3 (k := 0) (Nat.le_of_ble_eq_true rfl) rfl (Or.inl ew_262) (hs_h.1 16 (by decide)).1 (hs_h.1 16 (by decide)).2.1 ?_
    refine ea_if_ne (pc := 17) (tgt := 22) dX11_seats_17 rfl (fun c5 => ?_) (fun c5 => ?_)
    · have H := H.1 c5
      refine ea_iload_n (pc := 22) dX11_seats_22 rfl 1 rfl ?_
      refine ea_if_eq (pc := 23) (tgt := 51) dX11_seats_23 rfl (fun c4 => ?_) (fun c4 => ?_)
      · have H := H.1 c4
        exact H
      · have H := H.2 c4
        refine ea_iload_n (pc := 26) dX11_seats_26 rfl 1 rfl ?_
        refine ea_bipush (pc := 27) dX11_seats_27 (v := 10) rfl ?_
        refine ea_icmp_eq (pc := 29) (tgt := 51) dX11_seats_29 rfl (fun c3 => ?_) (fun c3 => ?_)
        · have H := H.1 c3
          exact H
        · have H := H.2 c3
          refine ea_iload_n (pc := 32) dX11_seats_32 rfl 1 rfl ?_
          refine ea_bipush (pc := 33) dX11_seats_33 (v := 11) rfl ?_
          refine ea_icmp_ne (pc := 35) (tgt := 49) dX11_seats_35 rfl (fun c2 => ?_) (fun c2 => ?_)
          · have H := H.1 c2
            refine ea_iconst (pc := 49) dX11_seats_49 (v := (-1)) rfl ?_
            obtain ⟨rfl, rfl⟩ := H
            exact ea_ireturn (pc := 50) dX11_seats_50 rfl rfl
          · have H := H.2 c2
            refine ea_aload_n (pc := 38) dX11_seats_38 rfl 0 rfl ?_
            refine ea_getR (pc := 39) dX11_seats_39 ec_11 (k := 3) (Nat.le_of_ble_eq_true rfl) rfl (Or.inl ew_440) (hs_h.1 0 (by decide)).1 (hs_h.1 0 (by decide)).2.1 (hs_h.2 0 3 rfl) ?_
            refine ea_getI (pc := 42) dX11_seats_42 ec_3 (k := 0) (Nat.le_of_ble_eq_true rfl) rfl (Or.inl ew_262) (hs_h.1 16 (by decide)).1 (hs_h.1 16 (by decide)).2.1 ?_
            refine ea_iconst (pc := 45) dX11_seats_45 (v := 2) rfl ?_
            refine ea_icmp_ge (pc := 46) (tgt := 51) dX11_seats_46 rfl (fun c1 => ?_) (fun c1 => ?_)
            · have H := H.1 c1
              exact H
            · have H := H.2 c1
              refine ea_iconst (pc := 49) dX11_seats_49 (v := (-1)) rfl ?_
              obtain ⟨rfl, rfl⟩ := H
              exact ea_ireturn (pc := 50) dX11_seats_50 rfl rfl
    · have H := H.2 c5
      refine ea_iconst (pc := 20) dX11_seats_20 (v := (-1)) rfl ?_
      obtain ⟨rfl, rfl⟩ := H
      exact ea_ireturn (pc := 21) dX11_seats_21 rfl rfl
theorem pX11_seats_51 {d b0 : Nat} {h0 hE h : ea_H} {rv : Option ea_V} {x1 : Int32} (hd : 1 ≤ d) (hs_h : ShC b0 h) (H : (¬ (ea_i h (b0 + 0) 12) = (0 : Int32) → ea_W mX11_seats d h0 rv hE 62 [(0, vR (some (b0 + 0))), (1, vI x1)] [] h) ∧ ((ea_i h (b0 + 0) 12) = (0 : Int32) → ∃ (d1 : Nat) (h2 : ea_H), ea_Met mX11_seekSeats d1 [vR (some (b0 + 0))] h none h2 ∧ d1 + 1 ≤ d ∧ ShC b0 h2 ∧ ea_W mX11_seats d h0 rv hE 62 [(0, vR (some (b0 + 0))), (1, vI x1)] [] h2)) : ea_W mX11_seats d h0 rv hE 51 [(0, vR (some (b0 + 0))), (1, vI x1)] [] h := by
  refine ea_aload_n (pc := 51) dX11_seats_51 rfl 0 rfl ?_
  refine ea_getI (pc := 52) dX11_seats_52 ec_11 (k := 12) (Nat.le_of_ble_eq_true rfl) rfl (Or.inl ew_449) (hs_h.1 0 (by decide)).1 (hs_h.1 0 (by decide)).2.1 ?_
  refine ea_if_ne (pc := 55) (tgt := 62) dX11_seats_55 rfl (fun c5 => ?_) (fun c5 => ?_)
  · have H := H.1 c5
    exact H
  · have H := H.2 c5
    refine ea_aload_n (pc := 58) dX11_seats_58 rfl 0 rfl ?_
    obtain ⟨d1, h2, m3, q4, hs_h2, H⟩ := H
    refine ea_callV (pc := 59) (As := []) (st := []) dX11_seats_59 kX11_seekSeats m3 q4 rfl (Nat.le_of_ble_eq_true rfl) ew_1333 ew_1335 ew_46 (ci := 11) rfl (by decide) (hs_h.1 0 (by decide)).1 (hs_h.1 0 (by decide)).2.1 ?_
    exact H
theorem pX11_seats_62 {d b0 : Nat} {h0 hE h : ea_H} {rv : Option ea_V} {x1 : Int32} (hd : 1 ≤ d) (hs_h : ShC b0 h) (H : (¬ x1 = (0 : Int32) → (¬ x1 = (10 : Int32) → rv = some (vI (ea_i h (b0 + 0) 15)) ∧ hE = h) ∧ (x1 = (10 : Int32) → rv = some (vI (ea_i h (b0 + 0) 14)) ∧ hE = h)) ∧ (x1 = (0 : Int32) → rv = some (vI (ea_i h (b0 + 0) 13)) ∧ hE = h)) : ea_W mX11_seats d h0 rv hE 62 [(0, vR (some (b0 + 0))), (1, vI x1)] [] h := by
  refine ea_iload_n (pc := 62) dX11_seats_62 rfl 1 rfl ?_
  refine ea_if_ne (pc := 63) (tgt := 71) dX11_seats_63 rfl (fun c2 => ?_) (fun c2 => ?_)
  · have H := H.1 c2
    refine ea_iload_n (pc := 71) dX11_seats_71 rfl 1 rfl ?_
    refine ea_bipush (pc := 72) dX11_seats_72 (v := 10) rfl ?_
    refine ea_icmp_ne (pc := 74) (tgt := 84) dX11_seats_74 rfl (fun c1 => ?_) (fun c1 => ?_)
    · have H := H.1 c1
      refine ea_aload_n (pc := 84) dX11_seats_84 rfl 0 rfl ?_
      refine ea_getI (pc := 85) dX11_seats_85 ec_11 (k := 15) (Nat.le_of_ble_eq_true rfl) rfl (Or.inl ew_452) (hs_h.1 0 (by decide)).1 (hs_h.1 0 (by decide)).2.1 ?_
      obtain ⟨rfl, rfl⟩ := H
      exact ea_ireturn (pc := 88) dX11_seats_88 rfl rfl
    · have H := H.2 c1
      refine ea_aload_n (pc := 77) dX11_seats_77 rfl 0 rfl ?_
      refine ea_getI (pc := 78) dX11_seats_78 ec_11 (k := 14) (Nat.le_of_ble_eq_true rfl) rfl (Or.inl ew_451) (hs_h.1 0 (by decide)).1 (hs_h.1 0 (by decide)).2.1 ?_
      refine ea_goto (pc := 81) (tgt := 88) dX11_seats_81 rfl ?_
      obtain ⟨rfl, rfl⟩ := H
      exact ea_ireturn (pc := 88) dX11_seats_88 rfl rfl
  · have H := H.2 c2
    refine ea_aload_n (pc := 66) dX11_seats_66 rfl 0 rfl ?_
    refine ea_getI (pc := 67) dX11_seats_67 ec_11 (k := 13) (Nat.le_of_ble_eq_true rfl) rfl (Or.inl ew_450) (hs_h.1 0 (by decide)).1 (hs_h.1 0 (by decide)).2.1 ?_
    obtain ⟨rfl, rfl⟩ := H
    exact ea_ireturn (pc := 70) dX11_seats_70 rfl rfl
theorem pX11_franksAhead_0 {d b0 : Nat} {h0 hE h : ea_H} {rv : Option ea_V} {r1 : Option Nat} (hd : 2 ≤ d) (hs_h : ShC b0 h) (H : ea_W mX11_franksAhead d h0 rv hE 4 [(0, vR (some (b0 + 0))), (1, vR r1), (2, vI 0), (3, vI 0)] [] h) : ea_W mX11_franksAhead d h0 rv hE 0 [(0, vR (some (b0 + 0))), (1, vR r1)] [] h := by
  refine ea_iconst (pc := 0) dX11_franksAhead_0 (v := 0) rfl ?_
  refine ea_istore_n (pc := 1) (lv' := [(0, vR (some (b0 + 0))), (1, vR r1), (2, vI 0)]) dX11_franksAhead_1 rfl (Nat.le_of_ble_eq_true rfl) [1, 2, 0] rfl ?_
  refine ea_iconst (pc := 2) dX11_franksAhead_2 (v := 0) rfl ?_
  refine ea_istore_n (pc := 3) (lv' := [(0, vR (some (b0 + 0))), (1, vR r1), (2, vI 0), (3, vI 0)]) dX11_franksAhead_3 rfl (Nat.le_of_ble_eq_true rfl) [1, 2, 3, 0] rfl ?_
  exact H
theorem pX11_franksAhead_4 {d b0 : Nat} {h0 hE h : ea_H} {rv : Option ea_V} {r1 : Option Nat} {x2 : Int32} {x3 : Int32} (hd : 2 ≤ d) (hs_h : ShC b0 h) (H : ((ea_i h (b0 + 32) 0) ≤ x3 → rv = some (vI x2) ∧ hE = h) ∧ (¬ (ea_i h (b0 + 32) 0) ≤ x3 → vp_in x3 120 ∧ ∃ a4, (ea_r h (b0 + 31) (Int32.toNatClampNeg x3)) = some a4 ∧ a4 < ea_n h ∧ ea_c h a4 = 4 ∧ (¬ (ea_i h a4 0) = (2 : Int32) → ea_W mX11_franksAhead d h0 rv hE 4 [(0, vR (some (b0 + 0))), (1, vR r1), (2, vI x2), (3, vI (x3 + 1))] [] h) ∧ ((ea_i h a4 0) = (2 : Int32) → a4 < ea_n h ∧ ea_c h a4 = 4 ∧ ∃ a10, r1 = some a10 ∧ a10 < ea_n h ∧ ea_c h a10 = 4 ∧ (¬ (ea_i h a4 5) = (ea_i h a10 5) → ea_W mX11_franksAhead d h0 rv hE 4 [(0, vR (some (b0 + 0))), (1, vR r1), (2, vI x2), (3, vI (x3 + 1))] [] h) ∧ ((ea_i h a4 5) = (ea_i h a10 5) → a4 < ea_n h ∧ ea_c h a4 = 4 ∧ ∃ (d12 : Nat) (xc18 : Int32) (h13 : ea_H), ea_Met mX4_dayOf d12 [vR (some a4)] h (some (vI xc18)) h13 ∧ d12 + 1 ≤ d ∧ ShC b0 h13 ∧ a10 < ea_n h13 ∧ ea_c h13 a10 = 4 ∧ ∃ (d19 : Nat) (xc25 : Int32) (h20 : ea_H), ea_Met mX4_dayOf d19 [vR (some a10)] h13 (some (vI xc25)) h20 ∧ d19 + 1 ≤ d ∧ ShC b0 h20 ∧ (¬ xc18 = xc25 → ea_W mX11_franksAhead d h0 rv hE 4 [(0, vR (some (b0 + 0))), (1, vR r1), (2, vI x2), (3, vI (x3 + 1))] [] h20) ∧ (xc18 = xc25 → ea_W mX11_franksAhead d h0 rv hE 4 [(0, vR (some (b0 + 0))), (1, vR r1), (2, vI (x2 + 1)), (3, vI (x3 + 1))] [] h20))))) : ea_W mX11_franksAhead d h0 rv hE 4 [(0, vR (some (b0 + 0))), (1, vR r1), (2, vI x2), (3, vI x3)] [] h := by
  refine ea_iload_n (pc := 4) dX11_franksAhead_4 rfl 3 rfl ?_
  refine ea_aload_n (pc := 5) dX11_franksAhead_5 rfl 0 rfl ?_
  refine ea_getR (pc := 6) dX11_franksAhead_6 ec_11 (k := 6) (Nat.le_of_ble_eq_true rfl) rfl (Or.inl ew_443) (hs_h.1 0 (by decide)).1 (hs_h.1 0 (by decide)).2.1 (hs_h.2 0 6 rfl) ?_
  refine ea_getI (pc := 9) dX11_franksAhead_9 ec_1 (k := 0) (Nat.le_of_ble_eq_true rfl) rfl (Or.inl ew_360) (hs_h.1 32 (by decide)).1 (hs_h.1 32 (by decide)).2.1 ?_
  refine ea_icmp_ge (pc := 12) (tgt := 65) dX11_franksAhead_12 rfl (fun c29 => ?_) (fun c29 => ?_)
  · have H := H.1 c29
    refine ea_iload_n (pc := 65) dX11_franksAhead_65 rfl 2 rfl ?_
    obtain ⟨rfl, rfl⟩ := H
    exact ea_ireturn (pc := 66) dX11_franksAhead_66 rfl rfl
  · have H := H.2 c29
    refine ea_aload_n (pc := 15) dX11_franksAhead_15 rfl 0 rfl ?_
    refine ea_getR (pc := 16) dX11_franksAhead_16 ec_11 (k := 5) (Nat.le_of_ble_eq_true rfl) rfl (Or.inl ew_442) (hs_h.1 0 (by decide)).1 (hs_h.1 0 (by decide)).2.1 (hs_h.2 0 5 rfl) ?_
    refine ea_iload_n (pc := 19) dX11_franksAhead_19 rfl 3 rfl ?_
    obtain ⟨z1, H⟩ := H
    refine ea_aald23 (pc := 20) dX11_franksAhead_20 (hs_h.1 31 (by decide)).1 (hs_h.1 31 (by decide)).2.1 (ea_vpl (hs_h.1 31 (by decide)).2.2 z1) rfl ?_
    refine ea_astore (pc := 21) (lv' := [(0, vR (some (b0 + 0))), (1, vR r1), (2, vI x2), (3, vI x3), (4, vR (ea_r h (b0 + 31) (Int32.toNatClampNeg x3)))]) dX11_franksAhead_21 (Nat.le_of_ble_eq_true rfl) [1, 2, 3, 4, 0] rfl ?_
    refine ea_aload (pc := 23) dX11_franksAhead_23 4 rfl ?_
    obtain ⟨a4, e5, f2, g3, H⟩ := H
    refine ea_deref0 e5 ?_
    refine ea_getI (pc := 25) dX11_franksAhead_25 ec_4 (k := 0) (Nat.le_of_ble_eq_true rfl) rfl (Or.inl ew_935) f2 g3 ?_
    refine ea_iconst (pc := 28) dX11_franksAhead_28 (v := 2) rfl ?_
    refine ea_icmp_ne (pc := 29) (tgt := 59) dX11_franksAhead_29 rfl (fun c28 => ?_) (fun c28 => ?_)
    · have H := H.1 c28
      refine ea_iinc (pc := 59) (v := 1) (lv' := [(0, vR (some (b0 + 0))), (1, vR r1), (2, vI x2), (3, vI (x3 + 1))]) dX11_franksAhead_59 3 rfl rfl (Nat.le_of_ble_eq_true rfl) [1, 2, 3, 0] rfl ?_
      refine ea_goto (pc := 62) (tgt := 4) dX11_franksAhead_62 rfl ?_
      exact H
    · have H := H.2 c28
      refine ea_aload (pc := 32) dX11_franksAhead_32 4 rfl ?_
      obtain ⟨f6, g7, H⟩ := H
      refine ea_deref0 e5 ?_
      refine ea_getI (pc := 34) dX11_franksAhead_34 ec_4 (k := 5) (Nat.le_of_ble_eq_true rfl) rfl (Or.inl ew_948) f6 g7 ?_
      refine ea_aload_n (pc := 37) dX11_franksAhead_37 rfl 1 rfl ?_
      obtain ⟨a10, e11, f8, g9, H⟩ := H
      refine ea_deref0 e11 ?_
      refine ea_getI (pc := 38) dX11_franksAhead_38 ec_4 (k := 5) (Nat.le_of_ble_eq_true rfl) rfl (Or.inl ew_948) f8 g9 ?_
      refine ea_icmp_ne (pc := 41) (tgt := 59) dX11_franksAhead_41 rfl (fun c27 => ?_) (fun c27 => ?_)
      · have H := H.1 c27
        refine ea_iinc (pc := 59) (v := 1) (lv' := [(0, vR (some (b0 + 0))), (1, vR r1), (2, vI x2), (3, vI (x3 + 1))]) dX11_franksAhead_59 3 rfl rfl (Nat.le_of_ble_eq_true rfl) [1, 2, 3, 0] rfl ?_
        refine ea_goto (pc := 62) (tgt := 4) dX11_franksAhead_62 rfl ?_
        exact H
      · have H := H.2 c27
        refine ea_aload (pc := 44) dX11_franksAhead_44 4 rfl ?_
        obtain ⟨f16, g17, H⟩ := H
        refine ea_deref0 e5 ?_
        obtain ⟨d12, xc18, h13, m14, q15, hs_h13, H⟩ := H
        refine ea_callV (pc := 46) (As := []) (st := []) dX11_franksAhead_46 kX4_dayOf m14 q15 rfl (Nat.le_of_ble_eq_true rfl) ew_1032 ew_1033 ew_1034 (ci := 4) rfl (by decide) f16 g17 ?_
        refine ea_aload_n (pc := 49) dX11_franksAhead_49 rfl 1 rfl ?_
        obtain ⟨f23, g24, H⟩ := H
        refine ea_deref0 e11 ?_
        obtain ⟨d19, xc25, h20, m21, q22, hs_h20, H⟩ := H
        refine ea_callV (pc := 50) (As := []) (st := [vI xc18]) dX11_franksAhead_50 kX4_dayOf m21 q22 rfl (Nat.le_of_ble_eq_true rfl) ew_1032 ew_1033 ew_1034 (ci := 4) rfl (by decide) f23 g24 ?_
        refine ea_icmp_ne (pc := 53) (tgt := 59) dX11_franksAhead_53 rfl (fun c26 => ?_) (fun c26 => ?_)
        · have H := H.1 c26
          refine ea_iinc (pc := 59) (v := 1) (lv' := [(0, vR (some (b0 + 0))), (1, vR r1), (2, vI x2), (3, vI (x3 + 1))]) dX11_franksAhead_59 3 rfl rfl (Nat.le_of_ble_eq_true rfl) [1, 2, 3, 0] rfl ?_
          refine ea_goto (pc := 62) (tgt := 4) dX11_franksAhead_62 rfl ?_
          exact H
        · have H := H.2 c26
          refine ea_iinc (pc := 56) (v := 1) (lv' := [(0, vR (some (b0 + 0))), (1, vR r1), (2, vI (x2 + 1)), (3, vI x3)]) dX11_franksAhead_56 2 rfl rfl (Nat.le_of_ble_eq_true rfl) [1, 2, 0, 3] rfl ?_
          refine ea_iinc (pc := 59) (v := 1) (lv' := [(0, vR (some (b0 + 0))), (1, vR r1), (2, vI (x2 + 1)), (3, vI (x3 + 1))]) dX11_franksAhead_59 3 rfl rfl (Nat.le_of_ble_eq_true rfl) [1, 2, 3, 0] rfl ?_
          refine ea_goto (pc := 62) (tgt := 4) dX11_franksAhead_62 rfl ?_
          exact H
theorem pX11_owedBetween_0 {d b0 : Nat} {h0 hE h : ea_H} {rv : Option ea_V} {x1 : Int32} {x2 : Int32} {x3 : Int32} (hd : 2 ≤ d) (hs_h : ShC b0 h) (H : ea_W mX11_owedBetween d h0 rv hE 6 [(0, vR (some (b0 + 0))), (1, vI x1), (2, vI x2), (3, vI x3), (4, vI 0), (5, vI 0)] [] h) : ea_W mX11_owedBetween d h0 rv hE 0 [(0, vR (some (b0 + 0))), (1, vI x1), (2, vI x2), (3, vI x3)] [] h := by
  refine ea_iconst (pc := 0) dX11_owedBetween_0 (v := 0) rfl ?_
  refine ea_istore (pc := 1) (lv' := [(0, vR (some (b0 + 0))), (1, vI x1), (2, vI x2), (3, vI x3), (4, vI 0)]) dX11_owedBetween_1 (Nat.le_of_ble_eq_true rfl) [1, 2, 3, 4, 0] rfl ?_
  refine ea_iconst (pc := 3) dX11_owedBetween_3 (v := 0) rfl ?_
  refine ea_istore (pc := 4) (lv' := [(0, vR (some (b0 + 0))), (1, vI x1), (2, vI x2), (3, vI x3), (4, vI 0), (5, vI 0)]) dX11_owedBetween_4 (Nat.le_of_ble_eq_true rfl) [1, 2, 3, 4, 5, 0] rfl ?_
  exact H
theorem pX11_owedBetween_6 {d b0 : Nat} {h0 hE h : ea_H} {rv : Option ea_V} {x1 : Int32} {x2 : Int32} {x3 : Int32} {x4 : Int32} {x5 : Int32} (hd : 2 ≤ d) (hs_h : ShC b0 h) (H : ((ea_i h (b0 + 32) 0) ≤ x5 → rv = some (vI x4) ∧ hE = h) ∧ (¬ (ea_i h (b0 + 32) 0) ≤ x5 → (okX11_isBetween b0 (x5 : Int32) (x1 : Int32) (x2 : Int32) h) ∧ ((vX11_isBetween b0 (x5 : Int32) (x1 : Int32) (x2 : Int32) h) = (0 : Int32) → ea_W mX11_owedBetween d h0 rv hE 6 [(0, vR (some (b0 + 0))), (1, vI x1), (2, vI x2), (3, vI x3), (4, vI x4), (5, vI (x5 + 1))] [] h) ∧ (¬ (vX11_isBetween b0 (x5 : Int32) (x1 : Int32) (x2 : Int32) h) = (0 : Int32) → (x3 = (0 : Int32) → ea_W mX11_owedBetween d h0 rv hE 47 [(0, vR (some (b0 + 0))), (1, vI x1), (2, vI x2), (3, vI x3), (4, vI x4), (5, vI x5)] [] h) ∧ (¬ x3 = (0 : Int32) → vp_in x5 120 ∧ (¬ (ea_i h (b0 + 33) (Int32.toNatClampNeg x5)) = (2 : Int32) → ea_W mX11_owedBetween d h0 rv hE 6 [(0, vR (some (b0 + 0))), (1, vI x1), (2, vI x2), (3, vI x3), (4, vI x4), (5, vI (x5 + 1))] [] h) ∧ ((ea_i h (b0 + 33) (Int32.toNatClampNeg x5)) = (2 : Int32) → ea_W mX11_owedBetween d h0 rv hE 47 [(0, vR (some (b0 + 0))), (1, vI x1), (2, vI x2), (3, vI x3), (4, vI x4), (5, vI x5)] [] h))))) : ea_W mX11_owedBetween d h0 rv hE 6 [(0, vR (some (b0 + 0))), (1, vI x1), (2, vI x2), (3, vI x3), (4, vI x4), (5, vI x5)] [] h := by
  refine ea_iload (pc := 6) dX11_owedBetween_6 5 rfl ?_
  refine ea_aload_n (pc := 8) dX11_owedBetween_8 rfl 0 rfl ?_
  refine ea_getR (pc := 9) dX11_owedBetween_9 ec_11 (k := 6) (Nat.le_of_ble_eq_true rfl) rfl (Or.inl ew_443) (hs_h.1 0 (by decide)).1 (hs_h.1 0 (by decide)).2.1 (hs_h.2 0 6 rfl) ?_
  refine ea_getI (pc := 12) dX11_owedBetween_12 ec_1 (k := 0) (Nat.le_of_ble_eq_true rfl) rfl (Or.inl ew_360) (hs_h.1 32 (by decide)).1 (hs_h.1 32 (by decide)).2.1 ?_
  refine ea_icmp_ge (pc := 15) (tgt := 68) dX11_owedBetween_15 rfl (fun c15 => ?_) (fun c15 => ?_)
  · have H := H.1 c15
    refine ea_iload (pc := 68) dX11_owedBetween_68 4 rfl ?_
    obtain ⟨rfl, rfl⟩ := H
    exact ea_ireturn (pc := 70) dX11_owedBetween_70 rfl rfl
  · have H := H.2 c15
    refine ea_aload_n (pc := 18) dX11_owedBetween_18 rfl 0 rfl ?_
    refine ea_iload (pc := 19) dX11_owedBetween_19 5 rfl ?_
    refine ea_iload_n (pc := 21) dX11_owedBetween_21 rfl 1 rfl ?_
    refine ea_iload_n (pc := 22) dX11_owedBetween_22 rfl 2 rfl ?_
    obtain ⟨z14, H⟩ := H
    refine ea_callV (pc := 23) (d' := d - 1) (As := [vI x5, vI x1, vI x2]) (st := []) dX11_owedBetween_23 kX11_isBetween (sX11_isBetween (d := d - 1) (by omega) hs_h z14) (by omega) rfl (Nat.le_of_ble_eq_true rfl) ew_1166 ew_1168 ew_39 (ci := 11) rfl (by decide) (hs_h.1 0 (by decide)).1 (hs_h.1 0 (by decide)).2.1 ?_
    refine ea_if_eq (pc := 26) (tgt := 62) dX11_owedBetween_26 rfl (fun c13 => ?_) (fun c13 => ?_)
    · have H := H.1 c13
      refine ea_iinc (pc := 62) (v := 1) (lv' := [(0, vR (some (b0 + 0))), (1, vI x1), (2, vI x2), (3, vI x3), (4, vI x4), (5, vI (x5 + 1))]) dX11_owedBetween_62 5 rfl rfl (Nat.le_of_ble_eq_true rfl) [1, 2, 3, 4, 5, 0] rfl ?_
      refine ea_goto (pc := 65) (tgt := 6) dX11_owedBetween_65 rfl ?_
      exact H
    · have H := H.2 c13
      refine ea_iload_n (pc := 29) dX11_owedBetween_29 rfl 3 rfl ?_
      refine ea_if_eq (pc := 30) (tgt := 47) dX11_owedBetween_30 rfl (fun c12 => ?_) (fun c12 => ?_)
      · have H := H.1 c12
        exact H
      · have H := H.2 c12
        refine ea_aload_n (pc := 33) dX11_owedBetween_33 rfl 0 rfl ?_
        refine ea_getR (pc := 34) dX11_owedBetween_34 ec_11 (k := 6) (Nat.le_of_ble_eq_true rfl) rfl (Or.inl ew_443) (hs_h.1 0 (by decide)).1 (hs_h.1 0 (by decide)).2.1 (hs_h.2 0 6 rfl) ?_
        refine ea_getR (pc := 37) dX11_owedBetween_37 ec_1 (k := 1) (Nat.le_of_ble_eq_true rfl) rfl (Or.inl ew_362) (hs_h.1 32 (by decide)).1 (hs_h.1 32 (by decide)).2.1 (hs_h.2 32 1 rfl) ?_
        refine ea_iload (pc := 40) dX11_owedBetween_40 5 rfl ?_
        obtain ⟨z10, H⟩ := H
        refine ea_iald (pc := 42) dX11_owedBetween_42 (hs_h.1 33 (by decide)).1 (hs_h.1 33 (by decide)).2.1 (ea_vpl (hs_h.1 33 (by decide)).2.2 z10) ?_
        refine ea_iconst (pc := 43) dX11_owedBetween_43 (v := 2) rfl ?_
        refine ea_icmp_ne (pc := 44) (tgt := 62) dX11_owedBetween_44 rfl (fun c11 => ?_) (fun c11 => ?_)
        · have H := H.1 c11
          refine ea_iinc (pc := 62) (v := 1) (lv' := [(0, vR (some (b0 + 0))), (1, vI x1), (2, vI x2), (3, vI x3), (4, vI x4), (5, vI (x5 + 1))]) dX11_owedBetween_62 5 rfl rfl (Nat.le_of_ble_eq_true rfl) [1, 2, 3, 4, 5, 0] rfl ?_
          refine ea_goto (pc := 65) (tgt := 6) dX11_owedBetween_65 rfl ?_
          exact H
        · have H := H.2 c11
          exact H
theorem pX11_owedBetween_47 {d b0 : Nat} {h0 hE h : ea_H} {rv : Option ea_V} {x1 : Int32} {x2 : Int32} {x3 : Int32} {x4 : Int32} {x5 : Int32} (hd : 2 ≤ d) (hs_h : ShC b0 h) (H : vp_in x5 120 ∧ ∃ a8, (ea_r h (b0 + 31) (Int32.toNatClampNeg x5)) = some a8 ∧ a8 < ea_n h ∧ ea_c h a8 = 4 ∧ ∃ (d2 : Nat) (xc10 : Int32) (h3 : ea_H), ea_Met mX4_owed d2 [vR (some a8)] h (some (vI xc10)) h3 ∧ d2 + 1 ≤ d ∧ ShC b0 h3 ∧ ea_W mX11_owedBetween d h0 rv hE 6 [(0, vR (some (b0 + 0))), (1, vI x1), (2, vI x2), (3, vI x3), (4, vI (x4 + xc10)), (5, vI (x5 + 1))] [] h3) : ea_W mX11_owedBetween d h0 rv hE 47 [(0, vR (some (b0 + 0))), (1, vI x1), (2, vI x2), (3, vI x3), (4, vI x4), (5, vI x5)] [] h := by
  refine ea_iload (pc := 47) dX11_owedBetween_47 4 rfl ?_
  refine ea_aload_n (pc := 49) dX11_owedBetween_49 rfl 0 rfl ?_
  refine ea_getR (pc := 50) dX11_owedBetween_50 ec_11 (k := 5) (Nat.le_of_ble_eq_true rfl) rfl (Or.inl ew_442) (hs_h.1 0 (by decide)).1 (hs_h.1 0 (by decide)).2.1 (hs_h.2 0 5 rfl) ?_
  refine ea_iload (pc := 53) dX11_owedBetween_53 5 rfl ?_
  obtain ⟨z1, H⟩ := H
  refine ea_aald23 (pc := 55) dX11_owedBetween_55 (hs_h.1 31 (by decide)).1 (hs_h.1 31 (by decide)).2.1 (ea_vpl (hs_h.1 31 (by decide)).2.2 z1) rfl ?_
  obtain ⟨a8, e9, f6, g7, H⟩ := H
  refine ea_deref0 e9 ?_
  obtain ⟨d2, xc10, h3, m4, q5, hs_h3, H⟩ := H
  refine ea_callV (pc := 56) (As := []) (st := [vI x4]) dX11_owedBetween_56 kX4_owed m4 q5 rfl (Nat.le_of_ble_eq_true rfl) ew_1084 ew_1085 ew_1086 (ci := 4) rfl (by decide) f6 g7 ?_
  refine ea_iadd (pc := 59) dX11_owedBetween_59 ?_
  refine ea_istore (pc := 60) (lv' := [(0, vR (some (b0 + 0))), (1, vI x1), (2, vI x2), (3, vI x3), (4, vI (x4 + xc10)), (5, vI x5)]) dX11_owedBetween_60 (Nat.le_of_ble_eq_true rfl) [1, 2, 3, 4, 0, 5] rfl ?_
  refine ea_iinc (pc := 62) (v := 1) (lv' := [(0, vR (some (b0 + 0))), (1, vI x1), (2, vI x2), (3, vI x3), (4, vI (x4 + xc10)), (5, vI (x5 + 1))]) dX11_owedBetween_62 5 rfl rfl (Nat.le_of_ble_eq_true rfl) [1, 2, 3, 4, 5, 0] rfl ?_
  refine ea_goto (pc := 65) (tgt := 6) dX11_owedBetween_65 rfl ?_
  exact H
theorem pX11_differing_0 {d b0 : Nat} {h0 hE h : ea_H} {rv : Option ea_V} {x1 : Int32} {x2 : Int32} (hd : 3 ≤ d) (hs_h : ShC b0 h) (H : ea_W mX11_differing d h0 rv hE 5 [(0, vR (some (b0 + 0))), (1, vI x1), (2, vI x2), (3, vI 0), (4, vI 0)] [] h) : ea_W mX11_differing d h0 rv hE 0 [(0, vR (some (b0 + 0))), (1, vI x1), (2, vI x2)] [] h := by
  refine ea_iconst (pc := 0) dX11_differing_0 (v := 0) rfl ?_
  refine ea_istore_n (pc := 1) (lv' := [(0, vR (some (b0 + 0))), (1, vI x1), (2, vI x2), (3, vI 0)]) dX11_differing_1 rfl (Nat.le_of_ble_eq_true rfl) [1, 2, 3, 0] rfl ?_
  refine ea_iconst (pc := 2) dX11_differing_2 (v := 0) rfl ?_
  refine ea_istore (pc := 3) (lv' := [(0, vR (some (b0 + 0))), (1, vI x1), (2, vI x2), (3, vI 0), (4, vI 0)]) dX11_differing_3 (Nat.le_of_ble_eq_true rfl) [1, 2, 3, 4, 0] rfl ?_
  exact H
theorem pX11_differing_5 {d b0 : Nat} {h0 hE h : ea_H} {rv : Option ea_V} {x1 : Int32} {x2 : Int32} {x3 : Int32} {x4 : Int32} (hd : 3 ≤ d) (hs_h : ShC b0 h) (H : ((ea_i h (b0 + 32) 0) ≤ x4 → rv = some (vI x3) ∧ hE = h) ∧ (¬ (ea_i h (b0 + 32) 0) ≤ x4 → (okX11_differs b0 (x4 : Int32) (x1 : Int32) (x2 : Int32) h) ∧ ((vX11_differs b0 (x4 : Int32) (x1 : Int32) (x2 : Int32) h) = (0 : Int32) → ea_W mX11_differing d h0 rv hE 5 [(0, vR (some (b0 + 0))), (1, vI x1), (2, vI x2), (3, vI x3), (4, vI (x4 + 1))] [] h) ∧ (¬ (vX11_differs b0 (x4 : Int32) (x1 : Int32) (x2 : Int32) h) = (0 : Int32) → ea_W mX11_differing d h0 rv hE 5 [(0, vR (some (b0 + 0))), (1, vI x1), (2, vI x2), (3, vI (x3 + 1)), (4, vI (x4 + 1))] [] h))) : ea_W mX11_differing d h0 rv hE 5 [(0, vR (some (b0 + 0))), (1, vI x1), (2, vI x2), (3, vI x3), (4, vI x4)] [] h := by
  refine ea_iload (pc := 5) dX11_differing_5 4 rfl ?_
  refine ea_aload_n (pc := 7) dX11_differing_7 rfl 0 rfl ?_
  refine ea_getR (pc := 8) dX11_differing_8 ec_11 (k := 6) (Nat.le_of_ble_eq_true rfl) rfl (Or.inl ew_443) (hs_h.1 0 (by decide)).1 (hs_h.1 0 (by decide)).2.1 (hs_h.2 0 6 rfl) ?_
  refine ea_getI (pc := 11) dX11_differing_11 ec_1 (k := 0) (Nat.le_of_ble_eq_true rfl) rfl (Or.inl ew_360) (hs_h.1 32 (by decide)).1 (hs_h.1 32 (by decide)).2.1 ?_
  refine ea_icmp_ge (pc := 14) (tgt := 37) dX11_differing_14 rfl (fun c9 => ?_) (fun c9 => ?_)
  · have H := H.1 c9
    refine ea_iload_n (pc := 37) dX11_differing_37 rfl 3 rfl ?_
    obtain ⟨rfl, rfl⟩ := H
    exact ea_ireturn (pc := 38) dX11_differing_38 rfl rfl
  · have H := H.2 c9
    refine ea_aload_n (pc := 17) dX11_differing_17 rfl 0 rfl ?_
    refine ea_iload (pc := 18) dX11_differing_18 4 rfl ?_
    refine ea_iload_n (pc := 20) dX11_differing_20 rfl 1 rfl ?_
    refine ea_iload_n (pc := 21) dX11_differing_21 rfl 2 rfl ?_
    obtain ⟨z8, H⟩ := H
    refine ea_callV (pc := 22) (d' := d - 1) (As := [vI x4, vI x1, vI x2]) (st := []) dX11_differing_22 kX11_differs (sX11_differs (d := d - 1) (by omega) hs_h z8) (by omega) rfl (Nat.le_of_ble_eq_true rfl) ew_1174 ew_1176 ew_41 (ci := 11) rfl (by decide) (hs_h.1 0 (by decide)).1 (hs_h.1 0 (by decide)).2.1 ?_
    refine ea_if_eq (pc := 25) (tgt := 31) dX11_differing_25 rfl (fun c7 => ?_) (fun c7 => ?_)
    · have H := H.1 c7
      refine ea_iinc (pc := 31) (v := 1) (lv' := [(0, vR (some (b0 + 0))), (1, vI x1), (2, vI x2), (3, vI x3), (4, vI (x4 + 1))]) dX11_differing_31 4 rfl rfl (Nat.le_of_ble_eq_true rfl) [1, 2, 3, 4, 0] rfl ?_
      refine ea_goto (pc := 34) (tgt := 5) dX11_differing_34 rfl ?_
      exact H
    · have H := H.2 c7
      refine ea_iinc (pc := 28) (v := 1) (lv' := [(0, vR (some (b0 + 0))), (1, vI x1), (2, vI x2), (3, vI (x3 + 1)), (4, vI x4)]) dX11_differing_28 3 rfl rfl (Nat.le_of_ble_eq_true rfl) [1, 2, 3, 0, 4] rfl ?_
      refine ea_iinc (pc := 31) (v := 1) (lv' := [(0, vR (some (b0 + 0))), (1, vI x1), (2, vI x2), (3, vI (x3 + 1)), (4, vI (x4 + 1))]) dX11_differing_31 4 rfl rfl (Nat.le_of_ble_eq_true rfl) [1, 2, 3, 4, 0] rfl ?_
      refine ea_goto (pc := 34) (tgt := 5) dX11_differing_34 rfl ?_
      exact H
theorem pX11_differingLetter_0 {d b0 : Nat} {h0 hE h : ea_H} {rv : Option ea_V} {x1 : Int32} {x2 : Int32} {x3 : Int32} (hd : 3 ≤ d) (hs_h : ShC b0 h) (H : ea_W mX11_differingLetter d h0 rv hE 6 [(0, vR (some (b0 + 0))), (1, vI x1), (2, vI x2), (3, vI x3), (4, vI 0), (5, vI 0)] [] h) : ea_W mX11_differingLetter d h0 rv hE 0 [(0, vR (some (b0 + 0))), (1, vI x1), (2, vI x2), (3, vI x3)] [] h := by
  refine ea_iconst (pc := 0) dX11_differingLetter_0 (v := 0) rfl ?_
  refine ea_istore (pc := 1) (lv' := [(0, vR (some (b0 + 0))), (1, vI x1), (2, vI x2), (3, vI x3), (4, vI 0)]) dX11_differingLetter_1 (Nat.le_of_ble_eq_true rfl) [1, 2, 3, 4, 0] rfl ?_
  refine ea_iconst (pc := 3) dX11_differingLetter_3 (v := 0) rfl ?_
  refine ea_istore (pc := 4) (lv' := [(0, vR (some (b0 + 0))), (1, vI x1), (2, vI x2), (3, vI x3), (4, vI 0), (5, vI 0)]) dX11_differingLetter_4 (Nat.le_of_ble_eq_true rfl) [1, 2, 3, 4, 5, 0] rfl ?_
  exact H
theorem pX11_differingLetter_6 {d b0 : Nat} {h0 hE h : ea_H} {rv : Option ea_V} {x1 : Int32} {x2 : Int32} {x3 : Int32} {x4 : Int32} {x5 : Int32} (hd : 3 ≤ d) (hs_h : ShC b0 h) (H : ((ea_i h (b0 + 32) 0) ≤ x5 → rv = some (vI (-1)) ∧ hE = h) ∧ (¬ (ea_i h (b0 + 32) 0) ≤ x5 → (okX11_differs b0 (x5 : Int32) (x1 : Int32) (x2 : Int32) h) ∧ ((vX11_differs b0 (x5 : Int32) (x1 : Int32) (x2 : Int32) h) = (0 : Int32) → ea_W mX11_differingLetter d h0 rv hE 6 [(0, vR (some (b0 + 0))), (1, vI x1), (2, vI x2), (3, vI x3), (4, vI x4), (5, vI (x5 + 1))] [] h) ∧ (¬ (vX11_differs b0 (x5 : Int32) (x1 : Int32) (x2 : Int32) h) = (0 : Int32) → (¬ x4 = x3 → ea_W mX11_differingLetter d h0 rv hE 6 [(0, vR (some (b0 + 0))), (1, vI x1), (2, vI x2), (3, vI x3), (4, vI (x4 + 1)), (5, vI (x5 + 1))] [] h) ∧ (x4 = x3 → rv = some (vI x5) ∧ hE = h)))) : ea_W mX11_differingLetter d h0 rv hE 6 [(0, vR (some (b0 + 0))), (1, vI x1), (2, vI x2), (3, vI x3), (4, vI x4), (5, vI x5)] [] h := by
  refine ea_iload (pc := 6) dX11_differingLetter_6 5 rfl ?_
  refine ea_aload_n (pc := 8) dX11_differingLetter_8 rfl 0 rfl ?_
  refine ea_getR (pc := 9) dX11_differingLetter_9 ec_11 (k := 6) (Nat.le_of_ble_eq_true rfl) rfl (Or.inl ew_443) (hs_h.1 0 (by decide)).1 (hs_h.1 0 (by decide)).2.1 (hs_h.2 0 6 rfl) ?_
  refine ea_getI (pc := 12) dX11_differingLetter_12 ec_1 (k := 0) (Nat.le_of_ble_eq_true rfl) rfl (Or.inl ew_360) (hs_h.1 32 (by decide)).1 (hs_h.1 32 (by decide)).2.1 ?_
  refine ea_icmp_ge (pc := 15) (tgt := 47) dX11_differingLetter_15 rfl (fun c11 => ?_) (fun c11 => ?_)
  · have H := H.1 c11
    refine ea_iconst (pc := 47) dX11_differingLetter_47 (v := (-1)) rfl ?_
    obtain ⟨rfl, rfl⟩ := H
    exact ea_ireturn (pc := 48) dX11_differingLetter_48 rfl rfl
  · have H := H.2 c11
    refine ea_aload_n (pc := 18) dX11_differingLetter_18 rfl 0 rfl ?_
    refine ea_iload (pc := 19) dX11_differingLetter_19 5 rfl ?_
    refine ea_iload_n (pc := 21) dX11_differingLetter_21 rfl 1 rfl ?_
    refine ea_iload_n (pc := 22) dX11_differingLetter_22 rfl 2 rfl ?_
    obtain ⟨z10, H⟩ := H
    refine ea_callV (pc := 23) (d' := d - 1) (As := [vI x5, vI x1, vI x2]) (st := []) dX11_differingLetter_23 kX11_differs (sX11_differs (d := d - 1) (by omega) hs_h z10) (by omega) rfl (Nat.le_of_ble_eq_true rfl) ew_1174 ew_1176 ew_41 (ci := 11) rfl (by decide) (hs_h.1 0 (by decide)).1 (hs_h.1 0 (by decide)).2.1 ?_
    refine ea_if_eq (pc := 26) (tgt := 41) dX11_differingLetter_26 rfl (fun c9 => ?_) (fun c9 => ?_)
    · have H := H.1 c9
      refine ea_iinc (pc := 41) (v := 1) (lv' := [(0, vR (some (b0 + 0))), (1, vI x1), (2, vI x2), (3, vI x3), (4, vI x4), (5, vI (x5 + 1))]) dX11_differingLetter_41 5 rfl rfl (Nat.le_of_ble_eq_true rfl) [1, 2, 3, 4, 5, 0] rfl ?_
      refine ea_goto (pc := 44) (tgt := 6) dX11_differingLetter_44 rfl ?_
      exact H
    · have H := H.2 c9
      refine ea_iload (pc := 29) dX11_differingLetter_29 4 rfl ?_
      refine ea_iload_n (pc := 31) dX11_differingLetter_31 rfl 3 rfl ?_
      refine ea_icmp_ne (pc := 32) (tgt := 38) dX11_differingLetter_32 rfl (fun c8 => ?_) (fun c8 => ?_)
      · have H := H.1 c8
        refine ea_iinc (pc := 38) (v := 1) (lv' := [(0, vR (some (b0 + 0))), (1, vI x1), (2, vI x2), (3, vI x3), (4, vI (x4 + 1)), (5, vI x5)]) dX11_differingLetter_38 4 rfl rfl (Nat.le_of_ble_eq_true rfl) [1, 2, 3, 4, 0, 5] rfl ?_
        refine ea_iinc (pc := 41) (v := 1) (lv' := [(0, vR (some (b0 + 0))), (1, vI x1), (2, vI x2), (3, vI x3), (4, vI (x4 + 1)), (5, vI (x5 + 1))]) dX11_differingLetter_41 5 rfl rfl (Nat.le_of_ble_eq_true rfl) [1, 2, 3, 4, 5, 0] rfl ?_
        refine ea_goto (pc := 44) (tgt := 6) dX11_differingLetter_44 rfl ?_
        exact H
      · have H := H.2 c8
        refine ea_iload (pc := 35) dX11_differingLetter_35 5 rfl ?_
        obtain ⟨rfl, rfl⟩ := H
        exact ea_ireturn (pc := 37) dX11_differingLetter_37 rfl rfl
theorem pX11_isUnderWay_0 {d b0 : Nat} {h0 hE h : ea_H} {rv : Option ea_V} {x1 : Int32} {x2 : Int32} (hd : 2 ≤ d) (hs_h : ShC b0 h) (H : ∃ (d1 : Nat) (xc5 : Int32) (h2 : ea_H), ea_Met mX9_goneFrom d1 [vR (some (b0 + 5)), vI x1, vI x2, vI (ea_i h (b0 + 0) 11)] h (some (vI xc5)) h2 ∧ d1 + 1 ≤ d ∧ ShC b0 h2 ∧ (xc5 = ((-1) : Int32) → rv = some (vI 0) ∧ hE = h2) ∧ (¬ xc5 = ((-1) : Int32) → (okX9_comesAt b0 (x1 : Int32) (x2 : Int32) ((xc5 + (1 : Int32)) : Int32) h2) ∧ ((vX9_comesAt b0 (x1 : Int32) (x2 : Int32) ((xc5 + (1 : Int32)) : Int32) h2) ≤ (ea_i h2 (b0 + 0) 11) → rv = some (vI 0) ∧ hE = h2) ∧ (¬ (vX9_comesAt b0 (x1 : Int32) (x2 : Int32) ((xc5 + (1 : Int32)) : Int32) h2) ≤ (ea_i h2 (b0 + 0) 11) → rv = some (vI 1) ∧ hE = h2))) : ea_W mX11_isUnderWay d h0 rv hE 0 [(0, vR (some (b0 + 0))), (1, vI x1), (2, vI x2)] [] h := by
  refine ea_aload_n (pc := 0) dX11_isUnderWay_0 rfl 0 rfl ?_
  refine ea_getR (pc := 1) dX11_isUnderWay_1 ec_11 (k := 1) (Nat.le_of_ble_eq_true rfl) rfl (Or.inl ew_438) (hs_h.1 0 (by decide)).1 (hs_h.1 0 (by decide)).2.1 (hs_h.2 0 1 rfl) ?_
  refine ea_iload_n (pc := 4) dX11_isUnderWay_4 rfl 1 rfl ?_
  refine ea_iload_n (pc := 5) dX11_isUnderWay_5 rfl 2 rfl ?_
  refine ea_aload_n (pc := 6) dX11_isUnderWay_6 rfl 0 rfl ?_
  refine ea_getI (pc := 7) dX11_isUnderWay_7 ec_11 (k := 11) (Nat.le_of_ble_eq_true rfl) rfl (Or.inl ew_448) (hs_h.1 0 (by decide)).1 (hs_h.1 0 (by decide)).2.1 ?_
  obtain ⟨d1, xc5, h2, m3, q4, hs_h2, H⟩ := H
  refine ea_callV (pc := 10) (As := [vI x1, vI x2, vI (ea_i h (b0 + 0) 11)]) (st := []) dX11_isUnderWay_10 kX9_goneFrom m3 q4 rfl (Nat.le_of_ble_eq_true rfl) ew_1153 ew_1154 ew_1155 (ci := 9) rfl (by decide) (hs_h.1 5 (by decide)).1 (hs_h.1 5 (by decide)).2.1 ?_
  refine ea_istore_n (pc := 13) (lv' := [(0, vR (some (b0 + 0))), (1, vI x1), (2, vI x2), (3, vI xc5)]) dX11_isUnderWay_13 rfl (Nat.le_of_ble_eq_true rfl) [1, 2, 3, 0] rfl ?_
  refine ea_iload_n (pc := 14) dX11_isUnderWay_14 rfl 3 rfl ?_
  refine ea_iconst (pc := 15) dX11_isUnderWay_15 (v := (-1)) rfl ?_
  refine ea_icmp_eq (pc := 16) (tgt := 42) dX11_isUnderWay_16 rfl (fun c14 => ?_) (fun c14 => ?_)
  · have H := H.1 c14
    refine ea_iconst (pc := 42) dX11_isUnderWay_42 (v := 0) rfl ?_
    obtain ⟨rfl, rfl⟩ := H
    exact ea_ireturn (pc := 43) dX11_isUnderWay_43 rfl (ea_bn (Or.inl rfl))
  · have H := H.2 c14
    refine ea_aload_n (pc := 19) dX11_isUnderWay_19 rfl 0 rfl ?_
    refine ea_getR (pc := 20) dX11_isUnderWay_20 ec_11 (k := 1) (Nat.le_of_ble_eq_true rfl) rfl (Or.inl ew_438) (hs_h2.1 0 (by decide)).1 (hs_h2.1 0 (by decide)).2.1 (hs_h2.2 0 1 rfl) ?_
    refine ea_iload_n (pc := 23) dX11_isUnderWay_23 rfl 1 rfl ?_
    refine ea_iload_n (pc := 24) dX11_isUnderWay_24 rfl 2 rfl ?_
    refine ea_iload_n (pc := 25) dX11_isUnderWay_25 rfl 3 rfl ?_
    refine ea_iconst (pc := 26) dX11_isUnderWay_26 (v := 1) rfl ?_
    refine ea_iadd (pc := 27) dX11_isUnderWay_27 ?_
    obtain ⟨z13, H⟩ := H
    refine ea_callV (pc := 28) (d' := d - 1) (As := [vI x1, vI x2, vI (xc5 + (1 : Int32))]) (st := []) dX11_isUnderWay_28 kX9_comesAt (sX9_comesAt (d := d - 1) (by omega) hs_h2 z13) (by omega) rfl (Nat.le_of_ble_eq_true rfl) ew_551 ew_552 ew_553 (ci := 9) rfl (by decide) (hs_h2.1 5 (by decide)).1 (hs_h2.1 5 (by decide)).2.1 ?_
    refine ea_aload_n (pc := 31) dX11_isUnderWay_31 rfl 0 rfl ?_
    refine ea_getI (pc := 32) dX11_isUnderWay_32 ec_11 (k := 11) (Nat.le_of_ble_eq_true rfl) rfl (Or.inl ew_448) (hs_h2.1 0 (by decide)).1 (hs_h2.1 0 (by decide)).2.1 ?_
    refine ea_icmp_le (pc := 35) (tgt := 42) dX11_isUnderWay_35 rfl (fun c12 => ?_) (fun c12 => ?_)
    · have H := H.1 c12
      refine ea_iconst (pc := 42) dX11_isUnderWay_42 (v := 0) rfl ?_
      obtain ⟨rfl, rfl⟩ := H
      exact ea_ireturn (pc := 43) dX11_isUnderWay_43 rfl (ea_bn (Or.inl rfl))
    · have H := H.2 c12
      refine ea_iconst (pc := 38) dX11_isUnderWay_38 (v := 1) rfl ?_
      refine ea_goto (pc := 39) (tgt := 43) dX11_isUnderWay_39 rfl ?_
      obtain ⟨rfl, rfl⟩ := H
      exact ea_ireturn (pc := 43) dX11_isUnderWay_43 rfl (ea_bn (Or.inr rfl))
theorem pX11_outcome_0 {d b0 : Nat} {h0 hE h : ea_H} {rv : Option ea_V}  (hd : 1 ≤ d) (hs_h : ShC b0 h) (H : ∃ (d1 : Nat) (h2 : ea_H), ea_Met mX1_copy d1 [vR (some (b0 + 42)), vR (some (b0 + 32))] h none h2 ∧ d1 + 1 ≤ d ∧ ShC b0 h2 ∧ ∃ (d5 : Nat) (h6 : ea_H), ea_Met mX1_carry d5 [vR (some (b0 + 42)), vI (ea_i h2 (b0 + 0) 11), vI 10079] h2 none h6 ∧ d5 + 1 ≤ d ∧ ShC b0 h6 ∧ ∃ (d9 : Nat) (xc13 : Int32) (h10 : ea_H), ea_Met mX1_sumOfMinutes d9 [vR (some (b0 + 42))] h6 (some (vI xc13)) h10 ∧ d9 + 1 ≤ d ∧ ShC b0 h10 ∧ rv = some (vI xc13) ∧ hE = h10) : ea_W mX11_outcome d h0 rv hE 0 [(0, vR (some (b0 + 0)))] [] h := by
  refine ea_aload_n (pc := 0) dX11_outcome_0 rfl 0 rfl ?_
  refine ea_getR (pc := 1) dX11_outcome_1 ec_11 (k := 7) (Nat.le_of_ble_eq_true rfl) rfl (Or.inl ew_444) (hs_h.1 0 (by decide)).1 (hs_h.1 0 (by decide)).2.1 (hs_h.2 0 7 rfl) ?_
  refine ea_aload_n (pc := 4) dX11_outcome_4 rfl 0 rfl ?_
  refine ea_getR (pc := 5) dX11_outcome_5 ec_11 (k := 6) (Nat.le_of_ble_eq_true rfl) rfl (Or.inl ew_443) (hs_h.1 0 (by decide)).1 (hs_h.1 0 (by decide)).2.1 (hs_h.2 0 6 rfl) ?_
  obtain ⟨d1, h2, m3, q4, hs_h2, H⟩ := H
  refine ea_callV (pc := 8) (As := [vR (some (b0 + 32))]) (st := []) dX11_outcome_8 kX1_copy m3 q4 rfl (Nat.le_of_ble_eq_true rfl) ew_1320 ew_1321 ew_1322 (ci := 1) rfl (by decide) (hs_h.1 42 (by decide)).1 (hs_h.1 42 (by decide)).2.1 ?_
  refine ea_aload_n (pc := 11) dX11_outcome_11 rfl 0 rfl ?_
  refine ea_getR (pc := 12) dX11_outcome_12 ec_11 (k := 7) (Nat.le_of_ble_eq_true rfl) rfl (Or.inl ew_444) (hs_h2.1 0 (by decide)).1 (hs_h2.1 0 (by decide)).2.1 (hs_h2.2 0 7 rfl) ?_
  refine ea_aload_n (pc := 15) dX11_outcome_15 rfl 0 rfl ?_
  refine ea_getI (pc := 16) dX11_outcome_16 ec_11 (k := 11) (Nat.le_of_ble_eq_true rfl) rfl (Or.inl ew_448) (hs_h2.1 0 (by decide)).1 (hs_h2.1 0 (by decide)).2.1 ?_
  refine ea_sipush (pc := 19) dX11_outcome_19 (v := 10079) rfl ?_
  obtain ⟨d5, h6, m7, q8, hs_h6, H⟩ := H
  refine ea_callV (pc := 22) (As := [vI (ea_i h2 (b0 + 0) 11), vI 10079]) (st := []) dX11_outcome_22 kX1_carry m7 q8 rfl (Nat.le_of_ble_eq_true rfl) ew_559 ew_560 ew_561 (ci := 1) rfl (by decide) (hs_h2.1 42 (by decide)).1 (hs_h2.1 42 (by decide)).2.1 ?_
  refine ea_aload_n (pc := 25) dX11_outcome_25 rfl 0 rfl ?_
  refine ea_getR (pc := 26) dX11_outcome_26 ec_11 (k := 7) (Nat.le_of_ble_eq_true rfl) rfl (Or.inl ew_444) (hs_h6.1 0 (by decide)).1 (hs_h6.1 0 (by decide)).2.1 (hs_h6.2 0 7 rfl) ?_
  obtain ⟨d9, xc13, h10, m11, q12, hs_h10, H⟩ := H
  refine ea_callV (pc := 29) (As := []) (st := []) dX11_outcome_29 kX1_sumOfMinutes m11 q12 rfl (Nat.le_of_ble_eq_true rfl) ew_1325 ew_1326 ew_1327 (ci := 1) rfl (by decide) (hs_h6.1 42 (by decide)).1 (hs_h6.1 42 (by decide)).2.1 ?_
  obtain ⟨rfl, rfl⟩ := H
  exact ea_ireturn (pc := 32) dX11_outcome_32 rfl rfl
theorem pX11_seekSeats_0 {d b0 : Nat} {h0 hE h : ea_H} {rv : Option ea_V}  (hd : 1 ≤ d) (hs_h : ShC b0 h) (H : ((ea_i h (b0 + 16) 0) ≤ (1 : Int32) → ∀ h3, h3 = ea_wi h (b0 + 0) 13 2147483647 → ea_W mX11_seekSeats d h0 rv hE 53 [(0, vR (some (b0 + 0))), (1, vI (ea_i h (b0 + 17) (Int32.toNatClampNeg 0))), (2, vI (ea_i h (b0 + 17) (Int32.toNatClampNeg 1))), (3, vI 1), (4, vI 0)] [] h3) ∧ (¬ (ea_i h (b0 + 16) 0) ≤ (1 : Int32) → ∀ h5, h5 = ea_wi h (b0 + 0) 13 2147483647 → ea_W mX11_seekSeats d h0 rv hE 53 [(0, vR (some (b0 + 0))), (1, vI (ea_i h (b0 + 17) (Int32.toNatClampNeg 0))), (2, vI (ea_i h (b0 + 17) (Int32.toNatClampNeg 1))), (3, vI (ea_i h (b0 + 5) 0)), (4, vI 0)] [] h5)) : ea_W mX11_seekSeats d h0 rv hE 0 [(0, vR (some (b0 + 0)))] [] h := by
  refine ea_aload_n (pc := 0) dX11_seekSeats_0 rfl 0 rfl ?_
  refine ea_getR (pc := 1) dX11_seekSeats_1 ec_11 (k := 3) (Nat.le_of_ble_eq_true rfl) rfl (Or.inl ew_440) (hs_h.1 0 (by decide)).1 (hs_h.1 0 (by decide)).2.1 (hs_h.2 0 3 rfl) ?_
  refine ea_getR (pc := 4) dX11_seekSeats_4 ec_3 (k := 1) (Nat.le_of_ble_eq_true rfl) rfl (Or.inl ew_264) (hs_h.1 16 (by decide)).1 (hs_h.1 16 (by decide)).2.1 (hs_h.2 16 1 rfl) ?_
  refine ea_iconst (pc := 7) dX11_seekSeats_7 (v := 0) rfl ?_
  refine ea_iald (pc := 8) dX11_seekSeats_8 (hs_h.1 17 (by decide)).1 (hs_h.1 17 (by decide)).2.1 (ea_vpl (n := 8) (hs_h.1 17 (by decide)).2.2 (by unfold vp_in; decide)) ?_
  refine ea_istore_n (pc := 9) (lv' := [(0, vR (some (b0 + 0))), (1, vI (ea_i h (b0 + 17) (Int32.toNatClampNeg 0)))]) dX11_seekSeats_9 rfl (Nat.le_of_ble_eq_true rfl) [1, 0] rfl ?_
  refine ea_aload_n (pc := 10) dX11_seekSeats_10 rfl 0 rfl ?_
  refine ea_getR (pc := 11) dX11_seekSeats_11 ec_11 (k := 3) (Nat.le_of_ble_eq_true rfl) rfl (Or.inl ew_440) (hs_h.1 0 (by decide)).1 (hs_h.1 0 (by decide)).2.1 (hs_h.2 0 3 rfl) ?_
  refine ea_getR (pc := 14) dX11_seekSeats_14 ec_3 (k := 1) (Nat.le_of_ble_eq_true rfl) rfl (Or.inl ew_264) (hs_h.1 16 (by decide)).1 (hs_h.1 16 (by decide)).2.1 (hs_h.2 16 1 rfl) ?_
  refine ea_iconst (pc := 17) dX11_seekSeats_17 (v := 1) rfl ?_
  refine ea_iald (pc := 18) dX11_seekSeats_18 (hs_h.1 17 (by decide)).1 (hs_h.1 17 (by decide)).2.1 (ea_vpl (n := 8) (hs_h.1 17 (by decide)).2.2 (by unfold vp_in; decide)) ?_
  refine ea_istore_n (pc := 19) (lv' := [(0, vR (some (b0 + 0))), (1, vI (ea_i h (b0 + 17) (Int32.toNatClampNeg 0))), (2, vI (ea_i h (b0 + 17) (Int32.toNatClampNeg 1)))]) dX11_seekSeats_19 rfl (Nat.le_of_ble_eq_true rfl) [1, 2, 0] rfl ?_
  refine ea_aload_n (pc := 20) dX11_seekSeats_20 rfl 0 rfl ?_
  refine ea_getR (pc := 21) dX11_seekSeats_21 ec_11 (k := 3) (Nat.le_of_ble_eq_true rfl) rfl (Or.inl ew_440) (hs_h.1 0 (by decide)).1 (hs_h.1 0 (by decide)).2.1 (hs_h.2 0 3 rfl) ?_
  refine ea_getI (pc := 24) dX11_seekSeats_24 ec_3 (k := 0) (Nat.le_of_ble_eq_true rfl) rfl (Or.inl ew_262) (hs_h.1 16 (by decide)).1 (hs_h.1 16 (by decide)).2.1 ?_
  refine ea_iconst (pc := 27) dX11_seekSeats_27 (v := 1) rfl ?_
  refine ea_icmp_le (pc := 28) (tgt := 41) dX11_seekSeats_28 rfl (fun c7 => ?_) (fun c7 => ?_)
  · have H := H.1 c7
    refine ea_iconst (pc := 41) dX11_seekSeats_41 (v := 1) rfl ?_
    refine ea_istore_n (pc := 42) (lv' := [(0, vR (some (b0 + 0))), (1, vI (ea_i h (b0 + 17) (Int32.toNatClampNeg 0))), (2, vI (ea_i h (b0 + 17) (Int32.toNatClampNeg 1))), (3, vI 1)]) dX11_seekSeats_42 rfl (Nat.le_of_ble_eq_true rfl) [1, 2, 3, 0] rfl ?_
    refine ea_aload_n (pc := 43) dX11_seekSeats_43 rfl 0 rfl ?_
    refine ea_ldcw (pc := 44) dX11_seekSeats_44 ew_1337 ?_
    refine ea_putI (pc := 47) dX11_seekSeats_47 ec_11 (k := 13) (Nat.le_of_ble_eq_true rfl) rfl (Or.inl ⟨rfl, Or.inl ew_450⟩) rfl rfl (hs_h.1 0 (by decide)).1 (hs_h.1 0 (by decide)).2.1 ?_
    obtain ⟨h3, E4⟩ : ∃ z, z = ea_wi h (b0 + 0) 13 2147483647 := ⟨_, rfl⟩
    have H := H h3 E4
    refine ea_nm E4 ?_
    have hs_h3 : ShC b0 h3 := by rw [E4]; exact ShC_wi hs_h
    refine ea_iconst (pc := 50) dX11_seekSeats_50 (v := 0) rfl ?_
    refine ea_istore (pc := 51) (lv' := [(0, vR (some (b0 + 0))), (1, vI (ea_i h (b0 + 17) (Int32.toNatClampNeg 0))), (2, vI (ea_i h (b0 + 17) (Int32.toNatClampNeg 1))), (3, vI 1), (4, vI 0)]) dX11_seekSeats_51 (Nat.le_of_ble_eq_true rfl) [1, 2, 3, 4, 0] rfl ?_
    exact H
  · have H := H.2 c7
    refine ea_aload_n (pc := 31) dX11_seekSeats_31 rfl 0 rfl ?_
    refine ea_getR (pc := 32) dX11_seekSeats_32 ec_11 (k := 1) (Nat.le_of_ble_eq_true rfl) rfl (Or.inl ew_438) (hs_h.1 0 (by decide)).1 (hs_h.1 0 (by decide)).2.1 (hs_h.2 0 1 rfl) ?_
    refine ea_getI (pc := 35) dX11_seekSeats_35 ec_9 (k := 0) (Nat.le_of_ble_eq_true rfl) rfl (Or.inl ew_178) (hs_h.1 5 (by decide)).1 (hs_h.1 5 (by decide)).2.1 ?_
    refine ea_goto (pc := 38) (tgt := 42) dX11_seekSeats_38 rfl ?_
    refine ea_istore_n (pc := 42) (lv' := [(0, vR (some (b0 + 0))), (1, vI (ea_i h (b0 + 17) (Int32.toNatClampNeg 0))), (2, vI (ea_i h (b0 + 17) (Int32.toNatClampNeg 1))), (3, vI (ea_i h (b0 + 5) 0))]) dX11_seekSeats_42 rfl (Nat.le_of_ble_eq_true rfl) [1, 2, 3, 0] rfl ?_
    refine ea_aload_n (pc := 43) dX11_seekSeats_43 rfl 0 rfl ?_
    refine ea_ldcw (pc := 44) dX11_seekSeats_44 ew_1337 ?_
    refine ea_putI (pc := 47) dX11_seekSeats_47 ec_11 (k := 13) (Nat.le_of_ble_eq_true rfl) rfl (Or.inl ⟨rfl, Or.inl ew_450⟩) rfl rfl (hs_h.1 0 (by decide)).1 (hs_h.1 0 (by decide)).2.1 ?_
    obtain ⟨h5, E6⟩ : ∃ z, z = ea_wi h (b0 + 0) 13 2147483647 := ⟨_, rfl⟩
    have H := H h5 E6
    refine ea_nm E6 ?_
    have hs_h5 : ShC b0 h5 := by rw [E6]; exact ShC_wi hs_h
    refine ea_iconst (pc := 50) dX11_seekSeats_50 (v := 0) rfl ?_
    refine ea_istore (pc := 51) (lv' := [(0, vR (some (b0 + 0))), (1, vI (ea_i h (b0 + 17) (Int32.toNatClampNeg 0))), (2, vI (ea_i h (b0 + 17) (Int32.toNatClampNeg 1))), (3, vI (ea_i h (b0 + 5) 0)), (4, vI 0)]) dX11_seekSeats_51 (Nat.le_of_ble_eq_true rfl) [1, 2, 3, 4, 0] rfl ?_
    exact H
theorem pX11_seekSeats_53 {d b0 : Nat} {h0 hE h : ea_H} {rv : Option ea_V} {x1 : Int32} {x2 : Int32} {x3 : Int32} {x4 : Int32} (hd : 1 ≤ d) (hs_h : ShC b0 h) (H : ((ea_i h (b0 + 5) 0) ≤ x4 → vp_in 0 8 ∧ ∀ h2, h2 = ea_wi h (b0 + 17) (Int32.toNatClampNeg 0) x1 → vp_in 1 8 ∧ ∀ h5, h5 = ea_wi h2 (b0 + 17) (Int32.toNatClampNeg 1) x2 → ∀ h7, h7 = ea_wi h5 (b0 + 0) 12 1 → rv = none ∧ hE = h7) ∧ (¬ (ea_i h (b0 + 5) 0) ≤ x4 → ea_W mX11_seekSeats d h0 rv hE 68 [(0, vR (some (b0 + 0))), (1, vI x1), (2, vI x2), (3, vI x3), (4, vI x4), (5, vI 0)] [] h)) : ea_W mX11_seekSeats d h0 rv hE 53 [(0, vR (some (b0 + 0))), (1, vI x1), (2, vI x2), (3, vI x3), (4, vI x4)] [] h := by
  refine ea_iload (pc := 53) dX11_seekSeats_53 4 rfl ?_
  refine ea_aload_n (pc := 55) dX11_seekSeats_55 rfl 0 rfl ?_
  refine ea_getR (pc := 56) dX11_seekSeats_56 ec_11 (k := 1) (Nat.le_of_ble_eq_true rfl) rfl (Or.inl ew_438) (hs_h.1 0 (by decide)).1 (hs_h.1 0 (by decide)).2.1 (hs_h.2 0 1 rfl) ?_
  refine ea_getI (pc := 59) dX11_seekSeats_59 ec_9 (k := 0) (Nat.le_of_ble_eq_true rfl) rfl (Or.inl ew_178) (hs_h.1 5 (by decide)).1 (hs_h.1 5 (by decide)).2.1 ?_
  refine ea_icmp_ge (pc := 62) (tgt := 141) dX11_seekSeats_62 rfl (fun c9 => ?_) (fun c9 => ?_)
  · have H := H.1 c9
    refine ea_aload_n (pc := 141) dX11_seekSeats_141 rfl 0 rfl ?_
    refine ea_getR (pc := 142) dX11_seekSeats_142 ec_11 (k := 3) (Nat.le_of_ble_eq_true rfl) rfl (Or.inl ew_440) (hs_h.1 0 (by decide)).1 (hs_h.1 0 (by decide)).2.1 (hs_h.2 0 3 rfl) ?_
    refine ea_getR (pc := 145) dX11_seekSeats_145 ec_3 (k := 1) (Nat.le_of_ble_eq_true rfl) rfl (Or.inl ew_264) (hs_h.1 16 (by decide)).1 (hs_h.1 16 (by decide)).2.1 (hs_h.2 16 1 rfl) ?_
    refine ea_iconst (pc := 148) dX11_seekSeats_148 (v := 0) rfl ?_
    refine ea_iload_n (pc := 149) dX11_seekSeats_149 rfl 1 rfl ?_
    obtain ⟨z1, H⟩ := H
    refine ea_iast (pc := 150) dX11_seekSeats_150 (hs_h.1 17 (by decide)).1 (hs_h.1 17 (by decide)).2.1 (ea_vpl (hs_h.1 17 (by decide)).2.2 z1) ?_
    obtain ⟨h2, E3⟩ : ∃ z, z = ea_wi h (b0 + 17) (Int32.toNatClampNeg 0) x1 := ⟨_, rfl⟩
    have H := H h2 E3
    refine ea_nm E3 ?_
    have hs_h2 : ShC b0 h2 := by rw [E3]; exact ShC_wi hs_h
    refine ea_aload_n (pc := 151) dX11_seekSeats_151 rfl 0 rfl ?_
    refine ea_getR (pc := 152) dX11_seekSeats_152 ec_11 (k := 3) (Nat.le_of_ble_eq_true rfl) rfl (Or.inl ew_440) (hs_h2.1 0 (by decide)).1 (hs_h2.1 0 (by decide)).2.1 (hs_h2.2 0 3 rfl) ?_
    refine ea_getR (pc := 155) dX11_seekSeats_155 ec_3 (k := 1) (Nat.le_of_ble_eq_true rfl) rfl (Or.inl ew_264) (hs_h2.1 16 (by decide)).1 (hs_h2.1 16 (by decide)).2.1 (hs_h2.2 16 1 rfl) ?_
    refine ea_iconst (pc := 158) dX11_seekSeats_158 (v := 1) rfl ?_
    refine ea_iload_n (pc := 159) dX11_seekSeats_159 rfl 2 rfl ?_
    obtain ⟨z4, H⟩ := H
    refine ea_iast (pc := 160) dX11_seekSeats_160 (hs_h2.1 17 (by decide)).1 (hs_h2.1 17 (by decide)).2.1 (ea_vpl (hs_h2.1 17 (by decide)).2.2 z4) ?_
    obtain ⟨h5, E6⟩ : ∃ z, z = ea_wi h2 (b0 + 17) (Int32.toNatClampNeg 1) x2 := ⟨_, rfl⟩
    have H := H h5 E6
    refine ea_nm E6 ?_
    have hs_h5 : ShC b0 h5 := by rw [E6]; exact ShC_wi hs_h2
    refine ea_aload_n (pc := 161) dX11_seekSeats_161 rfl 0 rfl ?_
    refine ea_iconst (pc := 162) dX11_seekSeats_162 (v := 1) rfl ?_
    refine ea_putI (pc := 163) dX11_seekSeats_163 ec_11 (k := 12) (Nat.le_of_ble_eq_true rfl) rfl (Or.inl ⟨rfl, Or.inl ew_449⟩) (ea_bn (Or.inr rfl)) (ea_bf (Or.inr rfl)) (hs_h5.1 0 (by decide)).1 (hs_h5.1 0 (by decide)).2.1 ?_
    obtain ⟨h7, E8⟩ : ∃ z, z = ea_wi h5 (b0 + 0) 12 1 := ⟨_, rfl⟩
    have H := H h7 E8
    refine ea_nm E8 ?_
    have hs_h7 : ShC b0 h7 := by rw [E8]; exact ShC_wi hs_h5
    obtain ⟨rfl, rfl⟩ := H
    exact ea_return (pc := 166) dX11_seekSeats_166 rfl
  · have H := H.2 c9
    refine ea_iconst (pc := 65) dX11_seekSeats_65 (v := 0) rfl ?_
    refine ea_istore (pc := 66) (lv' := [(0, vR (some (b0 + 0))), (1, vI x1), (2, vI x2), (3, vI x3), (4, vI x4), (5, vI 0)]) dX11_seekSeats_66 (Nat.le_of_ble_eq_true rfl) [1, 2, 3, 4, 5, 0] rfl ?_
    exact H
theorem pX11_seekSeats_68 {d b0 : Nat} {h0 hE h : ea_H} {rv : Option ea_V} {x1 : Int32} {x2 : Int32} {x3 : Int32} {x4 : Int32} {x5 : Int32} (hd : 1 ≤ d) (hs_h : ShC b0 h) (H : (x3 ≤ x5 → ea_W mX11_seekSeats d h0 rv hE 53 [(0, vR (some (b0 + 0))), (1, vI x1), (2, vI x2), (3, vI x3), (4, vI (x4 + 1))] [] h) ∧ (¬ x3 ≤ x5 → vp_in 0 8 ∧ ∀ h2, h2 = ea_wi h (b0 + 17) (Int32.toNatClampNeg 0) x4 → vp_in 1 8 ∧ ∀ h5, h5 = ea_wi h2 (b0 + 17) (Int32.toNatClampNeg 1) x5 → ∃ (d7 : Nat) (xc11 : Int32) (h8 : ea_H), ea_Met mX11_outcome d7 [vR (some (b0 + 0))] h5 (some (vI xc11)) h8 ∧ d7 + 1 ≤ d ∧ ShC b0 h8 ∧ ((ea_i h8 (b0 + 0) 13) ≤ xc11 → ea_W mX11_seekSeats d h0 rv hE 68 [(0, vR (some (b0 + 0))), (1, vI x1), (2, vI x2), (3, vI x3), (4, vI x4), (5, vI (x5 + 1))] [] h8) ∧ (¬ (ea_i h8 (b0 + 0) 13) ≤ xc11 → ∀ h12, h12 = ea_wi h8 (b0 + 0) 13 xc11 → ∀ h14, h14 = ea_wi h12 (b0 + 0) 14 x4 → ∀ h16, h16 = ea_wi h14 (b0 + 0) 15 x5 → ea_W mX11_seekSeats d h0 rv hE 68 [(0, vR (some (b0 + 0))), (1, vI x1), (2, vI x2), (3, vI x3), (4, vI x4), (5, vI (x5 + 1))] [] h16))) : ea_W mX11_seekSeats d h0 rv hE 68 [(0, vR (some (b0 + 0))), (1, vI x1), (2, vI x2), (3, vI x3), (4, vI x4), (5, vI x5)] [] h := by
  refine ea_iload (pc := 68) dX11_seekSeats_68 5 rfl ?_
  refine ea_iload_n (pc := 70) dX11_seekSeats_70 rfl 3 rfl ?_
  refine ea_icmp_ge (pc := 71) (tgt := 135) dX11_seekSeats_71 rfl (fun c19 => ?_) (fun c19 => ?_)
  · have H := H.1 c19
    refine ea_iinc (pc := 135) (v := 1) (lv' := [(0, vR (some (b0 + 0))), (1, vI x1), (2, vI x2), (3, vI x3), (4, vI (x4 + 1))]) dX11_seekSeats_135 4 rfl rfl (Nat.le_of_ble_eq_true rfl) [1, 2, 3, 4, 0] rfl ?_
    refine ea_goto (pc := 138) (tgt := 53) dX11_seekSeats_138 rfl ?_
    exact H
  · have H := H.2 c19
    refine ea_aload_n (pc := 74) dX11_seekSeats_74 rfl 0 rfl ?_
    refine ea_getR (pc := 75) dX11_seekSeats_75 ec_11 (k := 3) (Nat.le_of_ble_eq_true rfl) rfl (Or.inl ew_440) (hs_h.1 0 (by decide)).1 (hs_h.1 0 (by decide)).2.1 (hs_h.2 0 3 rfl) ?_
    refine ea_getR (pc := 78) dX11_seekSeats_78 ec_3 (k := 1) (Nat.le_of_ble_eq_true rfl) rfl (Or.inl ew_264) (hs_h.1 16 (by decide)).1 (hs_h.1 16 (by decide)).2.1 (hs_h.2 16 1 rfl) ?_
    refine ea_iconst (pc := 81) dX11_seekSeats_81 (v := 0) rfl ?_
    refine ea_iload (pc := 82) dX11_seekSeats_82 4 rfl ?_
    obtain ⟨z1, H⟩ := H
    refine ea_iast (pc := 84) dX11_seekSeats_84 (hs_h.1 17 (by decide)).1 (hs_h.1 17 (by decide)).2.1 (ea_vpl (hs_h.1 17 (by decide)).2.2 z1) ?_
    obtain ⟨h2, E3⟩ : ∃ z, z = ea_wi h (b0 + 17) (Int32.toNatClampNeg 0) x4 := ⟨_, rfl⟩
    have H := H h2 E3
    refine ea_nm E3 ?_
    have hs_h2 : ShC b0 h2 := by rw [E3]; exact ShC_wi hs_h
    refine ea_aload_n (pc := 85) dX11_seekSeats_85 rfl 0 rfl ?_
    refine ea_getR (pc := 86) dX11_seekSeats_86 ec_11 (k := 3) (Nat.le_of_ble_eq_true rfl) rfl (Or.inl ew_440) (hs_h2.1 0 (by decide)).1 (hs_h2.1 0 (by decide)).2.1 (hs_h2.2 0 3 rfl) ?_
    refine ea_getR (pc := 89) dX11_seekSeats_89 ec_3 (k := 1) (Nat.le_of_ble_eq_true rfl) rfl (Or.inl ew_264) (hs_h2.1 16 (by decide)).1 (hs_h2.1 16 (by decide)).2.1 (hs_h2.2 16 1 rfl) ?_
    refine ea_iconst (pc := 92) dX11_seekSeats_92 (v := 1) rfl ?_
    refine ea_iload (pc := 93) dX11_seekSeats_93 5 rfl ?_
    obtain ⟨z4, H⟩ := H
    refine ea_iast (pc := 95) dX11_seekSeats_95 (hs_h2.1 17 (by decide)).1 (hs_h2.1 17 (by decide)).2.1 (ea_vpl (hs_h2.1 17 (by decide)).2.2 z4) ?_
    obtain ⟨h5, E6⟩ : ∃ z, z = ea_wi h2 (b0 + 17) (Int32.toNatClampNeg 1) x5 := ⟨_, rfl⟩
    have H := H h5 E6
    refine ea_nm E6 ?_
    have hs_h5 : ShC b0 h5 := by rw [E6]; exact ShC_wi hs_h2
    refine ea_aload_n (pc := 96) dX11_seekSeats_96 rfl 0 rfl ?_
    obtain ⟨d7, xc11, h8, m9, q10, hs_h8, H⟩ := H
    refine ea_callV (pc := 97) (As := []) (st := []) dX11_seekSeats_97 kX11_outcome m9 q10 rfl (Nat.le_of_ble_eq_true rfl) ew_1316 ew_1318 ew_45 (ci := 11) rfl (by decide) (hs_h5.1 0 (by decide)).1 (hs_h5.1 0 (by decide)).2.1 ?_
    refine ea_istore (pc := 100) (lv' := [(0, vR (some (b0 + 0))), (1, vI x1), (2, vI x2), (3, vI x3), (4, vI x4), (5, vI x5), (6, vI xc11)]) dX11_seekSeats_100 (Nat.le_of_ble_eq_true rfl) [1, 2, 3, 4, 5, 6, 0] rfl ?_
    refine ea_iload (pc := 102) dX11_seekSeats_102 6 rfl ?_
    refine ea_aload_n (pc := 104) dX11_seekSeats_104 rfl 0 rfl ?_
    refine ea_getI (pc := 105) dX11_seekSeats_105 ec_11 (k := 13) (Nat.le_of_ble_eq_true rfl) rfl (Or.inl ew_450) (hs_h8.1 0 (by decide)).1 (hs_h8.1 0 (by decide)).2.1 ?_
    refine ea_icmp_ge (pc := 108) (tgt := 129) dX11_seekSeats_108 rfl (fun c18 => ?_) (fun c18 => ?_)
    · have H := H.1 c18
      refine ea_iinc (pc := 129) (v := 1) (lv' := [(0, vR (some (b0 + 0))), (1, vI x1), (2, vI x2), (3, vI x3), (4, vI x4), (5, vI (x5 + 1))]) dX11_seekSeats_129 5 rfl rfl (Nat.le_of_ble_eq_true rfl) [1, 2, 3, 4, 5, 0] rfl ?_
      refine ea_goto (pc := 132) (tgt := 68) dX11_seekSeats_132 rfl ?_
      exact H
    · have H := H.2 c18
      refine ea_aload_n (pc := 111) dX11_seekSeats_111 rfl 0 rfl ?_
      refine ea_iload (pc := 112) dX11_seekSeats_112 6 rfl ?_
      refine ea_putI (pc := 114) dX11_seekSeats_114 ec_11 (k := 13) (Nat.le_of_ble_eq_true rfl) rfl (Or.inl ⟨rfl, Or.inl ew_450⟩) rfl rfl (hs_h8.1 0 (by decide)).1 (hs_h8.1 0 (by decide)).2.1 ?_
      obtain ⟨h12, E13⟩ : ∃ z, z = ea_wi h8 (b0 + 0) 13 xc11 := ⟨_, rfl⟩
      have H := H h12 E13
      refine ea_nm E13 ?_
      have hs_h12 : ShC b0 h12 := by rw [E13]; exact ShC_wi hs_h8
      refine ea_aload_n (pc := 117) dX11_seekSeats_117 rfl 0 rfl ?_
      refine ea_iload (pc := 118) dX11_seekSeats_118 4 rfl ?_
      refine ea_putI (pc := 120) dX11_seekSeats_120 ec_11 (k := 14) (Nat.le_of_ble_eq_true rfl) rfl (Or.inl ⟨rfl, Or.inl ew_451⟩) rfl rfl (hs_h12.1 0 (by decide)).1 (hs_h12.1 0 (by decide)).2.1 ?_
      obtain ⟨h14, E15⟩ : ∃ z, z = ea_wi h12 (b0 + 0) 14 x4 := ⟨_, rfl⟩
      have H := H h14 E15
      refine ea_nm E15 ?_
      have hs_h14 : ShC b0 h14 := by rw [E15]; exact ShC_wi hs_h12
      refine ea_aload_n (pc := 123) dX11_seekSeats_123 rfl 0 rfl ?_
      refine ea_iload (pc := 124) dX11_seekSeats_124 5 rfl ?_
      refine ea_putI (pc := 126) dX11_seekSeats_126 ec_11 (k := 15) (Nat.le_of_ble_eq_true rfl) rfl (Or.inl ⟨rfl, Or.inl ew_452⟩) rfl rfl (hs_h14.1 0 (by decide)).1 (hs_h14.1 0 (by decide)).2.1 ?_
      obtain ⟨h16, E17⟩ : ∃ z, z = ea_wi h14 (b0 + 0) 15 x5 := ⟨_, rfl⟩
      have H := H h16 E17
      refine ea_nm E17 ?_
      have hs_h16 : ShC b0 h16 := by rw [E17]; exact ShC_wi hs_h14
      refine ea_iinc (pc := 129) (v := 1) (lv' := [(0, vR (some (b0 + 0))), (1, vI x1), (2, vI x2), (3, vI x3), (4, vI x4), (5, vI (x5 + 1))]) dX11_seekSeats_129 5 rfl rfl (Nat.le_of_ble_eq_true rfl) [1, 2, 3, 4, 5, 0] rfl ?_
      refine ea_goto (pc := 132) (tgt := 68) dX11_seekSeats_132 rfl ?_
      exact H
theorem pX1_begin_at32_0 {d b0 : Nat} {h0 hE h : ea_H} {rv : Option ea_V} {x1 : Int32} {x2 : Int32} (hd : 1 ≤ d) (hs_h : ShC b0 h) (H : ∀ h1, h1 = ea_wi h (b0 + 32) 0 ((ea_i h (b0 + 32) 0) + (1 : Int32)) → ∀ h3, h3 = ea_wi h1 (b0 + 32) 10 ((ea_i h1 (b0 + 32) 10) + (1 : Int32)) → vp_in x2 12 ∧ vp_in x2 12 ∧ ∀ h7, h7 = ea_wi h3 (b0 + 40) (Int32.toNatClampNeg x2) ((ea_i h3 (b0 + 40) (Int32.toNatClampNeg x2)) + (1 : Int32)) → vp_in (ea_i h (b0 + 32) 0) 120 ∧ ∀ h10, h10 = ea_wi h7 (b0 + 33) (Int32.toNatClampNeg (ea_i h (b0 + 32) 0)) 0 → vp_in (ea_i h (b0 + 32) 0) 120 ∧ ∀ h13, h13 = ea_wi h10 (b0 + 34) (Int32.toNatClampNeg (ea_i h (b0 + 32) 0)) x2 → vp_in (ea_i h (b0 + 32) 0) 120 ∧ ∃ a22, (ea_r h13 (b0 + 31) (Int32.toNatClampNeg (ea_i h (b0 + 32) 0))) = some a22 ∧ a22 < ea_n h13 ∧ ea_c h13 a22 = 4 ∧ ∃ (d16 : Nat) (h17 : ea_H), ea_Met mX4_note d16 [vR (some a22), vI x1, vI 0, vI x2] h13 none h17 ∧ d16 + 1 ≤ d ∧ ShC b0 h17 ∧ rv = none ∧ hE = h17) : ea_W mX1_begin d h0 rv hE 0 [(0, vR (some (b0 + 32))), (1, vI x1), (2, vI x2)] [] h := by
  refine ea_aload_n (pc := 0) dX1_begin_0 rfl 0 rfl ?_
  refine ea_getI (pc := 1) dX1_begin_1 ec_1 (k := 0) (Nat.le_of_ble_eq_true rfl) rfl (Or.inl ew_359) (hs_h.1 32 (by decide)).1 (hs_h.1 32 (by decide)).2.1 ?_
  refine ea_istore_n (pc := 4) (lv' := [(0, vR (some (b0 + 32))), (1, vI x1), (2, vI x2), (3, vI (ea_i h (b0 + 32) 0))]) dX1_begin_4 rfl (Nat.le_of_ble_eq_true rfl) [1, 2, 3, 0] rfl ?_
  refine ea_aload_n (pc := 5) dX1_begin_5 rfl 0 rfl ?_
  refine ea_dup (pc := 6) dX1_begin_6 rfl ?_
  refine ea_getI (pc := 7) dX1_begin_7 ec_1 (k := 0) (Nat.le_of_ble_eq_true rfl) rfl (Or.inl ew_359) (hs_h.1 32 (by decide)).1 (hs_h.1 32 (by decide)).2.1 ?_
  refine ea_iconst (pc := 10) dX1_begin_10 (v := 1) rfl ?_
  refine ea_iadd (pc := 11) dX1_begin_11 ?_
  refine ea_putI (pc := 12) dX1_begin_12 ec_1 (k := 0) (Nat.le_of_ble_eq_true rfl) rfl (Or.inl ⟨rfl, Or.inl ew_359⟩) rfl rfl (hs_h.1 32 (by decide)).1 (hs_h.1 32 (by decide)).2.1 ?_
  obtain ⟨h1, E2⟩ : ∃ z, z = ea_wi h (b0 + 32) 0 ((ea_i h (b0 + 32) 0) + (1 : Int32)) := ⟨_, rfl⟩
  have H := H h1 E2
  refine ea_nm E2 ?_
  have hs_h1 : ShC b0 h1 := by rw [E2]; exact ShC_wi hs_h
  refine ea_aload_n (pc := 15) dX1_begin_15 rfl 0 rfl ?_
  refine ea_dup (pc := 16) dX1_begin_16 rfl ?_
  refine ea_getI (pc := 17) dX1_begin_17 ec_1 (k := 10) (Nat.le_of_ble_eq_true rfl) rfl (Or.inl ew_376) (hs_h1.1 32 (by decide)).1 (hs_h1.1 32 (by decide)).2.1 ?_
  refine ea_iconst (pc := 20) dX1_begin_20 (v := 1) rfl ?_
  refine ea_iadd (pc := 21) dX1_begin_21 ?_
  refine ea_putI (pc := 22) dX1_begin_22 ec_1 (k := 10) (Nat.le_of_ble_eq_true rfl) rfl (Or.inl ⟨rfl, Or.inl ew_376⟩) rfl rfl (hs_h1.1 32 (by decide)).1 (hs_h1.1 32 (by decide)).2.1 ?_
  obtain ⟨h3, E4⟩ : ∃ z, z = ea_wi h1 (b0 + 32) 10 ((ea_i h1 (b0 + 32) 10) + (1 : Int32)) := ⟨_, rfl⟩
  have H := H h3 E4
  refine ea_nm E4 ?_
  have hs_h3 : ShC b0 h3 := by rw [E4]; exact ShC_wi hs_h1
  refine ea_aload_n (pc := 25) dX1_begin_25 rfl 0 rfl ?_
  refine ea_getR (pc := 26) dX1_begin_26 ec_1 (k := 8) (Nat.le_of_ble_eq_true rfl) rfl (Or.inl ew_374) (hs_h3.1 32 (by decide)).1 (hs_h3.1 32 (by decide)).2.1 (hs_h3.2 32 8 rfl) ?_
  refine ea_iload_n (pc := 29) dX1_begin_29 rfl 2 rfl ?_
  refine ea_dup2 (pc := 30) dX1_begin_30 rfl rfl ?_
  obtain ⟨z5, H⟩ := H
  refine ea_iald (pc := 31) dX1_begin_31 (hs_h3.1 40 (by decide)).1 (hs_h3.1 40 (by decide)).2.1 (ea_vpl (hs_h3.1 40 (by decide)).2.2 z5) ?_
  refine ea_iconst (pc := 32) dX1_begin_32 (v := 1) rfl ?_
  refine ea_iadd (pc := 33) dX1_begin_33 ?_
  obtain ⟨z6, H⟩ := H
  refine ea_iast (pc := 34) dX1_begin_34 (hs_h3.1 40 (by decide)).1 (hs_h3.1 40 (by decide)).2.1 (ea_vpl (hs_h3.1 40 (by decide)).2.2 z6) ?_
  obtain ⟨h7, E8⟩ : ∃ z, z = ea_wi h3 (b0 + 40) (Int32.toNatClampNeg x2) ((ea_i h3 (b0 + 40) (Int32.toNatClampNeg x2)) + (1 : Int32)) := ⟨_, rfl⟩
  have H := H h7 E8
  refine ea_nm E8 ?_
  have hs_h7 : ShC b0 h7 := by rw [E8]; exact ShC_wi hs_h3
  refine ea_aload_n (pc := 35) dX1_begin_35 rfl 0 rfl ?_
  refine ea_getR (pc := 36) dX1_begin_36 ec_1 (k := 1) (Nat.le_of_ble_eq_true rfl) rfl (Or.inl ew_361) (hs_h7.1 32 (by decide)).1 (hs_h7.1 32 (by decide)).2.1 (hs_h7.2 32 1 rfl) ?_
  refine ea_iload_n (pc := 39) dX1_begin_39 rfl 3 rfl ?_
  refine ea_iconst (pc := 40) dX1_begin_40 (v := 0) rfl ?_
  obtain ⟨z9, H⟩ := H
  refine ea_iast (pc := 41) dX1_begin_41 (hs_h7.1 33 (by decide)).1 (hs_h7.1 33 (by decide)).2.1 (ea_vpl (hs_h7.1 33 (by decide)).2.2 z9) ?_
  obtain ⟨h10, E11⟩ : ∃ z, z = ea_wi h7 (b0 + 33) (Int32.toNatClampNeg (ea_i h (b0 + 32) 0)) 0 := ⟨_, rfl⟩
  have H := H h10 E11
  refine ea_nm E11 ?_
  have hs_h10 : ShC b0 h10 := by rw [E11]; exact ShC_wi hs_h7
  refine ea_aload_n (pc := 42) dX1_begin_42 rfl 0 rfl ?_
  refine ea_getR (pc := 43) dX1_begin_43 ec_1 (k := 2) (Nat.le_of_ble_eq_true rfl) rfl (Or.inl ew_363) (hs_h10.1 32 (by decide)).1 (hs_h10.1 32 (by decide)).2.1 (hs_h10.2 32 2 rfl) ?_
  refine ea_iload_n (pc := 46) dX1_begin_46 rfl 3 rfl ?_
  refine ea_iload_n (pc := 47) dX1_begin_47 rfl 2 rfl ?_
  obtain ⟨z12, H⟩ := H
  refine ea_iast (pc := 48) dX1_begin_48 (hs_h10.1 34 (by decide)).1 (hs_h10.1 34 (by decide)).2.1 (ea_vpl (hs_h10.1 34 (by decide)).2.2 z12) ?_
  obtain ⟨h13, E14⟩ : ∃ z, z = ea_wi h10 (b0 + 34) (Int32.toNatClampNeg (ea_i h (b0 + 32) 0)) x2 := ⟨_, rfl⟩
  have H := H h13 E14
  refine ea_nm E14 ?_
  have hs_h13 : ShC b0 h13 := by rw [E14]; exact ShC_wi hs_h10
  refine ea_aload_n (pc := 49) dX1_begin_49 rfl 0 rfl ?_
  refine ea_getR (pc := 50) dX1_begin_50 ec_1 (k := 14) (Nat.le_of_ble_eq_true rfl) rfl (Or.inl ew_380) (hs_h13.1 32 (by decide)).1 (hs_h13.1 32 (by decide)).2.1 (hs_h13.2 32 14 rfl) ?_
  refine ea_iload_n (pc := 53) dX1_begin_53 rfl 3 rfl ?_
  obtain ⟨z15, H⟩ := H
  refine ea_aald23 (pc := 54) dX1_begin_54 (hs_h13.1 31 (by decide)).1 (hs_h13.1 31 (by decide)).2.1 (ea_vpl (hs_h13.1 31 (by decide)).2.2 z15) rfl ?_
  refine ea_iload_n (pc := 55) dX1_begin_55 rfl 1 rfl ?_
  refine ea_iconst (pc := 56) dX1_begin_56 (v := 0) rfl ?_
  refine ea_iload_n (pc := 57) dX1_begin_57 rfl 2 rfl ?_
  obtain ⟨a22, e23, f20, g21, H⟩ := H
  refine ea_deref3 e23 ?_
  obtain ⟨d16, h17, m18, q19, hs_h17, H⟩ := H
  refine ea_callV (pc := 58) (As := [vI x1, vI 0, vI x2]) (st := []) dX1_begin_58 kX4_note m18 q19 rfl (Nat.le_of_ble_eq_true rfl) ew_649 ew_650 ew_651 (ci := 4) rfl (by decide) f20 g21 ?_
  obtain ⟨rfl, rfl⟩ := H
  exact ea_return (pc := 61) dX1_begin_61 rfl
theorem pX1_begin_at42_0 {d b0 : Nat} {h0 hE h : ea_H} {rv : Option ea_V} {x1 : Int32} {x2 : Int32} (hd : 1 ≤ d) (hs_h : ShC b0 h) (H : ∀ h1, h1 = ea_wi h (b0 + 42) 0 ((ea_i h (b0 + 42) 0) + (1 : Int32)) → ∀ h3, h3 = ea_wi h1 (b0 + 42) 10 ((ea_i h1 (b0 + 42) 10) + (1 : Int32)) → vp_in x2 12 ∧ vp_in x2 12 ∧ ∀ h7, h7 = ea_wi h3 (b0 + 50) (Int32.toNatClampNeg x2) ((ea_i h3 (b0 + 50) (Int32.toNatClampNeg x2)) + (1 : Int32)) → vp_in (ea_i h (b0 + 42) 0) 120 ∧ ∀ h10, h10 = ea_wi h7 (b0 + 43) (Int32.toNatClampNeg (ea_i h (b0 + 42) 0)) 0 → vp_in (ea_i h (b0 + 42) 0) 120 ∧ ∀ h13, h13 = ea_wi h10 (b0 + 44) (Int32.toNatClampNeg (ea_i h (b0 + 42) 0)) x2 → vp_in (ea_i h (b0 + 42) 0) 120 ∧ ∃ a22, (ea_r h13 (b0 + 31) (Int32.toNatClampNeg (ea_i h (b0 + 42) 0))) = some a22 ∧ a22 < ea_n h13 ∧ ea_c h13 a22 = 4 ∧ ∃ (d16 : Nat) (h17 : ea_H), ea_Met mX4_note d16 [vR (some a22), vI x1, vI 0, vI x2] h13 none h17 ∧ d16 + 1 ≤ d ∧ ShC b0 h17 ∧ rv = none ∧ hE = h17) : ea_W mX1_begin d h0 rv hE 0 [(0, vR (some (b0 + 42))), (1, vI x1), (2, vI x2)] [] h := by
  refine ea_aload_n (pc := 0) dX1_begin_0 rfl 0 rfl ?_
  refine ea_getI (pc := 1) dX1_begin_1 ec_1 (k := 0) (Nat.le_of_ble_eq_true rfl) rfl (Or.inl ew_359) (hs_h.1 42 (by decide)).1 (hs_h.1 42 (by decide)).2.1 ?_
  refine ea_istore_n (pc := 4) (lv' := [(0, vR (some (b0 + 42))), (1, vI x1), (2, vI x2), (3, vI (ea_i h (b0 + 42) 0))]) dX1_begin_4 rfl (Nat.le_of_ble_eq_true rfl) [1, 2, 3, 0] rfl ?_
  refine ea_aload_n (pc := 5) dX1_begin_5 rfl 0 rfl ?_
  refine ea_dup (pc := 6) dX1_begin_6 rfl ?_
  refine ea_getI (pc := 7) dX1_begin_7 ec_1 (k := 0) (Nat.le_of_ble_eq_true rfl) rfl (Or.inl ew_359) (hs_h.1 42 (by decide)).1 (hs_h.1 42 (by decide)).2.1 ?_
  refine ea_iconst (pc := 10) dX1_begin_10 (v := 1) rfl ?_
  refine ea_iadd (pc := 11) dX1_begin_11 ?_
  refine ea_putI (pc := 12) dX1_begin_12 ec_1 (k := 0) (Nat.le_of_ble_eq_true rfl) rfl (Or.inl ⟨rfl, Or.inl ew_359⟩) rfl rfl (hs_h.1 42 (by decide)).1 (hs_h.1 42 (by decide)).2.1 ?_
  obtain ⟨h1, E2⟩ : ∃ z, z = ea_wi h (b0 + 42) 0 ((ea_i h (b0 + 42) 0) + (1 : Int32)) := ⟨_, rfl⟩
  have H := H h1 E2
  refine ea_nm E2 ?_
  have hs_h1 : ShC b0 h1 := by rw [E2]; exact ShC_wi hs_h
  refine ea_aload_n (pc := 15) dX1_begin_15 rfl 0 rfl ?_
  refine ea_dup (pc := 16) dX1_begin_16 rfl ?_
  refine ea_getI (pc := 17) dX1_begin_17 ec_1 (k := 10) (Nat.le_of_ble_eq_true rfl) rfl (Or.inl ew_376) (hs_h1.1 42 (by decide)).1 (hs_h1.1 42 (by decide)).2.1 ?_
  refine ea_iconst (pc := 20) dX1_begin_20 (v := 1) rfl ?_
  refine ea_iadd (pc := 21) dX1_begin_21 ?_
  refine ea_putI (pc := 22) dX1_begin_22 ec_1 (k := 10) (Nat.le_of_ble_eq_true rfl) rfl (Or.inl ⟨rfl, Or.inl ew_376⟩) rfl rfl (hs_h1.1 42 (by decide)).1 (hs_h1.1 42 (by decide)).2.1 ?_
  obtain ⟨h3, E4⟩ : ∃ z, z = ea_wi h1 (b0 + 42) 10 ((ea_i h1 (b0 + 42) 10) + (1 : Int32)) := ⟨_, rfl⟩
  have H := H h3 E4
  refine ea_nm E4 ?_
  have hs_h3 : ShC b0 h3 := by rw [E4]; exact ShC_wi hs_h1
  refine ea_aload_n (pc := 25) dX1_begin_25 rfl 0 rfl ?_
  refine ea_getR (pc := 26) dX1_begin_26 ec_1 (k := 8) (Nat.le_of_ble_eq_true rfl) rfl (Or.inl ew_374) (hs_h3.1 42 (by decide)).1 (hs_h3.1 42 (by decide)).2.1 (hs_h3.2 42 8 rfl) ?_
  refine ea_iload_n (pc := 29) dX1_begin_29 rfl 2 rfl ?_
  refine ea_dup2 (pc := 30) dX1_begin_30 rfl rfl ?_
  obtain ⟨z5, H⟩ := H
  refine ea_iald (pc := 31) dX1_begin_31 (hs_h3.1 50 (by decide)).1 (hs_h3.1 50 (by decide)).2.1 (ea_vpl (hs_h3.1 50 (by decide)).2.2 z5) ?_
  refine ea_iconst (pc := 32) dX1_begin_32 (v := 1) rfl ?_
  refine ea_iadd (pc := 33) dX1_begin_33 ?_
  obtain ⟨z6, H⟩ := H
  refine ea_iast (pc := 34) dX1_begin_34 (hs_h3.1 50 (by decide)).1 (hs_h3.1 50 (by decide)).2.1 (ea_vpl (hs_h3.1 50 (by decide)).2.2 z6) ?_
  obtain ⟨h7, E8⟩ : ∃ z, z = ea_wi h3 (b0 + 50) (Int32.toNatClampNeg x2) ((ea_i h3 (b0 + 50) (Int32.toNatClampNeg x2)) + (1 : Int32)) := ⟨_, rfl⟩
  have H := H h7 E8
  refine ea_nm E8 ?_
  have hs_h7 : ShC b0 h7 := by rw [E8]; exact ShC_wi hs_h3
  refine ea_aload_n (pc := 35) dX1_begin_35 rfl 0 rfl ?_
  refine ea_getR (pc := 36) dX1_begin_36 ec_1 (k := 1) (Nat.le_of_ble_eq_true rfl) rfl (Or.inl ew_361) (hs_h7.1 42 (by decide)).1 (hs_h7.1 42 (by decide)).2.1 (hs_h7.2 42 1 rfl) ?_
  refine ea_iload_n (pc := 39) dX1_begin_39 rfl 3 rfl ?_
  refine ea_iconst (pc := 40) dX1_begin_40 (v := 0) rfl ?_
  obtain ⟨z9, H⟩ := H
  refine ea_iast (pc := 41) dX1_begin_41 (hs_h7.1 43 (by decide)).1 (hs_h7.1 43 (by decide)).2.1 (ea_vpl (hs_h7.1 43 (by decide)).2.2 z9) ?_
  obtain ⟨h10, E11⟩ : ∃ z, z = ea_wi h7 (b0 + 43) (Int32.toNatClampNeg (ea_i h (b0 + 42) 0)) 0 := ⟨_, rfl⟩
  have H := H h10 E11
  refine ea_nm E11 ?_
  have hs_h10 : ShC b0 h10 := by rw [E11]; exact ShC_wi hs_h7
  refine ea_aload_n (pc := 42) dX1_begin_42 rfl 0 rfl ?_
  refine ea_getR (pc := 43) dX1_begin_43 ec_1 (k := 2) (Nat.le_of_ble_eq_true rfl) rfl (Or.inl ew_363) (hs_h10.1 42 (by decide)).1 (hs_h10.1 42 (by decide)).2.1 (hs_h10.2 42 2 rfl) ?_
  refine ea_iload_n (pc := 46) dX1_begin_46 rfl 3 rfl ?_
  refine ea_iload_n (pc := 47) dX1_begin_47 rfl 2 rfl ?_
  obtain ⟨z12, H⟩ := H
  refine ea_iast (pc := 48) dX1_begin_48 (hs_h10.1 44 (by decide)).1 (hs_h10.1 44 (by decide)).2.1 (ea_vpl (hs_h10.1 44 (by decide)).2.2 z12) ?_
  obtain ⟨h13, E14⟩ : ∃ z, z = ea_wi h10 (b0 + 44) (Int32.toNatClampNeg (ea_i h (b0 + 42) 0)) x2 := ⟨_, rfl⟩
  have H := H h13 E14
  refine ea_nm E14 ?_
  have hs_h13 : ShC b0 h13 := by rw [E14]; exact ShC_wi hs_h10
  refine ea_aload_n (pc := 49) dX1_begin_49 rfl 0 rfl ?_
  refine ea_getR (pc := 50) dX1_begin_50 ec_1 (k := 14) (Nat.le_of_ble_eq_true rfl) rfl (Or.inl ew_380) (hs_h13.1 42 (by decide)).1 (hs_h13.1 42 (by decide)).2.1 (hs_h13.2 42 14 rfl) ?_
  refine ea_iload_n (pc := 53) dX1_begin_53 rfl 3 rfl ?_
  obtain ⟨z15, H⟩ := H
  refine ea_aald23 (pc := 54) dX1_begin_54 (hs_h13.1 31 (by decide)).1 (hs_h13.1 31 (by decide)).2.1 (ea_vpl (hs_h13.1 31 (by decide)).2.2 z15) rfl ?_
  refine ea_iload_n (pc := 55) dX1_begin_55 rfl 1 rfl ?_
  refine ea_iconst (pc := 56) dX1_begin_56 (v := 0) rfl ?_
  refine ea_iload_n (pc := 57) dX1_begin_57 rfl 2 rfl ?_
  obtain ⟨a22, e23, f20, g21, H⟩ := H
  refine ea_deref3 e23 ?_
  obtain ⟨d16, h17, m18, q19, hs_h17, H⟩ := H
  refine ea_callV (pc := 58) (As := [vI x1, vI 0, vI x2]) (st := []) dX1_begin_58 kX4_note m18 q19 rfl (Nat.le_of_ble_eq_true rfl) ew_649 ew_650 ew_651 (ci := 4) rfl (by decide) f20 g21 ?_
  obtain ⟨rfl, rfl⟩ := H
  exact ea_return (pc := 61) dX1_begin_61 rfl
theorem pX1_move_at32_0 {d b0 : Nat} {h0 hE h : ea_H} {rv : Option ea_V} {x1 : Int32} {x2 : Int32} {x3 : Int32} {x4 : Int32} (hd : 1 ≤ d) (hs_h : ShC b0 h) (H : vp_in x1 120 ∧ (¬ (ea_i h (b0 + 33) (Int32.toNatClampNeg x1)) = (0 : Int32) → vp_in x1 120 ∧ (¬ (ea_i h (b0 + 33) (Int32.toNatClampNeg x1)) = (1 : Int32) → ea_W mX1_move d h0 rv hE 72 [(0, vR (some (b0 + 32))), (1, vI x1), (2, vI x2), (3, vI x3), (4, vI x4)] [] h) ∧ ((ea_i h (b0 + 33) (Int32.toNatClampNeg x1)) = (1 : Int32) → vp_in x1 120 ∧ vp_in (ea_i h (b0 + 34) (Int32.toNatClampNeg x1)) 70 ∧ vp_in (ea_i h (b0 + 34) (Int32.toNatClampNeg x1)) 70 ∧ ∀ h6, h6 = ea_wi h (b0 + 41) (Int32.toNatClampNeg (ea_i h (b0 + 34) (Int32.toNatClampNeg x1))) ((ea_i h (b0 + 41) (Int32.toNatClampNeg (ea_i h (b0 + 34) (Int32.toNatClampNeg x1)))) - (1 : Int32)) → ∀ h8, h8 = ea_wi h6 (b0 + 32) 10 ((ea_i h6 (b0 + 32) 10) - (1 : Int32)) → ea_W mX1_move d h0 rv hE 72 [(0, vR (some (b0 + 32))), (1, vI x1), (2, vI x2), (3, vI x3), (4, vI x4)] [] h8)) ∧ ((ea_i h (b0 + 33) (Int32.toNatClampNeg x1)) = (0 : Int32) → vp_in x1 120 ∧ vp_in (ea_i h (b0 + 34) (Int32.toNatClampNeg x1)) 12 ∧ vp_in (ea_i h (b0 + 34) (Int32.toNatClampNeg x1)) 12 ∧ ∀ h14, h14 = ea_wi h (b0 + 40) (Int32.toNatClampNeg (ea_i h (b0 + 34) (Int32.toNatClampNeg x1))) ((ea_i h (b0 + 40) (Int32.toNatClampNeg (ea_i h (b0 + 34) (Int32.toNatClampNeg x1)))) - (1 : Int32)) → ∀ h16, h16 = ea_wi h14 (b0 + 32) 10 ((ea_i h14 (b0 + 32) 10) - (1 : Int32)) → ea_W mX1_move d h0 rv hE 72 [(0, vR (some (b0 + 32))), (1, vI x1), (2, vI x2), (3, vI x3), (4, vI x4)] [] h16)) : ea_W mX1_move d h0 rv hE 0 [(0, vR (some (b0 + 32))), (1, vI x1), (2, vI x2), (3, vI x3), (4, vI x4)] [] h := by
  refine ea_aload_n (pc := 0) dX1_move_0 rfl 0 rfl ?_
  refine ea_getR (pc := 1) dX1_move_1 ec_1 (k := 1) (Nat.le_of_ble_eq_true rfl) rfl (Or.inl ew_361) (hs_h.1 32 (by decide)).1 (hs_h.1 32 (by decide)).2.1 (hs_h.2 32 1 rfl) ?_
  refine ea_iload_n (pc := 4) dX1_move_4 rfl 1 rfl ?_
  obtain ⟨z1, H⟩ := H
  refine ea_iald (pc := 5) dX1_move_5 (hs_h.1 33 (by decide)).1 (hs_h.1 33 (by decide)).2.1 (ea_vpl (hs_h.1 33 (by decide)).2.2 z1) ?_
  refine ea_if_ne (pc := 6) (tgt := 37) dX1_move_6 rfl (fun c18 => ?_) (fun c18 => ?_)
  · have H := H.1 c18
    refine ea_aload_n (pc := 37) dX1_move_37 rfl 0 rfl ?_
    refine ea_getR (pc := 38) dX1_move_38 ec_1 (k := 1) (Nat.le_of_ble_eq_true rfl) rfl (Or.inl ew_361) (hs_h.1 32 (by decide)).1 (hs_h.1 32 (by decide)).2.1 (hs_h.2 32 1 rfl) ?_
    refine ea_iload_n (pc := 41) dX1_move_41 rfl 1 rfl ?_
    obtain ⟨z2, H⟩ := H
    refine ea_iald (pc := 42) dX1_move_42 (hs_h.1 33 (by decide)).1 (hs_h.1 33 (by decide)).2.1 (ea_vpl (hs_h.1 33 (by decide)).2.2 z2) ?_
    refine ea_iconst (pc := 43) dX1_move_43 (v := 1) rfl ?_
    refine ea_icmp_ne (pc := 44) (tgt := 72) dX1_move_44 rfl (fun c10 => ?_) (fun c10 => ?_)
    · have H := H.1 c10
      exact H
    · have H := H.2 c10
      refine ea_aload_n (pc := 47) dX1_move_47 rfl 0 rfl ?_
      refine ea_getR (pc := 48) dX1_move_48 ec_1 (k := 9) (Nat.le_of_ble_eq_true rfl) rfl (Or.inl ew_375) (hs_h.1 32 (by decide)).1 (hs_h.1 32 (by decide)).2.1 (hs_h.2 32 9 rfl) ?_
      refine ea_aload_n (pc := 51) dX1_move_51 rfl 0 rfl ?_
      refine ea_getR (pc := 52) dX1_move_52 ec_1 (k := 2) (Nat.le_of_ble_eq_true rfl) rfl (Or.inl ew_363) (hs_h.1 32 (by decide)).1 (hs_h.1 32 (by decide)).2.1 (hs_h.2 32 2 rfl) ?_
      refine ea_iload_n (pc := 55) dX1_move_55 rfl 1 rfl ?_
      obtain ⟨z3, H⟩ := H
      refine ea_iald (pc := 56) dX1_move_56 (hs_h.1 34 (by decide)).1 (hs_h.1 34 (by decide)).2.1 (ea_vpl (hs_h.1 34 (by decide)).2.2 z3) ?_
      refine ea_dup2 (pc := 57) dX1_move_57 rfl rfl ?_
      obtain ⟨z4, H⟩ := H
      refine ea_iald (pc := 58) dX1_move_58 (hs_h.1 41 (by decide)).1 (hs_h.1 41 (by decide)).2.1 (ea_vpl (hs_h.1 41 (by decide)).2.2 z4) ?_
      refine ea_iconst (pc := 59) dX1_move_59 (v := 1) rfl ?_
      refine ea_isub (pc := 60) dX1_move_60 ?_
      obtain ⟨z5, H⟩ := H
      refine ea_iast (pc := 61) dX1_move_61 (hs_h.1 41 (by decide)).1 (hs_h.1 41 (by decide)).2.1 (ea_vpl (hs_h.1 41 (by decide)).2.2 z5) ?_
      obtain ⟨h6, E7⟩ : ∃ z, z = ea_wi h (b0 + 41) (Int32.toNatClampNeg (ea_i h (b0 + 34) (Int32.toNatClampNeg x1))) ((ea_i h (b0 + 41) (Int32.toNatClampNeg (ea_i h (b0 + 34) (Int32.toNatClampNeg x1)))) - (1 : Int32)) := ⟨_, rfl⟩
      have H := H h6 E7
      refine ea_nm E7 ?_
      have hs_h6 : ShC b0 h6 := by rw [E7]; exact ShC_wi hs_h
      refine ea_aload_n (pc := 62) dX1_move_62 rfl 0 rfl ?_
      refine ea_dup (pc := 63) dX1_move_63 rfl ?_
      refine ea_getI (pc := 64) dX1_move_64 ec_1 (k := 10) (Nat.le_of_ble_eq_true rfl) rfl (Or.inl ew_376) (hs_h6.1 32 (by decide)).1 (hs_h6.1 32 (by decide)).2.1 ?_
      refine ea_iconst (pc := 67) dX1_move_67 (v := 1) rfl ?_
      refine ea_isub (pc := 68) dX1_move_68 ?_
      refine ea_putI (pc := 69) dX1_move_69 ec_1 (k := 10) (Nat.le_of_ble_eq_true rfl) rfl (Or.inl ⟨rfl, Or.inl ew_376⟩) rfl rfl (hs_h6.1 32 (by decide)).1 (hs_h6.1 32 (by decide)).2.1 ?_
      obtain ⟨h8, E9⟩ : ∃ z, z = ea_wi h6 (b0 + 32) 10 ((ea_i h6 (b0 + 32) 10) - (1 : Int32)) := ⟨_, rfl⟩
      have H := H h8 E9
      refine ea_nm E9 ?_
      have hs_h8 : ShC b0 h8 := by rw [E9]; exact ShC_wi hs_h6
      exact H
  · have H := H.2 c18
    refine ea_aload_n (pc := 9) dX1_move_9 rfl 0 rfl ?_
    refine ea_getR (pc := 10) dX1_move_10 ec_1 (k := 8) (Nat.le_of_ble_eq_true rfl) rfl (Or.inl ew_374) (hs_h.1 32 (by decide)).1 (hs_h.1 32 (by decide)).2.1 (hs_h.2 32 8 rfl) ?_
    refine ea_aload_n (pc := 13) dX1_move_13 rfl 0 rfl ?_
    refine ea_getR (pc := 14) dX1_move_14 ec_1 (k := 2) (Nat.le_of_ble_eq_true rfl) rfl (Or.inl ew_363) (hs_h.1 32 (by decide)).1 (hs_h.1 32 (by decide)).2.1 (hs_h.2 32 2 rfl) ?_
    refine ea_iload_n (pc := 17) dX1_move_17 rfl 1 rfl ?_
    obtain ⟨z11, H⟩ := H
    refine ea_iald (pc := 18) dX1_move_18 (hs_h.1 34 (by decide)).1 (hs_h.1 34 (by decide)).2.1 (ea_vpl (hs_h.1 34 (by decide)).2.2 z11) ?_
    refine ea_dup2 (pc := 19) dX1_move_19 rfl rfl ?_
    obtain ⟨z12, H⟩ := H
    refine ea_iald (pc := 20) dX1_move_20 (hs_h.1 40 (by decide)).1 (hs_h.1 40 (by decide)).2.1 (ea_vpl (hs_h.1 40 (by decide)).2.2 z12) ?_
    refine ea_iconst (pc := 21) dX1_move_21 (v := 1) rfl ?_
    refine ea_isub (pc := 22) dX1_move_22 ?_
    obtain ⟨z13, H⟩ := H
    refine ea_iast (pc := 23) dX1_move_23 (hs_h.1 40 (by decide)).1 (hs_h.1 40 (by decide)).2.1 (ea_vpl (hs_h.1 40 (by decide)).2.2 z13) ?_
    obtain ⟨h14, E15⟩ : ∃ z, z = ea_wi h (b0 + 40) (Int32.toNatClampNeg (ea_i h (b0 + 34) (Int32.toNatClampNeg x1))) ((ea_i h (b0 + 40) (Int32.toNatClampNeg (ea_i h (b0 + 34) (Int32.toNatClampNeg x1)))) - (1 : Int32)) := ⟨_, rfl⟩
    have H := H h14 E15
    refine ea_nm E15 ?_
    have hs_h14 : ShC b0 h14 := by rw [E15]; exact ShC_wi hs_h
    refine ea_aload_n (pc := 24) dX1_move_24 rfl 0 rfl ?_
    refine ea_dup (pc := 25) dX1_move_25 rfl ?_
    refine ea_getI (pc := 26) dX1_move_26 ec_1 (k := 10) (Nat.le_of_ble_eq_true rfl) rfl (Or.inl ew_376) (hs_h14.1 32 (by decide)).1 (hs_h14.1 32 (by decide)).2.1 ?_
    refine ea_iconst (pc := 29) dX1_move_29 (v := 1) rfl ?_
    refine ea_isub (pc := 30) dX1_move_30 ?_
    refine ea_putI (pc := 31) dX1_move_31 ec_1 (k := 10) (Nat.le_of_ble_eq_true rfl) rfl (Or.inl ⟨rfl, Or.inl ew_376⟩) rfl rfl (hs_h14.1 32 (by decide)).1 (hs_h14.1 32 (by decide)).2.1 ?_
    obtain ⟨h16, E17⟩ : ∃ z, z = ea_wi h14 (b0 + 32) 10 ((ea_i h14 (b0 + 32) 10) - (1 : Int32)) := ⟨_, rfl⟩
    have H := H h16 E17
    refine ea_nm E17 ?_
    have hs_h16 : ShC b0 h16 := by rw [E17]; exact ShC_wi hs_h14
    refine ea_goto (pc := 34) (tgt := 72) dX1_move_34 rfl ?_
    exact H
theorem pX1_move_at32_72 {d b0 : Nat} {h0 hE h : ea_H} {rv : Option ea_V} {x1 : Int32} {x2 : Int32} {x3 : Int32} {x4 : Int32} (hd : 1 ≤ d) (hs_h : ShC b0 h) (H : (¬ x3 = (0 : Int32) → (¬ x3 = (1 : Int32) → ea_W mX1_move d h0 rv hE 126 [(0, vR (some (b0 + 32))), (1, vI x1), (2, vI x2), (3, vI x3), (4, vI x4)] [] h) ∧ (x3 = (1 : Int32) → vp_in x4 70 ∧ vp_in x4 70 ∧ ∀ h3, h3 = ea_wi h (b0 + 41) (Int32.toNatClampNeg x4) ((ea_i h (b0 + 41) (Int32.toNatClampNeg x4)) + (1 : Int32)) → ∀ h5, h5 = ea_wi h3 (b0 + 32) 10 ((ea_i h3 (b0 + 32) 10) + (1 : Int32)) → ea_W mX1_move d h0 rv hE 126 [(0, vR (some (b0 + 32))), (1, vI x1), (2, vI x2), (3, vI x3), (4, vI x4)] [] h5)) ∧ (x3 = (0 : Int32) → vp_in x4 12 ∧ vp_in x4 12 ∧ ∀ h10, h10 = ea_wi h (b0 + 40) (Int32.toNatClampNeg x4) ((ea_i h (b0 + 40) (Int32.toNatClampNeg x4)) + (1 : Int32)) → ∀ h12, h12 = ea_wi h10 (b0 + 32) 10 ((ea_i h10 (b0 + 32) 10) + (1 : Int32)) → ea_W mX1_move d h0 rv hE 126 [(0, vR (some (b0 + 32))), (1, vI x1), (2, vI x2), (3, vI x3), (4, vI x4)] [] h12)) : ea_W mX1_move d h0 rv hE 72 [(0, vR (some (b0 + 32))), (1, vI x1), (2, vI x2), (3, vI x3), (4, vI x4)] [] h := by
  refine ea_iload_n (pc := 72) dX1_move_72 rfl 3 rfl ?_
  refine ea_if_ne (pc := 73) (tgt := 100) dX1_move_73 rfl (fun c14 => ?_) (fun c14 => ?_)
  · have H := H.1 c14
    refine ea_iload_n (pc := 100) dX1_move_100 rfl 3 rfl ?_
    refine ea_iconst (pc := 101) dX1_move_101 (v := 1) rfl ?_
    refine ea_icmp_ne (pc := 102) (tgt := 126) dX1_move_102 rfl (fun c7 => ?_) (fun c7 => ?_)
    · have H := H.1 c7
      exact H
    · have H := H.2 c7
      refine ea_aload_n (pc := 105) dX1_move_105 rfl 0 rfl ?_
      refine ea_getR (pc := 106) dX1_move_106 ec_1 (k := 9) (Nat.le_of_ble_eq_true rfl) rfl (Or.inl ew_375) (hs_h.1 32 (by decide)).1 (hs_h.1 32 (by decide)).2.1 (hs_h.2 32 9 rfl) ?_
      refine ea_iload (pc := 109) dX1_move_109 4 rfl ?_
      refine ea_dup2 (pc := 111) dX1_move_111 rfl rfl ?_
      obtain ⟨z1, H⟩ := H
      refine ea_iald (pc := 112) dX1_move_112 (hs_h.1 41 (by decide)).1 (hs_h.1 41 (by decide)).2.1 (ea_vpl (hs_h.1 41 (by decide)).2.2 z1) ?_
      refine ea_iconst (pc := 113) dX1_move_113 (v := 1) rfl ?_
      refine ea_iadd (pc := 114) dX1_move_114 ?_
      obtain ⟨z2, H⟩ := H
      refine ea_iast (pc := 115) dX1_move_115 (hs_h.1 41 (by decide)).1 (hs_h.1 41 (by decide)).2.1 (ea_vpl (hs_h.1 41 (by decide)).2.2 z2) ?_
      obtain ⟨h3, E4⟩ : ∃ z, z = ea_wi h (b0 + 41) (Int32.toNatClampNeg x4) ((ea_i h (b0 + 41) (Int32.toNatClampNeg x4)) + (1 : Int32)) := ⟨_, rfl⟩
      have H := H h3 E4
      refine ea_nm E4 ?_
      have hs_h3 : ShC b0 h3 := by rw [E4]; exact ShC_wi hs_h
      refine ea_aload_n (pc := 116) dX1_move_116 rfl 0 rfl ?_
      refine ea_dup (pc := 117) dX1_move_117 rfl ?_
      refine ea_getI (pc := 118) dX1_move_118 ec_1 (k := 10) (Nat.le_of_ble_eq_true rfl) rfl (Or.inl ew_376) (hs_h3.1 32 (by decide)).1 (hs_h3.1 32 (by decide)).2.1 ?_
      refine ea_iconst (pc := 121) dX1_move_121 (v := 1) rfl ?_
      refine ea_iadd (pc := 122) dX1_move_122 ?_
      refine ea_putI (pc := 123) dX1_move_123 ec_1 (k := 10) (Nat.le_of_ble_eq_true rfl) rfl (Or.inl ⟨rfl, Or.inl ew_376⟩) rfl rfl (hs_h3.1 32 (by decide)).1 (hs_h3.1 32 (by decide)).2.1 ?_
      obtain ⟨h5, E6⟩ : ∃ z, z = ea_wi h3 (b0 + 32) 10 ((ea_i h3 (b0 + 32) 10) + (1 : Int32)) := ⟨_, rfl⟩
      have H := H h5 E6
      refine ea_nm E6 ?_
      have hs_h5 : ShC b0 h5 := by rw [E6]; exact ShC_wi hs_h3
      exact H
  · have H := H.2 c14
    refine ea_aload_n (pc := 76) dX1_move_76 rfl 0 rfl ?_
    refine ea_getR (pc := 77) dX1_move_77 ec_1 (k := 8) (Nat.le_of_ble_eq_true rfl) rfl (Or.inl ew_374) (hs_h.1 32 (by decide)).1 (hs_h.1 32 (by decide)).2.1 (hs_h.2 32 8 rfl) ?_
    refine ea_iload (pc := 80) dX1_move_80 4 rfl ?_
    refine ea_dup2 (pc := 82) dX1_move_82 rfl rfl ?_
    obtain ⟨z8, H⟩ := H
    refine ea_iald (pc := 83) dX1_move_83 (hs_h.1 40 (by decide)).1 (hs_h.1 40 (by decide)).2.1 (ea_vpl (hs_h.1 40 (by decide)).2.2 z8) ?_
    refine ea_iconst (pc := 84) dX1_move_84 (v := 1) rfl ?_
    refine ea_iadd (pc := 85) dX1_move_85 ?_
    obtain ⟨z9, H⟩ := H
    refine ea_iast (pc := 86) dX1_move_86 (hs_h.1 40 (by decide)).1 (hs_h.1 40 (by decide)).2.1 (ea_vpl (hs_h.1 40 (by decide)).2.2 z9) ?_
    obtain ⟨h10, E11⟩ : ∃ z, z = ea_wi h (b0 + 40) (Int32.toNatClampNeg x4) ((ea_i h (b0 + 40) (Int32.toNatClampNeg x4)) + (1 : Int32)) := ⟨_, rfl⟩
    have H := H h10 E11
    refine ea_nm E11 ?_
    have hs_h10 : ShC b0 h10 := by rw [E11]; exact ShC_wi hs_h
    refine ea_aload_n (pc := 87) dX1_move_87 rfl 0 rfl ?_
    refine ea_dup (pc := 88) dX1_move_88 rfl ?_
    refine ea_getI (pc := 89) dX1_move_89 ec_1 (k := 10) (Nat.le_of_ble_eq_true rfl) rfl (Or.inl ew_376) (hs_h10.1 32 (by decide)).1 (hs_h10.1 32 (by decide)).2.1 ?_
    refine ea_iconst (pc := 92) dX1_move_92 (v := 1) rfl ?_
    refine ea_iadd (pc := 93) dX1_move_93 ?_
    refine ea_putI (pc := 94) dX1_move_94 ec_1 (k := 10) (Nat.le_of_ble_eq_true rfl) rfl (Or.inl ⟨rfl, Or.inl ew_376⟩) rfl rfl (hs_h10.1 32 (by decide)).1 (hs_h10.1 32 (by decide)).2.1 ?_
    obtain ⟨h12, E13⟩ : ∃ z, z = ea_wi h10 (b0 + 32) 10 ((ea_i h10 (b0 + 32) 10) + (1 : Int32)) := ⟨_, rfl⟩
    have H := H h12 E13
    refine ea_nm E13 ?_
    have hs_h12 : ShC b0 h12 := by rw [E13]; exact ShC_wi hs_h10
    refine ea_goto (pc := 97) (tgt := 126) dX1_move_97 rfl ?_
    exact H
theorem pX1_move_at32_126 {d b0 : Nat} {h0 hE h : ea_H} {rv : Option ea_V} {x1 : Int32} {x2 : Int32} {x3 : Int32} {x4 : Int32} (hd : 1 ≤ d) (hs_h : ShC b0 h) (H : vp_in x1 120 ∧ ∀ h2, h2 = ea_wi h (b0 + 33) (Int32.toNatClampNeg x1) x3 → vp_in x1 120 ∧ ∀ h5, h5 = ea_wi h2 (b0 + 34) (Int32.toNatClampNeg x1) x4 → vp_in x1 120 ∧ ∀ h8, h8 = ea_wi h5 (b0 + 39) (Int32.toNatClampNeg x1) x2 → vp_in x1 120 ∧ ∀ h11, h11 = ea_wi h8 (b0 + 37) (Int32.toNatClampNeg x1) 0 → ((ea_i h11 (b0 + 32) 15) = (0 : Int32) → rv = none ∧ hE = h11) ∧ (¬ (ea_i h11 (b0 + 32) 15) = (0 : Int32) → vp_in x1 120 ∧ ∃ a20, (ea_r h11 (b0 + 31) (Int32.toNatClampNeg x1)) = some a20 ∧ a20 < ea_n h11 ∧ ea_c h11 a20 = 4 ∧ ∃ (d14 : Nat) (h15 : ea_H), ea_Met mX4_note d14 [vR (some a20), vI x2, vI x3, vI x4] h11 none h15 ∧ d14 + 1 ≤ d ∧ ShC b0 h15 ∧ rv = none ∧ hE = h15)) : ea_W mX1_move d h0 rv hE 126 [(0, vR (some (b0 + 32))), (1, vI x1), (2, vI x2), (3, vI x3), (4, vI x4)] [] h := by
  refine ea_aload_n (pc := 126) dX1_move_126 rfl 0 rfl ?_
  refine ea_getR (pc := 127) dX1_move_127 ec_1 (k := 1) (Nat.le_of_ble_eq_true rfl) rfl (Or.inl ew_361) (hs_h.1 32 (by decide)).1 (hs_h.1 32 (by decide)).2.1 (hs_h.2 32 1 rfl) ?_
  refine ea_iload_n (pc := 130) dX1_move_130 rfl 1 rfl ?_
  refine ea_iload_n (pc := 131) dX1_move_131 rfl 3 rfl ?_
  obtain ⟨z1, H⟩ := H
  refine ea_iast (pc := 132) dX1_move_132 (hs_h.1 33 (by decide)).1 (hs_h.1 33 (by decide)).2.1 (ea_vpl (hs_h.1 33 (by decide)).2.2 z1) ?_
  obtain ⟨h2, E3⟩ : ∃ z, z = ea_wi h (b0 + 33) (Int32.toNatClampNeg x1) x3 := ⟨_, rfl⟩
  have H := H h2 E3
  refine ea_nm E3 ?_
  have hs_h2 : ShC b0 h2 := by rw [E3]; exact ShC_wi hs_h
  refine ea_aload_n (pc := 133) dX1_move_133 rfl 0 rfl ?_
  refine ea_getR (pc := 134) dX1_move_134 ec_1 (k := 2) (Nat.le_of_ble_eq_true rfl) rfl (Or.inl ew_363) (hs_h2.1 32 (by decide)).1 (hs_h2.1 32 (by decide)).2.1 (hs_h2.2 32 2 rfl) ?_
  refine ea_iload_n (pc := 137) dX1_move_137 rfl 1 rfl ?_
  refine ea_iload (pc := 138) dX1_move_138 4 rfl ?_
  obtain ⟨z4, H⟩ := H
  refine ea_iast (pc := 140) dX1_move_140 (hs_h2.1 34 (by decide)).1 (hs_h2.1 34 (by decide)).2.1 (ea_vpl (hs_h2.1 34 (by decide)).2.2 z4) ?_
  obtain ⟨h5, E6⟩ : ∃ z, z = ea_wi h2 (b0 + 34) (Int32.toNatClampNeg x1) x4 := ⟨_, rfl⟩
  have H := H h5 E6
  refine ea_nm E6 ?_
  have hs_h5 : ShC b0 h5 := by rw [E6]; exact ShC_wi hs_h2
  refine ea_aload_n (pc := 141) dX1_move_141 rfl 0 rfl ?_
  refine ea_getR (pc := 142) dX1_move_142 ec_1 (k := 7) (Nat.le_of_ble_eq_true rfl) rfl (Or.inl ew_373) (hs_h5.1 32 (by decide)).1 (hs_h5.1 32 (by decide)).2.1 (hs_h5.2 32 7 rfl) ?_
  refine ea_iload_n (pc := 145) dX1_move_145 rfl 1 rfl ?_
  refine ea_iload_n (pc := 146) dX1_move_146 rfl 2 rfl ?_
  obtain ⟨z7, H⟩ := H
  refine ea_iast (pc := 147) dX1_move_147 (hs_h5.1 39 (by decide)).1 (hs_h5.1 39 (by decide)).2.1 (ea_vpl (hs_h5.1 39 (by decide)).2.2 z7) ?_
  obtain ⟨h8, E9⟩ : ∃ z, z = ea_wi h5 (b0 + 39) (Int32.toNatClampNeg x1) x2 := ⟨_, rfl⟩
  have H := H h8 E9
  refine ea_nm E9 ?_
  have hs_h8 : ShC b0 h8 := by rw [E9]; exact ShC_wi hs_h5
  refine ea_aload_n (pc := 148) dX1_move_148 rfl 0 rfl ?_
  refine ea_getR (pc := 149) dX1_move_149 ec_1 (k := 5) (Nat.le_of_ble_eq_true rfl) rfl (Or.inl ew_369) (hs_h8.1 32 (by decide)).1 (hs_h8.1 32 (by decide)).2.1 (hs_h8.2 32 5 rfl) ?_
  refine ea_iload_n (pc := 152) dX1_move_152 rfl 1 rfl ?_
  refine ea_iconst (pc := 153) dX1_move_153 (v := 0) rfl ?_
  obtain ⟨z10, H⟩ := H
  refine ea_zast (pc := 154) dX1_move_154 (y := 0) (ea_bn (Or.inl rfl)) (hs_h8.1 37 (by decide)).1 (hs_h8.1 37 (by decide)).2.1 (ea_vpl (hs_h8.1 37 (by decide)).2.2 z10) ?_
  obtain ⟨h11, E12⟩ : ∃ z, z = ea_wi h8 (b0 + 37) (Int32.toNatClampNeg x1) 0 := ⟨_, rfl⟩
  have H := H h11 E12
  refine ea_nm E12 ?_
  have hs_h11 : ShC b0 h11 := by rw [E12]; exact ShC_wi hs_h8
  refine ea_aload_n (pc := 155) dX1_move_155 rfl 0 rfl ?_
  refine ea_getI (pc := 156) dX1_move_156 ec_1 (k := 15) (Nat.le_of_ble_eq_true rfl) rfl (Or.inl ew_381) (hs_h11.1 32 (by decide)).1 (hs_h11.1 32 (by decide)).2.1 ?_
  refine ea_if_eq (pc := 159) (tgt := 175) dX1_move_159 rfl (fun c22 => ?_) (fun c22 => ?_)
  · have H := H.1 c22
    obtain ⟨rfl, rfl⟩ := H
    exact ea_return (pc := 175) dX1_move_175 rfl
  · have H := H.2 c22
    refine ea_aload_n (pc := 162) dX1_move_162 rfl 0 rfl ?_
    refine ea_getR (pc := 163) dX1_move_163 ec_1 (k := 14) (Nat.le_of_ble_eq_true rfl) rfl (Or.inl ew_380) (hs_h11.1 32 (by decide)).1 (hs_h11.1 32 (by decide)).2.1 (hs_h11.2 32 14 rfl) ?_
    refine ea_iload_n (pc := 166) dX1_move_166 rfl 1 rfl ?_
    obtain ⟨z13, H⟩ := H
    refine ea_aald23 (pc := 167) dX1_move_167 (hs_h11.1 31 (by decide)).1 (hs_h11.1 31 (by decide)).2.1 (ea_vpl (hs_h11.1 31 (by decide)).2.2 z13) rfl ?_
    refine ea_iload_n (pc := 168) dX1_move_168 rfl 2 rfl ?_
    refine ea_iload_n (pc := 169) dX1_move_169 rfl 3 rfl ?_
    refine ea_iload (pc := 170) dX1_move_170 4 rfl ?_
    obtain ⟨a20, e21, f18, g19, H⟩ := H
    refine ea_deref3 e21 ?_
    obtain ⟨d14, h15, m16, q17, hs_h15, H⟩ := H
    refine ea_callV (pc := 172) (As := [vI x2, vI x3, vI x4]) (st := []) dX1_move_172 kX4_note m16 q17 rfl (Nat.le_of_ble_eq_true rfl) ew_649 ew_650 ew_651 (ci := 4) rfl (by decide) f18 g19 ?_
    obtain ⟨rfl, rfl⟩ := H
    exact ea_return (pc := 175) dX1_move_175 rfl
theorem pX1_move_at42_0 {d b0 : Nat} {h0 hE h : ea_H} {rv : Option ea_V} {x1 : Int32} {x2 : Int32} {x3 : Int32} {x4 : Int32} (hd : 1 ≤ d) (hs_h : ShC b0 h) (H : vp_in x1 120 ∧ (¬ (ea_i h (b0 + 43) (Int32.toNatClampNeg x1)) = (0 : Int32) → vp_in x1 120 ∧ (¬ (ea_i h (b0 + 43) (Int32.toNatClampNeg x1)) = (1 : Int32) → ea_W mX1_move d h0 rv hE 72 [(0, vR (some (b0 + 42))), (1, vI x1), (2, vI x2), (3, vI x3), (4, vI x4)] [] h) ∧ ((ea_i h (b0 + 43) (Int32.toNatClampNeg x1)) = (1 : Int32) → vp_in x1 120 ∧ vp_in (ea_i h (b0 + 44) (Int32.toNatClampNeg x1)) 70 ∧ vp_in (ea_i h (b0 + 44) (Int32.toNatClampNeg x1)) 70 ∧ ∀ h6, h6 = ea_wi h (b0 + 51) (Int32.toNatClampNeg (ea_i h (b0 + 44) (Int32.toNatClampNeg x1))) ((ea_i h (b0 + 51) (Int32.toNatClampNeg (ea_i h (b0 + 44) (Int32.toNatClampNeg x1)))) - (1 : Int32)) → ∀ h8, h8 = ea_wi h6 (b0 + 42) 10 ((ea_i h6 (b0 + 42) 10) - (1 : Int32)) → ea_W mX1_move d h0 rv hE 72 [(0, vR (some (b0 + 42))), (1, vI x1), (2, vI x2), (3, vI x3), (4, vI x4)] [] h8)) ∧ ((ea_i h (b0 + 43) (Int32.toNatClampNeg x1)) = (0 : Int32) → vp_in x1 120 ∧ vp_in (ea_i h (b0 + 44) (Int32.toNatClampNeg x1)) 12 ∧ vp_in (ea_i h (b0 + 44) (Int32.toNatClampNeg x1)) 12 ∧ ∀ h14, h14 = ea_wi h (b0 + 50) (Int32.toNatClampNeg (ea_i h (b0 + 44) (Int32.toNatClampNeg x1))) ((ea_i h (b0 + 50) (Int32.toNatClampNeg (ea_i h (b0 + 44) (Int32.toNatClampNeg x1)))) - (1 : Int32)) → ∀ h16, h16 = ea_wi h14 (b0 + 42) 10 ((ea_i h14 (b0 + 42) 10) - (1 : Int32)) → ea_W mX1_move d h0 rv hE 72 [(0, vR (some (b0 + 42))), (1, vI x1), (2, vI x2), (3, vI x3), (4, vI x4)] [] h16)) : ea_W mX1_move d h0 rv hE 0 [(0, vR (some (b0 + 42))), (1, vI x1), (2, vI x2), (3, vI x3), (4, vI x4)] [] h := by
  refine ea_aload_n (pc := 0) dX1_move_0 rfl 0 rfl ?_
  refine ea_getR (pc := 1) dX1_move_1 ec_1 (k := 1) (Nat.le_of_ble_eq_true rfl) rfl (Or.inl ew_361) (hs_h.1 42 (by decide)).1 (hs_h.1 42 (by decide)).2.1 (hs_h.2 42 1 rfl) ?_
  refine ea_iload_n (pc := 4) dX1_move_4 rfl 1 rfl ?_
  obtain ⟨z1, H⟩ := H
  refine ea_iald (pc := 5) dX1_move_5 (hs_h.1 43 (by decide)).1 (hs_h.1 43 (by decide)).2.1 (ea_vpl (hs_h.1 43 (by decide)).2.2 z1) ?_
  refine ea_if_ne (pc := 6) (tgt := 37) dX1_move_6 rfl (fun c18 => ?_) (fun c18 => ?_)
  · have H := H.1 c18
    refine ea_aload_n (pc := 37) dX1_move_37 rfl 0 rfl ?_
    refine ea_getR (pc := 38) dX1_move_38 ec_1 (k := 1) (Nat.le_of_ble_eq_true rfl) rfl (Or.inl ew_361) (hs_h.1 42 (by decide)).1 (hs_h.1 42 (by decide)).2.1 (hs_h.2 42 1 rfl) ?_
    refine ea_iload_n (pc := 41) dX1_move_41 rfl 1 rfl ?_
    obtain ⟨z2, H⟩ := H
    refine ea_iald (pc := 42) dX1_move_42 (hs_h.1 43 (by decide)).1 (hs_h.1 43 (by decide)).2.1 (ea_vpl (hs_h.1 43 (by decide)).2.2 z2) ?_
    refine ea_iconst (pc := 43) dX1_move_43 (v := 1) rfl ?_
    refine ea_icmp_ne (pc := 44) (tgt := 72) dX1_move_44 rfl (fun c10 => ?_) (fun c10 => ?_)
    · have H := H.1 c10
      exact H
    · have H := H.2 c10
      refine ea_aload_n (pc := 47) dX1_move_47 rfl 0 rfl ?_
      refine ea_getR (pc := 48) dX1_move_48 ec_1 (k := 9) (Nat.le_of_ble_eq_true rfl) rfl (Or.inl ew_375) (hs_h.1 42 (by decide)).1 (hs_h.1 42 (by decide)).2.1 (hs_h.2 42 9 rfl) ?_
      refine ea_aload_n (pc := 51) dX1_move_51 rfl 0 rfl ?_
      refine ea_getR (pc := 52) dX1_move_52 ec_1 (k := 2) (Nat.le_of_ble_eq_true rfl) rfl (Or.inl ew_363) (hs_h.1 42 (by decide)).1 (hs_h.1 42 (by decide)).2.1 (hs_h.2 42 2 rfl) ?_
      refine ea_iload_n (pc := 55) dX1_move_55 rfl 1 rfl ?_
      obtain ⟨z3, H⟩ := H
      refine ea_iald (pc := 56) dX1_move_56 (hs_h.1 44 (by decide)).1 (hs_h.1 44 (by decide)).2.1 (ea_vpl (hs_h.1 44 (by decide)).2.2 z3) ?_
      refine ea_dup2 (pc := 57) dX1_move_57 rfl rfl ?_
      obtain ⟨z4, H⟩ := H
      refine ea_iald (pc := 58) dX1_move_58 (hs_h.1 51 (by decide)).1 (hs_h.1 51 (by decide)).2.1 (ea_vpl (hs_h.1 51 (by decide)).2.2 z4) ?_
      refine ea_iconst (pc := 59) dX1_move_59 (v := 1) rfl ?_
      refine ea_isub (pc := 60) dX1_move_60 ?_
      obtain ⟨z5, H⟩ := H
      refine ea_iast (pc := 61) dX1_move_61 (hs_h.1 51 (by decide)).1 (hs_h.1 51 (by decide)).2.1 (ea_vpl (hs_h.1 51 (by decide)).2.2 z5) ?_
      obtain ⟨h6, E7⟩ : ∃ z, z = ea_wi h (b0 + 51) (Int32.toNatClampNeg (ea_i h (b0 + 44) (Int32.toNatClampNeg x1))) ((ea_i h (b0 + 51) (Int32.toNatClampNeg (ea_i h (b0 + 44) (Int32.toNatClampNeg x1)))) - (1 : Int32)) := ⟨_, rfl⟩
      have H := H h6 E7
      refine ea_nm E7 ?_
      have hs_h6 : ShC b0 h6 := by rw [E7]; exact ShC_wi hs_h
      refine ea_aload_n (pc := 62) dX1_move_62 rfl 0 rfl ?_
      refine ea_dup (pc := 63) dX1_move_63 rfl ?_
      refine ea_getI (pc := 64) dX1_move_64 ec_1 (k := 10) (Nat.le_of_ble_eq_true rfl) rfl (Or.inl ew_376) (hs_h6.1 42 (by decide)).1 (hs_h6.1 42 (by decide)).2.1 ?_
      refine ea_iconst (pc := 67) dX1_move_67 (v := 1) rfl ?_
      refine ea_isub (pc := 68) dX1_move_68 ?_
      refine ea_putI (pc := 69) dX1_move_69 ec_1 (k := 10) (Nat.le_of_ble_eq_true rfl) rfl (Or.inl ⟨rfl, Or.inl ew_376⟩) rfl rfl (hs_h6.1 42 (by decide)).1 (hs_h6.1 42 (by decide)).2.1 ?_
      obtain ⟨h8, E9⟩ : ∃ z, z = ea_wi h6 (b0 + 42) 10 ((ea_i h6 (b0 + 42) 10) - (1 : Int32)) := ⟨_, rfl⟩
      have H := H h8 E9
      refine ea_nm E9 ?_
      have hs_h8 : ShC b0 h8 := by rw [E9]; exact ShC_wi hs_h6
      exact H
  · have H := H.2 c18
    refine ea_aload_n (pc := 9) dX1_move_9 rfl 0 rfl ?_
    refine ea_getR (pc := 10) dX1_move_10 ec_1 (k := 8) (Nat.le_of_ble_eq_true rfl) rfl (Or.inl ew_374) (hs_h.1 42 (by decide)).1 (hs_h.1 42 (by decide)).2.1 (hs_h.2 42 8 rfl) ?_
    refine ea_aload_n (pc := 13) dX1_move_13 rfl 0 rfl ?_
    refine ea_getR (pc := 14) dX1_move_14 ec_1 (k := 2) (Nat.le_of_ble_eq_true rfl) rfl (Or.inl ew_363) (hs_h.1 42 (by decide)).1 (hs_h.1 42 (by decide)).2.1 (hs_h.2 42 2 rfl) ?_
    refine ea_iload_n (pc := 17) dX1_move_17 rfl 1 rfl ?_
    obtain ⟨z11, H⟩ := H
    refine ea_iald (pc := 18) dX1_move_18 (hs_h.1 44 (by decide)).1 (hs_h.1 44 (by decide)).2.1 (ea_vpl (hs_h.1 44 (by decide)).2.2 z11) ?_
    refine ea_dup2 (pc := 19) dX1_move_19 rfl rfl ?_
    obtain ⟨z12, H⟩ := H
    refine ea_iald (pc := 20) dX1_move_20 (hs_h.1 50 (by decide)).1 (hs_h.1 50 (by decide)).2.1 (ea_vpl (hs_h.1 50 (by decide)).2.2 z12) ?_
    refine ea_iconst (pc := 21) dX1_move_21 (v := 1) rfl ?_
    refine ea_isub (pc := 22) dX1_move_22 ?_
    obtain ⟨z13, H⟩ := H
    refine ea_iast (pc := 23) dX1_move_23 (hs_h.1 50 (by decide)).1 (hs_h.1 50 (by decide)).2.1 (ea_vpl (hs_h.1 50 (by decide)).2.2 z13) ?_
    obtain ⟨h14, E15⟩ : ∃ z, z = ea_wi h (b0 + 50) (Int32.toNatClampNeg (ea_i h (b0 + 44) (Int32.toNatClampNeg x1))) ((ea_i h (b0 + 50) (Int32.toNatClampNeg (ea_i h (b0 + 44) (Int32.toNatClampNeg x1)))) - (1 : Int32)) := ⟨_, rfl⟩
    have H := H h14 E15
    refine ea_nm E15 ?_
    have hs_h14 : ShC b0 h14 := by rw [E15]; exact ShC_wi hs_h
    refine ea_aload_n (pc := 24) dX1_move_24 rfl 0 rfl ?_
    refine ea_dup (pc := 25) dX1_move_25 rfl ?_
    refine ea_getI (pc := 26) dX1_move_26 ec_1 (k := 10) (Nat.le_of_ble_eq_true rfl) rfl (Or.inl ew_376) (hs_h14.1 42 (by decide)).1 (hs_h14.1 42 (by decide)).2.1 ?_
    refine ea_iconst (pc := 29) dX1_move_29 (v := 1) rfl ?_
    refine ea_isub (pc := 30) dX1_move_30 ?_
    refine ea_putI (pc := 31) dX1_move_31 ec_1 (k := 10) (Nat.le_of_ble_eq_true rfl) rfl (Or.inl ⟨rfl, Or.inl ew_376⟩) rfl rfl (hs_h14.1 42 (by decide)).1 (hs_h14.1 42 (by decide)).2.1 ?_
    obtain ⟨h16, E17⟩ : ∃ z, z = ea_wi h14 (b0 + 42) 10 ((ea_i h14 (b0 + 42) 10) - (1 : Int32)) := ⟨_, rfl⟩
    have H := H h16 E17
    refine ea_nm E17 ?_
    have hs_h16 : ShC b0 h16 := by rw [E17]; exact ShC_wi hs_h14
    refine ea_goto (pc := 34) (tgt := 72) dX1_move_34 rfl ?_
    exact H
theorem pX1_move_at42_72 {d b0 : Nat} {h0 hE h : ea_H} {rv : Option ea_V} {x1 : Int32} {x2 : Int32} {x3 : Int32} {x4 : Int32} (hd : 1 ≤ d) (hs_h : ShC b0 h) (H : (¬ x3 = (0 : Int32) → (¬ x3 = (1 : Int32) → ea_W mX1_move d h0 rv hE 126 [(0, vR (some (b0 + 42))), (1, vI x1), (2, vI x2), (3, vI x3), (4, vI x4)] [] h) ∧ (x3 = (1 : Int32) → vp_in x4 70 ∧ vp_in x4 70 ∧ ∀ h3, h3 = ea_wi h (b0 + 51) (Int32.toNatClampNeg x4) ((ea_i h (b0 + 51) (Int32.toNatClampNeg x4)) + (1 : Int32)) → ∀ h5, h5 = ea_wi h3 (b0 + 42) 10 ((ea_i h3 (b0 + 42) 10) + (1 : Int32)) → ea_W mX1_move d h0 rv hE 126 [(0, vR (some (b0 + 42))), (1, vI x1), (2, vI x2), (3, vI x3), (4, vI x4)] [] h5)) ∧ (x3 = (0 : Int32) → vp_in x4 12 ∧ vp_in x4 12 ∧ ∀ h10, h10 = ea_wi h (b0 + 50) (Int32.toNatClampNeg x4) ((ea_i h (b0 + 50) (Int32.toNatClampNeg x4)) + (1 : Int32)) → ∀ h12, h12 = ea_wi h10 (b0 + 42) 10 ((ea_i h10 (b0 + 42) 10) + (1 : Int32)) → ea_W mX1_move d h0 rv hE 126 [(0, vR (some (b0 + 42))), (1, vI x1), (2, vI x2), (3, vI x3), (4, vI x4)] [] h12)) : ea_W mX1_move d h0 rv hE 72 [(0, vR (some (b0 + 42))), (1, vI x1), (2, vI x2), (3, vI x3), (4, vI x4)] [] h := by
  refine ea_iload_n (pc := 72) dX1_move_72 rfl 3 rfl ?_
  refine ea_if_ne (pc := 73) (tgt := 100) dX1_move_73 rfl (fun c14 => ?_) (fun c14 => ?_)
  · have H := H.1 c14
    refine ea_iload_n (pc := 100) dX1_move_100 rfl 3 rfl ?_
    refine ea_iconst (pc := 101) dX1_move_101 (v := 1) rfl ?_
    refine ea_icmp_ne (pc := 102) (tgt := 126) dX1_move_102 rfl (fun c7 => ?_) (fun c7 => ?_)
    · have H := H.1 c7
      exact H
    · have H := H.2 c7
      refine ea_aload_n (pc := 105) dX1_move_105 rfl 0 rfl ?_
      refine ea_getR (pc := 106) dX1_move_106 ec_1 (k := 9) (Nat.le_of_ble_eq_true rfl) rfl (Or.inl ew_375) (hs_h.1 42 (by decide)).1 (hs_h.1 42 (by decide)).2.1 (hs_h.2 42 9 rfl) ?_
      refine ea_iload (pc := 109) dX1_move_109 4 rfl ?_
      refine ea_dup2 (pc := 111) dX1_move_111 rfl rfl ?_
      obtain ⟨z1, H⟩ := H
      refine ea_iald (pc := 112) dX1_move_112 (hs_h.1 51 (by decide)).1 (hs_h.1 51 (by decide)).2.1 (ea_vpl (hs_h.1 51 (by decide)).2.2 z1) ?_
      refine ea_iconst (pc := 113) dX1_move_113 (v := 1) rfl ?_
      refine ea_iadd (pc := 114) dX1_move_114 ?_
      obtain ⟨z2, H⟩ := H
      refine ea_iast (pc := 115) dX1_move_115 (hs_h.1 51 (by decide)).1 (hs_h.1 51 (by decide)).2.1 (ea_vpl (hs_h.1 51 (by decide)).2.2 z2) ?_
      obtain ⟨h3, E4⟩ : ∃ z, z = ea_wi h (b0 + 51) (Int32.toNatClampNeg x4) ((ea_i h (b0 + 51) (Int32.toNatClampNeg x4)) + (1 : Int32)) := ⟨_, rfl⟩
      have H := H h3 E4
      refine ea_nm E4 ?_
      have hs_h3 : ShC b0 h3 := by rw [E4]; exact ShC_wi hs_h
      refine ea_aload_n (pc := 116) dX1_move_116 rfl 0 rfl ?_
      refine ea_dup (pc := 117) dX1_move_117 rfl ?_
      refine ea_getI (pc := 118) dX1_move_118 ec_1 (k := 10) (Nat.le_of_ble_eq_true rfl) rfl (Or.inl ew_376) (hs_h3.1 42 (by decide)).1 (hs_h3.1 42 (by decide)).2.1 ?_
      refine ea_iconst (pc := 121) dX1_move_121 (v := 1) rfl ?_
      refine ea_iadd (pc := 122) dX1_move_122 ?_
      refine ea_putI (pc := 123) dX1_move_123 ec_1 (k := 10) (Nat.le_of_ble_eq_true rfl) rfl (Or.inl ⟨rfl, Or.inl ew_376⟩) rfl rfl (hs_h3.1 42 (by decide)).1 (hs_h3.1 42 (by decide)).2.1 ?_
      obtain ⟨h5, E6⟩ : ∃ z, z = ea_wi h3 (b0 + 42) 10 ((ea_i h3 (b0 + 42) 10) + (1 : Int32)) := ⟨_, rfl⟩
      have H := H h5 E6
      refine ea_nm E6 ?_
      have hs_h5 : ShC b0 h5 := by rw [E6]; exact ShC_wi hs_h3
      exact H
  · have H := H.2 c14
    refine ea_aload_n (pc := 76) dX1_move_76 rfl 0 rfl ?_
    refine ea_getR (pc := 77) dX1_move_77 ec_1 (k := 8) (Nat.le_of_ble_eq_true rfl) rfl (Or.inl ew_374) (hs_h.1 42 (by decide)).1 (hs_h.1 42 (by decide)).2.1 (hs_h.2 42 8 rfl) ?_
    refine ea_iload (pc := 80) dX1_move_80 4 rfl ?_
    refine ea_dup2 (pc := 82) dX1_move_82 rfl rfl ?_
    obtain ⟨z8, H⟩ := H
    refine ea_iald (pc := 83) dX1_move_83 (hs_h.1 50 (by decide)).1 (hs_h.1 50 (by decide)).2.1 (ea_vpl (hs_h.1 50 (by decide)).2.2 z8) ?_
    refine ea_iconst (pc := 84) dX1_move_84 (v := 1) rfl ?_
    refine ea_iadd (pc := 85) dX1_move_85 ?_
    obtain ⟨z9, H⟩ := H
    refine ea_iast (pc := 86) dX1_move_86 (hs_h.1 50 (by decide)).1 (hs_h.1 50 (by decide)).2.1 (ea_vpl (hs_h.1 50 (by decide)).2.2 z9) ?_
    obtain ⟨h10, E11⟩ : ∃ z, z = ea_wi h (b0 + 50) (Int32.toNatClampNeg x4) ((ea_i h (b0 + 50) (Int32.toNatClampNeg x4)) + (1 : Int32)) := ⟨_, rfl⟩
    have H := H h10 E11
    refine ea_nm E11 ?_
    have hs_h10 : ShC b0 h10 := by rw [E11]; exact ShC_wi hs_h
    refine ea_aload_n (pc := 87) dX1_move_87 rfl 0 rfl ?_
    refine ea_dup (pc := 88) dX1_move_88 rfl ?_
    refine ea_getI (pc := 89) dX1_move_89 ec_1 (k := 10) (Nat.le_of_ble_eq_true rfl) rfl (Or.inl ew_376) (hs_h10.1 42 (by decide)).1 (hs_h10.1 42 (by decide)).2.1 ?_
    refine ea_iconst (pc := 92) dX1_move_92 (v := 1) rfl ?_
    refine ea_iadd (pc := 93) dX1_move_93 ?_
    refine ea_putI (pc := 94) dX1_move_94 ec_1 (k := 10) (Nat.le_of_ble_eq_true rfl) rfl (Or.inl ⟨rfl, Or.inl ew_376⟩) rfl rfl (hs_h10.1 42 (by decide)).1 (hs_h10.1 42 (by decide)).2.1 ?_
    obtain ⟨h12, E13⟩ : ∃ z, z = ea_wi h10 (b0 + 42) 10 ((ea_i h10 (b0 + 42) 10) + (1 : Int32)) := ⟨_, rfl⟩
    have H := H h12 E13
    refine ea_nm E13 ?_
    have hs_h12 : ShC b0 h12 := by rw [E13]; exact ShC_wi hs_h10
    refine ea_goto (pc := 97) (tgt := 126) dX1_move_97 rfl ?_
    exact H
theorem pX1_move_at42_126 {d b0 : Nat} {h0 hE h : ea_H} {rv : Option ea_V} {x1 : Int32} {x2 : Int32} {x3 : Int32} {x4 : Int32} (hd : 1 ≤ d) (hs_h : ShC b0 h) (H : vp_in x1 120 ∧ ∀ h2, h2 = ea_wi h (b0 + 43) (Int32.toNatClampNeg x1) x3 → vp_in x1 120 ∧ ∀ h5, h5 = ea_wi h2 (b0 + 44) (Int32.toNatClampNeg x1) x4 → vp_in x1 120 ∧ ∀ h8, h8 = ea_wi h5 (b0 + 49) (Int32.toNatClampNeg x1) x2 → vp_in x1 120 ∧ ∀ h11, h11 = ea_wi h8 (b0 + 47) (Int32.toNatClampNeg x1) 0 → ((ea_i h11 (b0 + 42) 15) = (0 : Int32) → rv = none ∧ hE = h11) ∧ (¬ (ea_i h11 (b0 + 42) 15) = (0 : Int32) → vp_in x1 120 ∧ ∃ a20, (ea_r h11 (b0 + 31) (Int32.toNatClampNeg x1)) = some a20 ∧ a20 < ea_n h11 ∧ ea_c h11 a20 = 4 ∧ ∃ (d14 : Nat) (h15 : ea_H), ea_Met mX4_note d14 [vR (some a20), vI x2, vI x3, vI x4] h11 none h15 ∧ d14 + 1 ≤ d ∧ ShC b0 h15 ∧ rv = none ∧ hE = h15)) : ea_W mX1_move d h0 rv hE 126 [(0, vR (some (b0 + 42))), (1, vI x1), (2, vI x2), (3, vI x3), (4, vI x4)] [] h := by
  refine ea_aload_n (pc := 126) dX1_move_126 rfl 0 rfl ?_
  refine ea_getR (pc := 127) dX1_move_127 ec_1 (k := 1) (Nat.le_of_ble_eq_true rfl) rfl (Or.inl ew_361) (hs_h.1 42 (by decide)).1 (hs_h.1 42 (by decide)).2.1 (hs_h.2 42 1 rfl) ?_
  refine ea_iload_n (pc := 130) dX1_move_130 rfl 1 rfl ?_
  refine ea_iload_n (pc := 131) dX1_move_131 rfl 3 rfl ?_
  obtain ⟨z1, H⟩ := H
  refine ea_iast (pc := 132) dX1_move_132 (hs_h.1 43 (by decide)).1 (hs_h.1 43 (by decide)).2.1 (ea_vpl (hs_h.1 43 (by decide)).2.2 z1) ?_
  obtain ⟨h2, E3⟩ : ∃ z, z = ea_wi h (b0 + 43) (Int32.toNatClampNeg x1) x3 := ⟨_, rfl⟩
  have H := H h2 E3
  refine ea_nm E3 ?_
  have hs_h2 : ShC b0 h2 := by rw [E3]; exact ShC_wi hs_h
  refine ea_aload_n (pc := 133) dX1_move_133 rfl 0 rfl ?_
  refine ea_getR (pc := 134) dX1_move_134 ec_1 (k := 2) (Nat.le_of_ble_eq_true rfl) rfl (Or.inl ew_363) (hs_h2.1 42 (by decide)).1 (hs_h2.1 42 (by decide)).2.1 (hs_h2.2 42 2 rfl) ?_
  refine ea_iload_n (pc := 137) dX1_move_137 rfl 1 rfl ?_
  refine ea_iload (pc := 138) dX1_move_138 4 rfl ?_
  obtain ⟨z4, H⟩ := H
  refine ea_iast (pc := 140) dX1_move_140 (hs_h2.1 44 (by decide)).1 (hs_h2.1 44 (by decide)).2.1 (ea_vpl (hs_h2.1 44 (by decide)).2.2 z4) ?_
  obtain ⟨h5, E6⟩ : ∃ z, z = ea_wi h2 (b0 + 44) (Int32.toNatClampNeg x1) x4 := ⟨_, rfl⟩
  have H := H h5 E6
  refine ea_nm E6 ?_
  have hs_h5 : ShC b0 h5 := by rw [E6]; exact ShC_wi hs_h2
  refine ea_aload_n (pc := 141) dX1_move_141 rfl 0 rfl ?_
  refine ea_getR (pc := 142) dX1_move_142 ec_1 (k := 7) (Nat.le_of_ble_eq_true rfl) rfl (Or.inl ew_373) (hs_h5.1 42 (by decide)).1 (hs_h5.1 42 (by decide)).2.1 (hs_h5.2 42 7 rfl) ?_
  refine ea_iload_n (pc := 145) dX1_move_145 rfl 1 rfl ?_
  refine ea_iload_n (pc := 146) dX1_move_146 rfl 2 rfl ?_
  obtain ⟨z7, H⟩ := H
  refine ea_iast (pc := 147) dX1_move_147 (hs_h5.1 49 (by decide)).1 (hs_h5.1 49 (by decide)).2.1 (ea_vpl (hs_h5.1 49 (by decide)).2.2 z7) ?_
  obtain ⟨h8, E9⟩ : ∃ z, z = ea_wi h5 (b0 + 49) (Int32.toNatClampNeg x1) x2 := ⟨_, rfl⟩
  have H := H h8 E9
  refine ea_nm E9 ?_
  have hs_h8 : ShC b0 h8 := by rw [E9]; exact ShC_wi hs_h5
  refine ea_aload_n (pc := 148) dX1_move_148 rfl 0 rfl ?_
  refine ea_getR (pc := 149) dX1_move_149 ec_1 (k := 5) (Nat.le_of_ble_eq_true rfl) rfl (Or.inl ew_369) (hs_h8.1 42 (by decide)).1 (hs_h8.1 42 (by decide)).2.1 (hs_h8.2 42 5 rfl) ?_
  refine ea_iload_n (pc := 152) dX1_move_152 rfl 1 rfl ?_
  refine ea_iconst (pc := 153) dX1_move_153 (v := 0) rfl ?_
  obtain ⟨z10, H⟩ := H
  refine ea_zast (pc := 154) dX1_move_154 (y := 0) (ea_bn (Or.inl rfl)) (hs_h8.1 47 (by decide)).1 (hs_h8.1 47 (by decide)).2.1 (ea_vpl (hs_h8.1 47 (by decide)).2.2 z10) ?_
  obtain ⟨h11, E12⟩ : ∃ z, z = ea_wi h8 (b0 + 47) (Int32.toNatClampNeg x1) 0 := ⟨_, rfl⟩
  have H := H h11 E12
  refine ea_nm E12 ?_
  have hs_h11 : ShC b0 h11 := by rw [E12]; exact ShC_wi hs_h8
  refine ea_aload_n (pc := 155) dX1_move_155 rfl 0 rfl ?_
  refine ea_getI (pc := 156) dX1_move_156 ec_1 (k := 15) (Nat.le_of_ble_eq_true rfl) rfl (Or.inl ew_381) (hs_h11.1 42 (by decide)).1 (hs_h11.1 42 (by decide)).2.1 ?_
  refine ea_if_eq (pc := 159) (tgt := 175) dX1_move_159 rfl (fun c22 => ?_) (fun c22 => ?_)
  · have H := H.1 c22
    obtain ⟨rfl, rfl⟩ := H
    exact ea_return (pc := 175) dX1_move_175 rfl
  · have H := H.2 c22
    refine ea_aload_n (pc := 162) dX1_move_162 rfl 0 rfl ?_
    refine ea_getR (pc := 163) dX1_move_163 ec_1 (k := 14) (Nat.le_of_ble_eq_true rfl) rfl (Or.inl ew_380) (hs_h11.1 42 (by decide)).1 (hs_h11.1 42 (by decide)).2.1 (hs_h11.2 42 14 rfl) ?_
    refine ea_iload_n (pc := 166) dX1_move_166 rfl 1 rfl ?_
    obtain ⟨z13, H⟩ := H
    refine ea_aald23 (pc := 167) dX1_move_167 (hs_h11.1 31 (by decide)).1 (hs_h11.1 31 (by decide)).2.1 (ea_vpl (hs_h11.1 31 (by decide)).2.2 z13) rfl ?_
    refine ea_iload_n (pc := 168) dX1_move_168 rfl 2 rfl ?_
    refine ea_iload_n (pc := 169) dX1_move_169 rfl 3 rfl ?_
    refine ea_iload (pc := 170) dX1_move_170 4 rfl ?_
    obtain ⟨a20, e21, f18, g19, H⟩ := H
    refine ea_deref3 e21 ?_
    obtain ⟨d14, h15, m16, q17, hs_h15, H⟩ := H
    refine ea_callV (pc := 172) (As := [vI x2, vI x3, vI x4]) (st := []) dX1_move_172 kX4_note m16 q17 rfl (Nat.le_of_ble_eq_true rfl) ew_649 ew_650 ew_651 (ci := 4) rfl (by decide) f18 g19 ?_
    obtain ⟨rfl, rfl⟩ := H
    exact ea_return (pc := 175) dX1_move_175 rfl
theorem pX1_inState_at32_0 {d b0 : Nat} {h0 hE h : ea_H} {rv : Option ea_V} {x1 : Int32} (hd : 1 ≤ d) (hs_h : ShC b0 h) (H : ea_W mX1_inState d h0 rv hE 4 [(0, vR (some (b0 + 32))), (1, vI x1), (2, vI 0), (3, vI 0)] [] h) : ea_W mX1_inState d h0 rv hE 0 [(0, vR (some (b0 + 32))), (1, vI x1)] [] h := by
  refine ea_iconst (pc := 0) dX1_inState_0 (v := 0) rfl ?_
  refine ea_istore_n (pc := 1) (lv' := [(0, vR (some (b0 + 32))), (1, vI x1), (2, vI 0)]) dX1_inState_1 rfl (Nat.le_of_ble_eq_true rfl) [1, 2, 0] rfl ?_
  refine ea_iconst (pc := 2) dX1_inState_2 (v := 0) rfl ?_
  refine ea_istore_n (pc := 3) (lv' := [(0, vR (some (b0 + 32))), (1, vI x1), (2, vI 0), (3, vI 0)]) dX1_inState_3 rfl (Nat.le_of_ble_eq_true rfl) [1, 2, 3, 0] rfl ?_
  exact H
theorem pX1_inState_at32_4 {d b0 : Nat} {h0 hE h : ea_H} {rv : Option ea_V} {x1 : Int32} {x2 : Int32} {x3 : Int32} (hd : 1 ≤ d) (hs_h : ShC b0 h) (H : ((ea_i h (b0 + 32) 0) ≤ x3 → rv = some (vI x2) ∧ hE = h) ∧ (¬ (ea_i h (b0 + 32) 0) ≤ x3 → vp_in x3 120 ∧ (¬ (ea_i h (b0 + 33) (Int32.toNatClampNeg x3)) = x1 → ea_W mX1_inState d h0 rv hE 4 [(0, vR (some (b0 + 32))), (1, vI x1), (2, vI x2), (3, vI (x3 + 1))] [] h) ∧ ((ea_i h (b0 + 33) (Int32.toNatClampNeg x3)) = x1 → ea_W mX1_inState d h0 rv hE 4 [(0, vR (some (b0 + 32))), (1, vI x1), (2, vI (x2 + 1)), (3, vI (x3 + 1))] [] h))) : ea_W mX1_inState d h0 rv hE 4 [(0, vR (some (b0 + 32))), (1, vI x1), (2, vI x2), (3, vI x3)] [] h := by
  refine ea_iload_n (pc := 4) dX1_inState_4 rfl 3 rfl ?_
  refine ea_aload_n (pc := 5) dX1_inState_5 rfl 0 rfl ?_
  refine ea_getI (pc := 6) dX1_inState_6 ec_1 (k := 0) (Nat.le_of_ble_eq_true rfl) rfl (Or.inl ew_359) (hs_h.1 32 (by decide)).1 (hs_h.1 32 (by decide)).2.1 ?_
  refine ea_icmp_ge (pc := 9) (tgt := 31) dX1_inState_9 rfl (fun c3 => ?_) (fun c3 => ?_)
  · have H := H.1 c3
    refine ea_iload_n (pc := 31) dX1_inState_31 rfl 2 rfl ?_
    obtain ⟨rfl, rfl⟩ := H
    exact ea_ireturn (pc := 32) dX1_inState_32 rfl rfl
  · have H := H.2 c3
    refine ea_aload_n (pc := 12) dX1_inState_12 rfl 0 rfl ?_
    refine ea_getR (pc := 13) dX1_inState_13 ec_1 (k := 1) (Nat.le_of_ble_eq_true rfl) rfl (Or.inl ew_361) (hs_h.1 32 (by decide)).1 (hs_h.1 32 (by decide)).2.1 (hs_h.2 32 1 rfl) ?_
    refine ea_iload_n (pc := 16) dX1_inState_16 rfl 3 rfl ?_
    obtain ⟨z1, H⟩ := H
    refine ea_iald (pc := 17) dX1_inState_17 (hs_h.1 33 (by decide)).1 (hs_h.1 33 (by decide)).2.1 (ea_vpl (hs_h.1 33 (by decide)).2.2 z1) ?_
    refine ea_iload_n (pc := 18) dX1_inState_18 rfl 1 rfl ?_
    refine ea_icmp_ne (pc := 19) (tgt := 25) dX1_inState_19 rfl (fun c2 => ?_) (fun c2 => ?_)
    · have H := H.1 c2
      refine ea_iinc (pc := 25) (v := 1) (lv' := [(0, vR (some (b0 + 32))), (1, vI x1), (2, vI x2), (3, vI (x3 + 1))]) dX1_inState_25 3 rfl rfl (Nat.le_of_ble_eq_true rfl) [1, 2, 3, 0] rfl ?_
      refine ea_goto (pc := 28) (tgt := 4) dX1_inState_28 rfl ?_
      exact H
    · have H := H.2 c2
      refine ea_iinc (pc := 22) (v := 1) (lv' := [(0, vR (some (b0 + 32))), (1, vI x1), (2, vI (x2 + 1)), (3, vI x3)]) dX1_inState_22 2 rfl rfl (Nat.le_of_ble_eq_true rfl) [1, 2, 0, 3] rfl ?_
      refine ea_iinc (pc := 25) (v := 1) (lv' := [(0, vR (some (b0 + 32))), (1, vI x1), (2, vI (x2 + 1)), (3, vI (x3 + 1))]) dX1_inState_25 3 rfl rfl (Nat.le_of_ble_eq_true rfl) [1, 2, 3, 0] rfl ?_
      refine ea_goto (pc := 28) (tgt := 4) dX1_inState_28 rfl ?_
      exact H
theorem pX1_inState_at42_0 {d b0 : Nat} {h0 hE h : ea_H} {rv : Option ea_V} {x1 : Int32} (hd : 1 ≤ d) (hs_h : ShC b0 h) (H : ea_W mX1_inState d h0 rv hE 4 [(0, vR (some (b0 + 42))), (1, vI x1), (2, vI 0), (3, vI 0)] [] h) : ea_W mX1_inState d h0 rv hE 0 [(0, vR (some (b0 + 42))), (1, vI x1)] [] h := by
  refine ea_iconst (pc := 0) dX1_inState_0 (v := 0) rfl ?_
  refine ea_istore_n (pc := 1) (lv' := [(0, vR (some (b0 + 42))), (1, vI x1), (2, vI 0)]) dX1_inState_1 rfl (Nat.le_of_ble_eq_true rfl) [1, 2, 0] rfl ?_
  refine ea_iconst (pc := 2) dX1_inState_2 (v := 0) rfl ?_
  refine ea_istore_n (pc := 3) (lv' := [(0, vR (some (b0 + 42))), (1, vI x1), (2, vI 0), (3, vI 0)]) dX1_inState_3 rfl (Nat.le_of_ble_eq_true rfl) [1, 2, 3, 0] rfl ?_
  exact H
theorem pX1_inState_at42_4 {d b0 : Nat} {h0 hE h : ea_H} {rv : Option ea_V} {x1 : Int32} {x2 : Int32} {x3 : Int32} (hd : 1 ≤ d) (hs_h : ShC b0 h) (H : ((ea_i h (b0 + 42) 0) ≤ x3 → rv = some (vI x2) ∧ hE = h) ∧ (¬ (ea_i h (b0 + 42) 0) ≤ x3 → vp_in x3 120 ∧ (¬ (ea_i h (b0 + 43) (Int32.toNatClampNeg x3)) = x1 → ea_W mX1_inState d h0 rv hE 4 [(0, vR (some (b0 + 42))), (1, vI x1), (2, vI x2), (3, vI (x3 + 1))] [] h) ∧ ((ea_i h (b0 + 43) (Int32.toNatClampNeg x3)) = x1 → ea_W mX1_inState d h0 rv hE 4 [(0, vR (some (b0 + 42))), (1, vI x1), (2, vI (x2 + 1)), (3, vI (x3 + 1))] [] h))) : ea_W mX1_inState d h0 rv hE 4 [(0, vR (some (b0 + 42))), (1, vI x1), (2, vI x2), (3, vI x3)] [] h := by
  refine ea_iload_n (pc := 4) dX1_inState_4 rfl 3 rfl ?_
  refine ea_aload_n (pc := 5) dX1_inState_5 rfl 0 rfl ?_
  refine ea_getI (pc := 6) dX1_inState_6 ec_1 (k := 0) (Nat.le_of_ble_eq_true rfl) rfl (Or.inl ew_359) (hs_h.1 42 (by decide)).1 (hs_h.1 42 (by decide)).2.1 ?_
  refine ea_icmp_ge (pc := 9) (tgt := 31) dX1_inState_9 rfl (fun c3 => ?_) (fun c3 => ?_)
  · have H := H.1 c3
    refine ea_iload_n (pc := 31) dX1_inState_31 rfl 2 rfl ?_
    obtain ⟨rfl, rfl⟩ := H
    exact ea_ireturn (pc := 32) dX1_inState_32 rfl rfl
  · have H := H.2 c3
    refine ea_aload_n (pc := 12) dX1_inState_12 rfl 0 rfl ?_
    refine ea_getR (pc := 13) dX1_inState_13 ec_1 (k := 1) (Nat.le_of_ble_eq_true rfl) rfl (Or.inl ew_361) (hs_h.1 42 (by decide)).1 (hs_h.1 42 (by decide)).2.1 (hs_h.2 42 1 rfl) ?_
    refine ea_iload_n (pc := 16) dX1_inState_16 rfl 3 rfl ?_
    obtain ⟨z1, H⟩ := H
    refine ea_iald (pc := 17) dX1_inState_17 (hs_h.1 43 (by decide)).1 (hs_h.1 43 (by decide)).2.1 (ea_vpl (hs_h.1 43 (by decide)).2.2 z1) ?_
    refine ea_iload_n (pc := 18) dX1_inState_18 rfl 1 rfl ?_
    refine ea_icmp_ne (pc := 19) (tgt := 25) dX1_inState_19 rfl (fun c2 => ?_) (fun c2 => ?_)
    · have H := H.1 c2
      refine ea_iinc (pc := 25) (v := 1) (lv' := [(0, vR (some (b0 + 42))), (1, vI x1), (2, vI x2), (3, vI (x3 + 1))]) dX1_inState_25 3 rfl rfl (Nat.le_of_ble_eq_true rfl) [1, 2, 3, 0] rfl ?_
      refine ea_goto (pc := 28) (tgt := 4) dX1_inState_28 rfl ?_
      exact H
    · have H := H.2 c2
      refine ea_iinc (pc := 22) (v := 1) (lv' := [(0, vR (some (b0 + 42))), (1, vI x1), (2, vI (x2 + 1)), (3, vI x3)]) dX1_inState_22 2 rfl rfl (Nat.le_of_ble_eq_true rfl) [1, 2, 0, 3] rfl ?_
      refine ea_iinc (pc := 25) (v := 1) (lv' := [(0, vR (some (b0 + 42))), (1, vI x1), (2, vI (x2 + 1)), (3, vI (x3 + 1))]) dX1_inState_25 3 rfl rfl (Nat.le_of_ble_eq_true rfl) [1, 2, 3, 0] rfl ?_
      refine ea_goto (pc := 28) (tgt := 4) dX1_inState_28 rfl ?_
      exact H
theorem pX1_aboardOf_at32_0 {d b0 : Nat} {h0 hE h : ea_H} {rv : Option ea_V} {x1 : Int32} {x2 : Int32} (hd : 2 ≤ d) (hs_h : ShC b0 h) (H : ea_W mX1_aboardOf d h0 rv hE 5 [(0, vR (some (b0 + 32))), (1, vI x1), (2, vI x2), (3, vI 0), (4, vI 0)] [] h) : ea_W mX1_aboardOf d h0 rv hE 0 [(0, vR (some (b0 + 32))), (1, vI x1), (2, vI x2)] [] h := by
  refine ea_iconst (pc := 0) dX1_aboardOf_0 (v := 0) rfl ?_
  refine ea_istore_n (pc := 1) (lv' := [(0, vR (some (b0 + 32))), (1, vI x1), (2, vI x2), (3, vI 0)]) dX1_aboardOf_1 rfl (Nat.le_of_ble_eq_true rfl) [1, 2, 3, 0] rfl ?_
  refine ea_iconst (pc := 2) dX1_aboardOf_2 (v := 0) rfl ?_
  refine ea_istore (pc := 3) (lv' := [(0, vR (some (b0 + 32))), (1, vI x1), (2, vI x2), (3, vI 0), (4, vI 0)]) dX1_aboardOf_3 (Nat.le_of_ble_eq_true rfl) [1, 2, 3, 4, 0] rfl ?_
  exact H
theorem pX1_aboardOf_at32_5 {d b0 : Nat} {h0 hE h : ea_H} {rv : Option ea_V} {x1 : Int32} {x2 : Int32} {x3 : Int32} {x4 : Int32} (hd : 2 ≤ d) (hs_h : ShC b0 h) (H : ((ea_i h (b0 + 32) 0) ≤ x4 → rv = some (vI x3) ∧ hE = h) ∧ (¬ (ea_i h (b0 + 32) 0) ≤ x4 → (okX1_isAboard_at32 b0 (x4 : Int32) (x1 : Int32) h) ∧ ((vX1_isAboard_at32 b0 (x4 : Int32) (x1 : Int32) h) = (0 : Int32) → ea_W mX1_aboardOf d h0 rv hE 5 [(0, vR (some (b0 + 32))), (1, vI x1), (2, vI x2), (3, vI x3), (4, vI (x4 + 1))] [] h) ∧ (¬ (vX1_isAboard_at32 b0 (x4 : Int32) (x1 : Int32) h) = (0 : Int32) → vp_in x4 120 ∧ (¬ (ea_i h (b0 + 37) (Int32.toNatClampNeg x4)) = x2 → ea_W mX1_aboardOf d h0 rv hE 5 [(0, vR (some (b0 + 32))), (1, vI x1), (2, vI x2), (3, vI x3), (4, vI (x4 + 1))] [] h) ∧ ((ea_i h (b0 + 37) (Int32.toNatClampNeg x4)) = x2 → ea_W mX1_aboardOf d h0 rv hE 5 [(0, vR (some (b0 + 32))), (1, vI x1), (2, vI x2), (3, vI (x3 + 1)), (4, vI (x4 + 1))] [] h)))) : ea_W mX1_aboardOf d h0 rv hE 5 [(0, vR (some (b0 + 32))), (1, vI x1), (2, vI x2), (3, vI x3), (4, vI x4)] [] h := by
  refine ea_iload (pc := 5) dX1_aboardOf_5 4 rfl ?_
  refine ea_aload_n (pc := 7) dX1_aboardOf_7 rfl 0 rfl ?_
  refine ea_getI (pc := 8) dX1_aboardOf_8 ec_1 (k := 0) (Nat.le_of_ble_eq_true rfl) rfl (Or.inl ew_359) (hs_h.1 32 (by decide)).1 (hs_h.1 32 (by decide)).2.1 ?_
  refine ea_icmp_ge (pc := 11) (tgt := 44) dX1_aboardOf_11 rfl (fun c13 => ?_) (fun c13 => ?_)
  · have H := H.1 c13
    refine ea_iload_n (pc := 44) dX1_aboardOf_44 rfl 3 rfl ?_
    obtain ⟨rfl, rfl⟩ := H
    exact ea_ireturn (pc := 45) dX1_aboardOf_45 rfl rfl
  · have H := H.2 c13
    refine ea_aload_n (pc := 14) dX1_aboardOf_14 rfl 0 rfl ?_
    refine ea_iload (pc := 15) dX1_aboardOf_15 4 rfl ?_
    refine ea_iload_n (pc := 17) dX1_aboardOf_17 rfl 1 rfl ?_
    obtain ⟨z12, H⟩ := H
    refine ea_callV (pc := 18) (d' := d - 1) (As := [vI x4, vI x1]) (st := []) dX1_aboardOf_18 kX1_isAboard (sX1_isAboard_at32 (d := d - 1) (by omega) hs_h z12) (by omega) rfl (Nat.le_of_ble_eq_true rfl) ew_704 ew_705 ew_706 (ci := 1) rfl (by decide) (hs_h.1 32 (by decide)).1 (hs_h.1 32 (by decide)).2.1 ?_
    refine ea_if_eq (pc := 21) (tgt := 38) dX1_aboardOf_21 rfl (fun c11 => ?_) (fun c11 => ?_)
    · have H := H.1 c11
      refine ea_iinc (pc := 38) (v := 1) (lv' := [(0, vR (some (b0 + 32))), (1, vI x1), (2, vI x2), (3, vI x3), (4, vI (x4 + 1))]) dX1_aboardOf_38 4 rfl rfl (Nat.le_of_ble_eq_true rfl) [1, 2, 3, 4, 0] rfl ?_
      refine ea_goto (pc := 41) (tgt := 5) dX1_aboardOf_41 rfl ?_
      exact H
    · have H := H.2 c11
      refine ea_aload_n (pc := 24) dX1_aboardOf_24 rfl 0 rfl ?_
      refine ea_getR (pc := 25) dX1_aboardOf_25 ec_1 (k := 5) (Nat.le_of_ble_eq_true rfl) rfl (Or.inl ew_369) (hs_h.1 32 (by decide)).1 (hs_h.1 32 (by decide)).2.1 (hs_h.2 32 5 rfl) ?_
      refine ea_iload (pc := 28) dX1_aboardOf_28 4 rfl ?_
      obtain ⟨z9, H⟩ := H
      refine ea_zald (pc := 30) dX1_aboardOf_30 (hs_h.1 37 (by decide)).1 (hs_h.1 37 (by decide)).2.1 (ea_vpl (hs_h.1 37 (by decide)).2.2 z9) ?_
      refine ea_iload_n (pc := 31) dX1_aboardOf_31 rfl 2 rfl ?_
      refine ea_icmp_ne (pc := 32) (tgt := 38) dX1_aboardOf_32 rfl (fun c10 => ?_) (fun c10 => ?_)
      · have H := H.1 c10
        refine ea_iinc (pc := 38) (v := 1) (lv' := [(0, vR (some (b0 + 32))), (1, vI x1), (2, vI x2), (3, vI x3), (4, vI (x4 + 1))]) dX1_aboardOf_38 4 rfl rfl (Nat.le_of_ble_eq_true rfl) [1, 2, 3, 4, 0] rfl ?_
        refine ea_goto (pc := 41) (tgt := 5) dX1_aboardOf_41 rfl ?_
        exact H
      · have H := H.2 c10
        refine ea_iinc (pc := 35) (v := 1) (lv' := [(0, vR (some (b0 + 32))), (1, vI x1), (2, vI x2), (3, vI (x3 + 1)), (4, vI x4)]) dX1_aboardOf_35 3 rfl rfl (Nat.le_of_ble_eq_true rfl) [1, 2, 3, 0, 4] rfl ?_
        refine ea_iinc (pc := 38) (v := 1) (lv' := [(0, vR (some (b0 + 32))), (1, vI x1), (2, vI x2), (3, vI (x3 + 1)), (4, vI (x4 + 1))]) dX1_aboardOf_38 4 rfl rfl (Nat.le_of_ble_eq_true rfl) [1, 2, 3, 4, 0] rfl ?_
        refine ea_goto (pc := 41) (tgt := 5) dX1_aboardOf_41 rfl ?_
        exact H
theorem pX1_aboardOf_at42_0 {d b0 : Nat} {h0 hE h : ea_H} {rv : Option ea_V} {x1 : Int32} {x2 : Int32} (hd : 2 ≤ d) (hs_h : ShC b0 h) (H : ea_W mX1_aboardOf d h0 rv hE 5 [(0, vR (some (b0 + 42))), (1, vI x1), (2, vI x2), (3, vI 0), (4, vI 0)] [] h) : ea_W mX1_aboardOf d h0 rv hE 0 [(0, vR (some (b0 + 42))), (1, vI x1), (2, vI x2)] [] h := by
  refine ea_iconst (pc := 0) dX1_aboardOf_0 (v := 0) rfl ?_
  refine ea_istore_n (pc := 1) (lv' := [(0, vR (some (b0 + 42))), (1, vI x1), (2, vI x2), (3, vI 0)]) dX1_aboardOf_1 rfl (Nat.le_of_ble_eq_true rfl) [1, 2, 3, 0] rfl ?_
  refine ea_iconst (pc := 2) dX1_aboardOf_2 (v := 0) rfl ?_
  refine ea_istore (pc := 3) (lv' := [(0, vR (some (b0 + 42))), (1, vI x1), (2, vI x2), (3, vI 0), (4, vI 0)]) dX1_aboardOf_3 (Nat.le_of_ble_eq_true rfl) [1, 2, 3, 4, 0] rfl ?_
  exact H
theorem pX1_aboardOf_at42_5 {d b0 : Nat} {h0 hE h : ea_H} {rv : Option ea_V} {x1 : Int32} {x2 : Int32} {x3 : Int32} {x4 : Int32} (hd : 2 ≤ d) (hs_h : ShC b0 h) (H : ((ea_i h (b0 + 42) 0) ≤ x4 → rv = some (vI x3) ∧ hE = h) ∧ (¬ (ea_i h (b0 + 42) 0) ≤ x4 → (okX1_isAboard_at42 b0 (x4 : Int32) (x1 : Int32) h) ∧ ((vX1_isAboard_at42 b0 (x4 : Int32) (x1 : Int32) h) = (0 : Int32) → ea_W mX1_aboardOf d h0 rv hE 5 [(0, vR (some (b0 + 42))), (1, vI x1), (2, vI x2), (3, vI x3), (4, vI (x4 + 1))] [] h) ∧ (¬ (vX1_isAboard_at42 b0 (x4 : Int32) (x1 : Int32) h) = (0 : Int32) → vp_in x4 120 ∧ (¬ (ea_i h (b0 + 47) (Int32.toNatClampNeg x4)) = x2 → ea_W mX1_aboardOf d h0 rv hE 5 [(0, vR (some (b0 + 42))), (1, vI x1), (2, vI x2), (3, vI x3), (4, vI (x4 + 1))] [] h) ∧ ((ea_i h (b0 + 47) (Int32.toNatClampNeg x4)) = x2 → ea_W mX1_aboardOf d h0 rv hE 5 [(0, vR (some (b0 + 42))), (1, vI x1), (2, vI x2), (3, vI (x3 + 1)), (4, vI (x4 + 1))] [] h)))) : ea_W mX1_aboardOf d h0 rv hE 5 [(0, vR (some (b0 + 42))), (1, vI x1), (2, vI x2), (3, vI x3), (4, vI x4)] [] h := by
  refine ea_iload (pc := 5) dX1_aboardOf_5 4 rfl ?_
  refine ea_aload_n (pc := 7) dX1_aboardOf_7 rfl 0 rfl ?_
  refine ea_getI (pc := 8) dX1_aboardOf_8 ec_1 (k := 0) (Nat.le_of_ble_eq_true rfl) rfl (Or.inl ew_359) (hs_h.1 42 (by decide)).1 (hs_h.1 42 (by decide)).2.1 ?_
  refine ea_icmp_ge (pc := 11) (tgt := 44) dX1_aboardOf_11 rfl (fun c13 => ?_) (fun c13 => ?_)
  · have H := H.1 c13
    refine ea_iload_n (pc := 44) dX1_aboardOf_44 rfl 3 rfl ?_
    obtain ⟨rfl, rfl⟩ := H
    exact ea_ireturn (pc := 45) dX1_aboardOf_45 rfl rfl
  · have H := H.2 c13
    refine ea_aload_n (pc := 14) dX1_aboardOf_14 rfl 0 rfl ?_
    refine ea_iload (pc := 15) dX1_aboardOf_15 4 rfl ?_
    refine ea_iload_n (pc := 17) dX1_aboardOf_17 rfl 1 rfl ?_
    obtain ⟨z12, H⟩ := H
    refine ea_callV (pc := 18) (d' := d - 1) (As := [vI x4, vI x1]) (st := []) dX1_aboardOf_18 kX1_isAboard (sX1_isAboard_at42 (d := d - 1) (by omega) hs_h z12) (by omega) rfl (Nat.le_of_ble_eq_true rfl) ew_704 ew_705 ew_706 (ci := 1) rfl (by decide) (hs_h.1 42 (by decide)).1 (hs_h.1 42 (by decide)).2.1 ?_
    refine ea_if_eq (pc := 21) (tgt := 38) dX1_aboardOf_21 rfl (fun c11 => ?_) (fun c11 => ?_)
    · have H := H.1 c11
      refine ea_iinc (pc := 38) (v := 1) (lv' := [(0, vR (some (b0 + 42))), (1, vI x1), (2, vI x2), (3, vI x3), (4, vI (x4 + 1))]) dX1_aboardOf_38 4 rfl rfl (Nat.le_of_ble_eq_true rfl) [1, 2, 3, 4, 0] rfl ?_
      refine ea_goto (pc := 41) (tgt := 5) dX1_aboardOf_41 rfl ?_
      exact H
    · have H := H.2 c11
      refine ea_aload_n (pc := 24) dX1_aboardOf_24 rfl 0 rfl ?_
      refine ea_getR (pc := 25) dX1_aboardOf_25 ec_1 (k := 5) (Nat.le_of_ble_eq_true rfl) rfl (Or.inl ew_369) (hs_h.1 42 (by decide)).1 (hs_h.1 42 (by decide)).2.1 (hs_h.2 42 5 rfl) ?_
      refine ea_iload (pc := 28) dX1_aboardOf_28 4 rfl ?_
      obtain ⟨z9, H⟩ := H
      refine ea_zald (pc := 30) dX1_aboardOf_30 (hs_h.1 47 (by decide)).1 (hs_h.1 47 (by decide)).2.1 (ea_vpl (hs_h.1 47 (by decide)).2.2 z9) ?_
      refine ea_iload_n (pc := 31) dX1_aboardOf_31 rfl 2 rfl ?_
      refine ea_icmp_ne (pc := 32) (tgt := 38) dX1_aboardOf_32 rfl (fun c10 => ?_) (fun c10 => ?_)
      · have H := H.1 c10
        refine ea_iinc (pc := 38) (v := 1) (lv' := [(0, vR (some (b0 + 42))), (1, vI x1), (2, vI x2), (3, vI x3), (4, vI (x4 + 1))]) dX1_aboardOf_38 4 rfl rfl (Nat.le_of_ble_eq_true rfl) [1, 2, 3, 4, 0] rfl ?_
        refine ea_goto (pc := 41) (tgt := 5) dX1_aboardOf_41 rfl ?_
        exact H
      · have H := H.2 c10
        refine ea_iinc (pc := 35) (v := 1) (lv' := [(0, vR (some (b0 + 42))), (1, vI x1), (2, vI x2), (3, vI (x3 + 1)), (4, vI x4)]) dX1_aboardOf_35 3 rfl rfl (Nat.le_of_ble_eq_true rfl) [1, 2, 3, 0, 4] rfl ?_
        refine ea_iinc (pc := 38) (v := 1) (lv' := [(0, vR (some (b0 + 42))), (1, vI x1), (2, vI x2), (3, vI (x3 + 1)), (4, vI (x4 + 1))]) dX1_aboardOf_38 4 rfl rfl (Nat.le_of_ble_eq_true rfl) [1, 2, 3, 4, 0] rfl ?_
        refine ea_goto (pc := 41) (tgt := 5) dX1_aboardOf_41 rfl ?_
        exact H
theorem pX1_copy_at32_0 {d b0 : Nat} {h0 hE h : ea_H} {rv : Option ea_V} {r1 : Option Nat} (hd : 1 ≤ d) (hs_h : ShC b0 h) (H : ∃ a3, r1 = some a3 ∧ a3 < ea_n h ∧ ea_c h a3 = 1 ∧ ∀ h5, h5 = ea_wi h (b0 + 32) 0 (ea_i h a3 0) → a3 < ea_n h5 ∧ ea_c h5 a3 = 1 ∧ ∀ h9, h9 = ea_wi h5 (b0 + 32) 10 (ea_i h5 a3 10) → a3 < ea_n h9 ∧ ea_c h9 a3 = 1 ∧ False) : ea_W mX1_copy d h0 rv hE 0 [(0, vR (some (b0 + 32))), (1, vR r1)] [] h := by
  refine ea_aload_n (pc := 0) dX1_copy_0 rfl 0 rfl ?_
  refine ea_aload_n (pc := 1) dX1_copy_1 rfl 1 rfl ?_
  obtain ⟨a3, e4, f1, g2, H⟩ := H
  refine ea_deref0 e4 ?_
  refine ea_getI (pc := 2) dX1_copy_2 ec_1 (k := 0) (Nat.le_of_ble_eq_true rfl) rfl (Or.inl ew_359) f1 g2 ?_
  refine ea_putI (pc := 5) dX1_copy_5 ec_1 (k := 0) (Nat.le_of_ble_eq_true rfl) rfl (Or.inl ⟨rfl, Or.inl ew_359⟩) rfl rfl (hs_h.1 32 (by decide)).1 (hs_h.1 32 (by decide)).2.1 ?_
  obtain ⟨h5, E6⟩ : ∃ z, z = ea_wi h (b0 + 32) 0 (ea_i h a3 0) := ⟨_, rfl⟩
  have H := H h5 E6
  refine ea_nm E6 ?_
  have hs_h5 : ShC b0 h5 := by rw [E6]; exact ShC_wi hs_h
  refine ea_aload_n (pc := 8) dX1_copy_8 rfl 0 rfl ?_
  refine ea_aload_n (pc := 9) dX1_copy_9 rfl 1 rfl ?_
  obtain ⟨f7, g8, H⟩ := H
  refine ea_deref0 e4 ?_
  refine ea_getI (pc := 10) dX1_copy_10 ec_1 (k := 10) (Nat.le_of_ble_eq_true rfl) rfl (Or.inl ew_376) f7 g8 ?_
  refine ea_putI (pc := 13) dX1_copy_13 ec_1 (k := 10) (Nat.le_of_ble_eq_true rfl) rfl (Or.inl ⟨rfl, Or.inl ew_376⟩) rfl rfl (hs_h5.1 32 (by decide)).1 (hs_h5.1 32 (by decide)).2.1 ?_
  obtain ⟨h9, E10⟩ : ∃ z, z = ea_wi h5 (b0 + 32) 10 (ea_i h5 a3 10) := ⟨_, rfl⟩
  have H := H h9 E10
  refine ea_nm E10 ?_
  have hs_h9 : ShC b0 h9 := by rw [E10]; exact ShC_wi hs_h5
  refine ea_aload_n (pc := 16) dX1_copy_16 rfl 1 rfl ?_
  obtain ⟨f11, g12, H⟩ := H
  refine ea_deref0 e4 ?_
  refine ea_getR (pc := 17) dX1_copy_17 ec_1 (k := 1) (Nat.le_of_ble_eq_true rfl) rfl (Or.inl ew_361) f11 g12 rfl ?_
  refine ea_iconst (pc := 20) dX1_copy_20 (v := 0) rfl ?_
  refine ea_aload_n (pc := 21) dX1_copy_21 rfl 0 rfl ?_
  refine ea_getR (pc := 22) dX1_copy_22 ec_1 (k := 1) (Nat.le_of_ble_eq_true rfl) rfl (Or.inl ew_361) (hs_h9.1 32 (by decide)).1 (hs_h9.1 32 (by decide)).2.1 (hs_h9.2 32 1 rfl) ?_
  refine ea_iconst (pc := 25) dX1_copy_25 (v := 0) rfl ?_
  refine ea_bipush (pc := 26) dX1_copy_26 (v := 120) rfl ?_
  exact H.elim
theorem pX1_copy_at42_0 {d b0 : Nat} {h0 hE h : ea_H} {rv : Option ea_V} {r1 : Option Nat} (hd : 1 ≤ d) (hs_h : ShC b0 h) (H : ∃ a3, r1 = some a3 ∧ a3 < ea_n h ∧ ea_c h a3 = 1 ∧ ∀ h5, h5 = ea_wi h (b0 + 42) 0 (ea_i h a3 0) → a3 < ea_n h5 ∧ ea_c h5 a3 = 1 ∧ ∀ h9, h9 = ea_wi h5 (b0 + 42) 10 (ea_i h5 a3 10) → a3 < ea_n h9 ∧ ea_c h9 a3 = 1 ∧ False) : ea_W mX1_copy d h0 rv hE 0 [(0, vR (some (b0 + 42))), (1, vR r1)] [] h := by
  refine ea_aload_n (pc := 0) dX1_copy_0 rfl 0 rfl ?_
  refine ea_aload_n (pc := 1) dX1_copy_1 rfl 1 rfl ?_
  obtain ⟨a3, e4, f1, g2, H⟩ := H
  refine ea_deref0 e4 ?_
  refine ea_getI (pc := 2) dX1_copy_2 ec_1 (k := 0) (Nat.le_of_ble_eq_true rfl) rfl (Or.inl ew_359) f1 g2 ?_
  refine ea_putI (pc := 5) dX1_copy_5 ec_1 (k := 0) (Nat.le_of_ble_eq_true rfl) rfl (Or.inl ⟨rfl, Or.inl ew_359⟩) rfl rfl (hs_h.1 42 (by decide)).1 (hs_h.1 42 (by decide)).2.1 ?_
  obtain ⟨h5, E6⟩ : ∃ z, z = ea_wi h (b0 + 42) 0 (ea_i h a3 0) := ⟨_, rfl⟩
  have H := H h5 E6
  refine ea_nm E6 ?_
  have hs_h5 : ShC b0 h5 := by rw [E6]; exact ShC_wi hs_h
  refine ea_aload_n (pc := 8) dX1_copy_8 rfl 0 rfl ?_
  refine ea_aload_n (pc := 9) dX1_copy_9 rfl 1 rfl ?_
  obtain ⟨f7, g8, H⟩ := H
  refine ea_deref0 e4 ?_
  refine ea_getI (pc := 10) dX1_copy_10 ec_1 (k := 10) (Nat.le_of_ble_eq_true rfl) rfl (Or.inl ew_376) f7 g8 ?_
  refine ea_putI (pc := 13) dX1_copy_13 ec_1 (k := 10) (Nat.le_of_ble_eq_true rfl) rfl (Or.inl ⟨rfl, Or.inl ew_376⟩) rfl rfl (hs_h5.1 42 (by decide)).1 (hs_h5.1 42 (by decide)).2.1 ?_
  obtain ⟨h9, E10⟩ : ∃ z, z = ea_wi h5 (b0 + 42) 10 (ea_i h5 a3 10) := ⟨_, rfl⟩
  have H := H h9 E10
  refine ea_nm E10 ?_
  have hs_h9 : ShC b0 h9 := by rw [E10]; exact ShC_wi hs_h5
  refine ea_aload_n (pc := 16) dX1_copy_16 rfl 1 rfl ?_
  obtain ⟨f11, g12, H⟩ := H
  refine ea_deref0 e4 ?_
  refine ea_getR (pc := 17) dX1_copy_17 ec_1 (k := 1) (Nat.le_of_ble_eq_true rfl) rfl (Or.inl ew_361) f11 g12 rfl ?_
  refine ea_iconst (pc := 20) dX1_copy_20 (v := 0) rfl ?_
  refine ea_aload_n (pc := 21) dX1_copy_21 rfl 0 rfl ?_
  refine ea_getR (pc := 22) dX1_copy_22 ec_1 (k := 1) (Nat.le_of_ble_eq_true rfl) rfl (Or.inl ew_361) (hs_h9.1 42 (by decide)).1 (hs_h9.1 42 (by decide)).2.1 (hs_h9.2 42 1 rfl) ?_
  refine ea_iconst (pc := 25) dX1_copy_25 (v := 0) rfl ?_
  refine ea_bipush (pc := 26) dX1_copy_26 (v := 120) rfl ?_
  exact H.elim
theorem pX1_sumOfMinutes_at32_0 {d b0 : Nat} {h0 hE h : ea_H} {rv : Option ea_V}  (hd : 1 ≤ d) (hs_h : ShC b0 h) (H : ea_W mX1_sumOfMinutes d h0 rv hE 4 [(0, vR (some (b0 + 32))), (1, vI 0), (2, vI 0)] [] h) : ea_W mX1_sumOfMinutes d h0 rv hE 0 [(0, vR (some (b0 + 32)))] [] h := by
  refine ea_iconst (pc := 0) dX1_sumOfMinutes_0 (v := 0) rfl ?_
  refine ea_istore_n (pc := 1) (lv' := [(0, vR (some (b0 + 32))), (1, vI 0)]) dX1_sumOfMinutes_1 rfl (Nat.le_of_ble_eq_true rfl) [1, 0] rfl ?_
  refine ea_iconst (pc := 2) dX1_sumOfMinutes_2 (v := 0) rfl ?_
  refine ea_istore_n (pc := 3) (lv' := [(0, vR (some (b0 + 32))), (1, vI 0), (2, vI 0)]) dX1_sumOfMinutes_3 rfl (Nat.le_of_ble_eq_true rfl) [1, 2, 0] rfl ?_
  exact H
theorem pX1_sumOfMinutes_at32_4 {d b0 : Nat} {h0 hE h : ea_H} {rv : Option ea_V} {x1 : Int32} {x2 : Int32} (hd : 1 ≤ d) (hs_h : ShC b0 h) (H : ((ea_i h (b0 + 32) 0) ≤ x2 → rv = some (vI x1) ∧ hE = h) ∧ (¬ (ea_i h (b0 + 32) 0) ≤ x2 → vp_in x2 120 ∧ (¬ (ea_i h (b0 + 33) (Int32.toNatClampNeg x2)) = (2 : Int32) → vp_in x2 120 ∧ ((ea_i h (b0 + 33) (Int32.toNatClampNeg x2)) = (0 : Int32) → ea_W mX1_sumOfMinutes d h0 rv hE 4 [(0, vR (some (b0 + 32))), (1, vI (x1 + 10080)), (2, vI (x2 + 1))] [] h) ∧ (¬ (ea_i h (b0 + 33) (Int32.toNatClampNeg x2)) = (0 : Int32) → vp_in x2 120 ∧ (¬ (ea_i h (b0 + 33) (Int32.toNatClampNeg x2)) = (1 : Int32) → ea_W mX1_sumOfMinutes d h0 rv hE 4 [(0, vR (some (b0 + 32))), (1, vI x1), (2, vI (x2 + 1))] [] h) ∧ ((ea_i h (b0 + 33) (Int32.toNatClampNeg x2)) = (1 : Int32) → ea_W mX1_sumOfMinutes d h0 rv hE 4 [(0, vR (some (b0 + 32))), (1, vI (x1 + 10080)), (2, vI (x2 + 1))] [] h))) ∧ ((ea_i h (b0 + 33) (Int32.toNatClampNeg x2)) = (2 : Int32) → vp_in x2 120 ∧ ea_W mX1_sumOfMinutes d h0 rv hE 4 [(0, vR (some (b0 + 32))), (1, vI (x1 + (ea_i h (b0 + 39) (Int32.toNatClampNeg x2)))), (2, vI (x2 + 1))] [] h))) : ea_W mX1_sumOfMinutes d h0 rv hE 4 [(0, vR (some (b0 + 32))), (1, vI x1), (2, vI x2)] [] h := by
  refine ea_iload_n (pc := 4) dX1_sumOfMinutes_4 rfl 2 rfl ?_
  refine ea_aload_n (pc := 5) dX1_sumOfMinutes_5 rfl 0 rfl ?_
  refine ea_getI (pc := 6) dX1_sumOfMinutes_6 ec_1 (k := 0) (Nat.le_of_ble_eq_true rfl) rfl (Or.inl ew_359) (hs_h.1 32 (by decide)).1 (hs_h.1 32 (by decide)).2.1 ?_
  refine ea_icmp_ge (pc := 9) (tgt := 65) dX1_sumOfMinutes_9 rfl (fun c8 => ?_) (fun c8 => ?_)
  · have H := H.1 c8
    refine ea_iload_n (pc := 65) dX1_sumOfMinutes_65 rfl 1 rfl ?_
    obtain ⟨rfl, rfl⟩ := H
    exact ea_ireturn (pc := 66) dX1_sumOfMinutes_66 rfl rfl
  · have H := H.2 c8
    refine ea_aload_n (pc := 12) dX1_sumOfMinutes_12 rfl 0 rfl ?_
    refine ea_getR (pc := 13) dX1_sumOfMinutes_13 ec_1 (k := 1) (Nat.le_of_ble_eq_true rfl) rfl (Or.inl ew_361) (hs_h.1 32 (by decide)).1 (hs_h.1 32 (by decide)).2.1 (hs_h.2 32 1 rfl) ?_
    refine ea_iload_n (pc := 16) dX1_sumOfMinutes_16 rfl 2 rfl ?_
    obtain ⟨z1, H⟩ := H
    refine ea_iald (pc := 17) dX1_sumOfMinutes_17 (hs_h.1 33 (by decide)).1 (hs_h.1 33 (by decide)).2.1 (ea_vpl (hs_h.1 33 (by decide)).2.2 z1) ?_
    refine ea_iconst (pc := 18) dX1_sumOfMinutes_18 (v := 2) rfl ?_
    refine ea_icmp_ne (pc := 19) (tgt := 34) dX1_sumOfMinutes_19 rfl (fun c7 => ?_) (fun c7 => ?_)
    · have H := H.1 c7
      refine ea_aload_n (pc := 34) dX1_sumOfMinutes_34 rfl 0 rfl ?_
      refine ea_getR (pc := 35) dX1_sumOfMinutes_35 ec_1 (k := 1) (Nat.le_of_ble_eq_true rfl) rfl (Or.inl ew_361) (hs_h.1 32 (by decide)).1 (hs_h.1 32 (by decide)).2.1 (hs_h.2 32 1 rfl) ?_
      refine ea_iload_n (pc := 38) dX1_sumOfMinutes_38 rfl 2 rfl ?_
      obtain ⟨z2, H⟩ := H
      refine ea_iald (pc := 39) dX1_sumOfMinutes_39 (hs_h.1 33 (by decide)).1 (hs_h.1 33 (by decide)).2.1 (ea_vpl (hs_h.1 33 (by decide)).2.2 z2) ?_
      refine ea_if_eq (pc := 40) (tgt := 53) dX1_sumOfMinutes_40 rfl (fun c5 => ?_) (fun c5 => ?_)
      · have H := H.1 c5
        refine ea_iincW (pc := 53) (v := 10080) (lv' := [(0, vR (some (b0 + 32))), (1, vI (x1 + 10080)), (2, vI x2)]) dX1_sumOfMinutes_53 1 rfl rfl (Nat.le_of_ble_eq_true rfl) [1, 0, 2] rfl ?_
        refine ea_iinc (pc := 59) (v := 1) (lv' := [(0, vR (some (b0 + 32))), (1, vI (x1 + 10080)), (2, vI (x2 + 1))]) dX1_sumOfMinutes_59 2 rfl rfl (Nat.le_of_ble_eq_true rfl) [1, 2, 0] rfl ?_
        refine ea_goto (pc := 62) (tgt := 4) dX1_sumOfMinutes_62 rfl ?_
        exact H
      · have H := H.2 c5
        refine ea_aload_n (pc := 43) dX1_sumOfMinutes_43 rfl 0 rfl ?_
        refine ea_getR (pc := 44) dX1_sumOfMinutes_44 ec_1 (k := 1) (Nat.le_of_ble_eq_true rfl) rfl (Or.inl ew_361) (hs_h.1 32 (by decide)).1 (hs_h.1 32 (by decide)).2.1 (hs_h.2 32 1 rfl) ?_
        refine ea_iload_n (pc := 47) dX1_sumOfMinutes_47 rfl 2 rfl ?_
        obtain ⟨z3, H⟩ := H
        refine ea_iald (pc := 48) dX1_sumOfMinutes_48 (hs_h.1 33 (by decide)).1 (hs_h.1 33 (by decide)).2.1 (ea_vpl (hs_h.1 33 (by decide)).2.2 z3) ?_
        refine ea_iconst (pc := 49) dX1_sumOfMinutes_49 (v := 1) rfl ?_
        refine ea_icmp_ne (pc := 50) (tgt := 59) dX1_sumOfMinutes_50 rfl (fun c4 => ?_) (fun c4 => ?_)
        · have H := H.1 c4
          refine ea_iinc (pc := 59) (v := 1) (lv' := [(0, vR (some (b0 + 32))), (1, vI x1), (2, vI (x2 + 1))]) dX1_sumOfMinutes_59 2 rfl rfl (Nat.le_of_ble_eq_true rfl) [1, 2, 0] rfl ?_
          refine ea_goto (pc := 62) (tgt := 4) dX1_sumOfMinutes_62 rfl ?_
          exact H
        · have H := H.2 c4
          refine ea_iincW (pc := 53) (v := 10080) (lv' := [(0, vR (some (b0 + 32))), (1, vI (x1 + 10080)), (2, vI x2)]) dX1_sumOfMinutes_53 1 rfl rfl (Nat.le_of_ble_eq_true rfl) [1, 0, 2] rfl ?_
          refine ea_iinc (pc := 59) (v := 1) (lv' := [(0, vR (some (b0 + 32))), (1, vI (x1 + 10080)), (2, vI (x2 + 1))]) dX1_sumOfMinutes_59 2 rfl rfl (Nat.le_of_ble_eq_true rfl) [1, 2, 0] rfl ?_
          refine ea_goto (pc := 62) (tgt := 4) dX1_sumOfMinutes_62 rfl ?_
          exact H
    · have H := H.2 c7
      refine ea_iload_n (pc := 22) dX1_sumOfMinutes_22 rfl 1 rfl ?_
      refine ea_aload_n (pc := 23) dX1_sumOfMinutes_23 rfl 0 rfl ?_
      refine ea_getR (pc := 24) dX1_sumOfMinutes_24 ec_1 (k := 7) (Nat.le_of_ble_eq_true rfl) rfl (Or.inl ew_373) (hs_h.1 32 (by decide)).1 (hs_h.1 32 (by decide)).2.1 (hs_h.2 32 7 rfl) ?_
      refine ea_iload_n (pc := 27) dX1_sumOfMinutes_27 rfl 2 rfl ?_
      obtain ⟨z6, H⟩ := H
      refine ea_iald (pc := 28) dX1_sumOfMinutes_28 (hs_h.1 39 (by decide)).1 (hs_h.1 39 (by decide)).2.1 (ea_vpl (hs_h.1 39 (by decide)).2.2 z6) ?_
      refine ea_iadd (pc := 29) dX1_sumOfMinutes_29 ?_
      refine ea_istore_n (pc := 30) (lv' := [(0, vR (some (b0 + 32))), (1, vI (x1 + (ea_i h (b0 + 39) (Int32.toNatClampNeg x2)))), (2, vI x2)]) dX1_sumOfMinutes_30 rfl (Nat.le_of_ble_eq_true rfl) [1, 0, 2] rfl ?_
      refine ea_goto (pc := 31) (tgt := 59) dX1_sumOfMinutes_31 rfl ?_
      refine ea_iinc (pc := 59) (v := 1) (lv' := [(0, vR (some (b0 + 32))), (1, vI (x1 + (ea_i h (b0 + 39) (Int32.toNatClampNeg x2)))), (2, vI (x2 + 1))]) dX1_sumOfMinutes_59 2 rfl rfl (Nat.le_of_ble_eq_true rfl) [1, 2, 0] rfl ?_
      refine ea_goto (pc := 62) (tgt := 4) dX1_sumOfMinutes_62 rfl ?_
      exact H
theorem pX1_sumOfMinutes_at42_0 {d b0 : Nat} {h0 hE h : ea_H} {rv : Option ea_V}  (hd : 1 ≤ d) (hs_h : ShC b0 h) (H : ea_W mX1_sumOfMinutes d h0 rv hE 4 [(0, vR (some (b0 + 42))), (1, vI 0), (2, vI 0)] [] h) : ea_W mX1_sumOfMinutes d h0 rv hE 0 [(0, vR (some (b0 + 42)))] [] h := by
  refine ea_iconst (pc := 0) dX1_sumOfMinutes_0 (v := 0) rfl ?_
  refine ea_istore_n (pc := 1) (lv' := [(0, vR (some (b0 + 42))), (1, vI 0)]) dX1_sumOfMinutes_1 rfl (Nat.le_of_ble_eq_true rfl) [1, 0] rfl ?_
  refine ea_iconst (pc := 2) dX1_sumOfMinutes_2 (v := 0) rfl ?_
  refine ea_istore_n (pc := 3) (lv' := [(0, vR (some (b0 + 42))), (1, vI 0), (2, vI 0)]) dX1_sumOfMinutes_3 rfl (Nat.le_of_ble_eq_true rfl) [1, 2, 0] rfl ?_
  exact H
theorem pX1_sumOfMinutes_at42_4 {d b0 : Nat} {h0 hE h : ea_H} {rv : Option ea_V} {x1 : Int32} {x2 : Int32} (hd : 1 ≤ d) (hs_h : ShC b0 h) (H : ((ea_i h (b0 + 42) 0) ≤ x2 → rv = some (vI x1) ∧ hE = h) ∧ (¬ (ea_i h (b0 + 42) 0) ≤ x2 → vp_in x2 120 ∧ (¬ (ea_i h (b0 + 43) (Int32.toNatClampNeg x2)) = (2 : Int32) → vp_in x2 120 ∧ ((ea_i h (b0 + 43) (Int32.toNatClampNeg x2)) = (0 : Int32) → ea_W mX1_sumOfMinutes d h0 rv hE 4 [(0, vR (some (b0 + 42))), (1, vI (x1 + 10080)), (2, vI (x2 + 1))] [] h) ∧ (¬ (ea_i h (b0 + 43) (Int32.toNatClampNeg x2)) = (0 : Int32) → vp_in x2 120 ∧ (¬ (ea_i h (b0 + 43) (Int32.toNatClampNeg x2)) = (1 : Int32) → ea_W mX1_sumOfMinutes d h0 rv hE 4 [(0, vR (some (b0 + 42))), (1, vI x1), (2, vI (x2 + 1))] [] h) ∧ ((ea_i h (b0 + 43) (Int32.toNatClampNeg x2)) = (1 : Int32) → ea_W mX1_sumOfMinutes d h0 rv hE 4 [(0, vR (some (b0 + 42))), (1, vI (x1 + 10080)), (2, vI (x2 + 1))] [] h))) ∧ ((ea_i h (b0 + 43) (Int32.toNatClampNeg x2)) = (2 : Int32) → vp_in x2 120 ∧ ea_W mX1_sumOfMinutes d h0 rv hE 4 [(0, vR (some (b0 + 42))), (1, vI (x1 + (ea_i h (b0 + 49) (Int32.toNatClampNeg x2)))), (2, vI (x2 + 1))] [] h))) : ea_W mX1_sumOfMinutes d h0 rv hE 4 [(0, vR (some (b0 + 42))), (1, vI x1), (2, vI x2)] [] h := by
  refine ea_iload_n (pc := 4) dX1_sumOfMinutes_4 rfl 2 rfl ?_
  refine ea_aload_n (pc := 5) dX1_sumOfMinutes_5 rfl 0 rfl ?_
  refine ea_getI (pc := 6) dX1_sumOfMinutes_6 ec_1 (k := 0) (Nat.le_of_ble_eq_true rfl) rfl (Or.inl ew_359) (hs_h.1 42 (by decide)).1 (hs_h.1 42 (by decide)).2.1 ?_
  refine ea_icmp_ge (pc := 9) (tgt := 65) dX1_sumOfMinutes_9 rfl (fun c8 => ?_) (fun c8 => ?_)
  · have H := H.1 c8
    refine ea_iload_n (pc := 65) dX1_sumOfMinutes_65 rfl 1 rfl ?_
    obtain ⟨rfl, rfl⟩ := H
    exact ea_ireturn (pc := 66) dX1_sumOfMinutes_66 rfl rfl
  · have H := H.2 c8
    refine ea_aload_n (pc := 12) dX1_sumOfMinutes_12 rfl 0 rfl ?_
    refine ea_getR (pc := 13) dX1_sumOfMinutes_13 ec_1 (k := 1) (Nat.le_of_ble_eq_true rfl) rfl (Or.inl ew_361) (hs_h.1 42 (by decide)).1 (hs_h.1 42 (by decide)).2.1 (hs_h.2 42 1 rfl) ?_
    refine ea_iload_n (pc := 16) dX1_sumOfMinutes_16 rfl 2 rfl ?_
    obtain ⟨z1, H⟩ := H
    refine ea_iald (pc := 17) dX1_sumOfMinutes_17 (hs_h.1 43 (by decide)).1 (hs_h.1 43 (by decide)).2.1 (ea_vpl (hs_h.1 43 (by decide)).2.2 z1) ?_
    refine ea_iconst (pc := 18) dX1_sumOfMinutes_18 (v := 2) rfl ?_
    refine ea_icmp_ne (pc := 19) (tgt := 34) dX1_sumOfMinutes_19 rfl (fun c7 => ?_) (fun c7 => ?_)
    · have H := H.1 c7
      refine ea_aload_n (pc := 34) dX1_sumOfMinutes_34 rfl 0 rfl ?_
      refine ea_getR (pc := 35) dX1_sumOfMinutes_35 ec_1 (k := 1) (Nat.le_of_ble_eq_true rfl) rfl (Or.inl ew_361) (hs_h.1 42 (by decide)).1 (hs_h.1 42 (by decide)).2.1 (hs_h.2 42 1 rfl) ?_
      refine ea_iload_n (pc := 38) dX1_sumOfMinutes_38 rfl 2 rfl ?_
      obtain ⟨z2, H⟩ := H
      refine ea_iald (pc := 39) dX1_sumOfMinutes_39 (hs_h.1 43 (by decide)).1 (hs_h.1 43 (by decide)).2.1 (ea_vpl (hs_h.1 43 (by decide)).2.2 z2) ?_
      refine ea_if_eq (pc := 40) (tgt := 53) dX1_sumOfMinutes_40 rfl (fun c5 => ?_) (fun c5 => ?_)
      · have H := H.1 c5
        refine ea_iincW (pc := 53) (v := 10080) (lv' := [(0, vR (some (b0 + 42))), (1, vI (x1 + 10080)), (2, vI x2)]) dX1_sumOfMinutes_53 1 rfl rfl (Nat.le_of_ble_eq_true rfl) [1, 0, 2] rfl ?_
        refine ea_iinc (pc := 59) (v := 1) (lv' := [(0, vR (some (b0 + 42))), (1, vI (x1 + 10080)), (2, vI (x2 + 1))]) dX1_sumOfMinutes_59 2 rfl rfl (Nat.le_of_ble_eq_true rfl) [1, 2, 0] rfl ?_
        refine ea_goto (pc := 62) (tgt := 4) dX1_sumOfMinutes_62 rfl ?_
        exact H
      · have H := H.2 c5
        refine ea_aload_n (pc := 43) dX1_sumOfMinutes_43 rfl 0 rfl ?_
        refine ea_getR (pc := 44) dX1_sumOfMinutes_44 ec_1 (k := 1) (Nat.le_of_ble_eq_true rfl) rfl (Or.inl ew_361) (hs_h.1 42 (by decide)).1 (hs_h.1 42 (by decide)).2.1 (hs_h.2 42 1 rfl) ?_
        refine ea_iload_n (pc := 47) dX1_sumOfMinutes_47 rfl 2 rfl ?_
        obtain ⟨z3, H⟩ := H
        refine ea_iald (pc := 48) dX1_sumOfMinutes_48 (hs_h.1 43 (by decide)).1 (hs_h.1 43 (by decide)).2.1 (ea_vpl (hs_h.1 43 (by decide)).2.2 z3) ?_
        refine ea_iconst (pc := 49) dX1_sumOfMinutes_49 (v := 1) rfl ?_
        refine ea_icmp_ne (pc := 50) (tgt := 59) dX1_sumOfMinutes_50 rfl (fun c4 => ?_) (fun c4 => ?_)
        · have H := H.1 c4
          refine ea_iinc (pc := 59) (v := 1) (lv' := [(0, vR (some (b0 + 42))), (1, vI x1), (2, vI (x2 + 1))]) dX1_sumOfMinutes_59 2 rfl rfl (Nat.le_of_ble_eq_true rfl) [1, 2, 0] rfl ?_
          refine ea_goto (pc := 62) (tgt := 4) dX1_sumOfMinutes_62 rfl ?_
          exact H
        · have H := H.2 c4
          refine ea_iincW (pc := 53) (v := 10080) (lv' := [(0, vR (some (b0 + 42))), (1, vI (x1 + 10080)), (2, vI x2)]) dX1_sumOfMinutes_53 1 rfl rfl (Nat.le_of_ble_eq_true rfl) [1, 0, 2] rfl ?_
          refine ea_iinc (pc := 59) (v := 1) (lv' := [(0, vR (some (b0 + 42))), (1, vI (x1 + 10080)), (2, vI (x2 + 1))]) dX1_sumOfMinutes_59 2 rfl rfl (Nat.le_of_ble_eq_true rfl) [1, 2, 0] rfl ?_
          refine ea_goto (pc := 62) (tgt := 4) dX1_sumOfMinutes_62 rfl ?_
          exact H
    · have H := H.2 c7
      refine ea_iload_n (pc := 22) dX1_sumOfMinutes_22 rfl 1 rfl ?_
      refine ea_aload_n (pc := 23) dX1_sumOfMinutes_23 rfl 0 rfl ?_
      refine ea_getR (pc := 24) dX1_sumOfMinutes_24 ec_1 (k := 7) (Nat.le_of_ble_eq_true rfl) rfl (Or.inl ew_373) (hs_h.1 42 (by decide)).1 (hs_h.1 42 (by decide)).2.1 (hs_h.2 42 7 rfl) ?_
      refine ea_iload_n (pc := 27) dX1_sumOfMinutes_27 rfl 2 rfl ?_
      obtain ⟨z6, H⟩ := H
      refine ea_iald (pc := 28) dX1_sumOfMinutes_28 (hs_h.1 49 (by decide)).1 (hs_h.1 49 (by decide)).2.1 (ea_vpl (hs_h.1 49 (by decide)).2.2 z6) ?_
      refine ea_iadd (pc := 29) dX1_sumOfMinutes_29 ?_
      refine ea_istore_n (pc := 30) (lv' := [(0, vR (some (b0 + 42))), (1, vI (x1 + (ea_i h (b0 + 49) (Int32.toNatClampNeg x2)))), (2, vI x2)]) dX1_sumOfMinutes_30 rfl (Nat.le_of_ble_eq_true rfl) [1, 0, 2] rfl ?_
      refine ea_goto (pc := 31) (tgt := 59) dX1_sumOfMinutes_31 rfl ?_
      refine ea_iinc (pc := 59) (v := 1) (lv' := [(0, vR (some (b0 + 42))), (1, vI (x1 + (ea_i h (b0 + 49) (Int32.toNatClampNeg x2)))), (2, vI (x2 + 1))]) dX1_sumOfMinutes_59 2 rfl rfl (Nat.le_of_ble_eq_true rfl) [1, 2, 0] rfl ?_
      refine ea_goto (pc := 62) (tgt := 4) dX1_sumOfMinutes_62 rfl ?_
      exact H
theorem pX1_carry_at32_0 {d b0 : Nat} {h0 hE h : ea_H} {rv : Option ea_V} {x1 : Int32} {x2 : Int32} (hd : 2 ≤ d) (hs_h : ShC b0 h) (H : ∃ (d1 : Nat) (h2 : ea_H), ea_Met mX10_refresh d1 [vR (some (b0 + 13))] h none h2 ∧ d1 + 1 ≤ d ∧ ShC b0 h2 ∧ ∃ (d5 : Nat) (xc9 : Int32) (h6 : ea_H), ea_Met mX10_firstBehind d5 [vR (some (b0 + 13)), vI x1] h2 (some (vI xc9)) h6 ∧ d5 + 1 ≤ d ∧ ShC b0 h6 ∧ ea_W mX1_carry d h0 rv hE 25 [(0, vR (some (b0 + 32))), (2, vI x2), (3, vI ((x1 / (1440 : Int32)) + (1 : Int32))), (4, vI xc9)] [] h6) : ea_W mX1_carry d h0 rv hE 0 [(0, vR (some (b0 + 32))), (1, vI x1), (2, vI x2)] [] h := by
  refine ea_aload_n (pc := 0) dX1_carry_0 rfl 0 rfl ?_
  refine ea_getR (pc := 1) dX1_carry_1 ec_1 (k := 12) (Nat.le_of_ble_eq_true rfl) rfl (Or.inl ew_378) (hs_h.1 32 (by decide)).1 (hs_h.1 32 (by decide)).2.1 (hs_h.2 32 12 rfl) ?_
  obtain ⟨d1, h2, m3, q4, hs_h2, H⟩ := H
  refine ea_callV (pc := 4) (As := []) (st := []) dX1_carry_4 kX10_refresh m3 q4 rfl (Nat.le_of_ble_eq_true rfl) ew_563 ew_564 ew_565 (ci := 10) rfl (by decide) (hs_h.1 13 (by decide)).1 (hs_h.1 13 (by decide)).2.1 ?_
  refine ea_iload_n (pc := 7) dX1_carry_7 rfl 1 rfl ?_
  refine ea_sipush (pc := 8) dX1_carry_8 (v := 1440) rfl ?_
  refine ea_idiv (pc := 11) dX1_carry_11 (by decide) ?_
  refine ea_iconst (pc := 12) dX1_carry_12 (v := 1) rfl ?_
  refine ea_iadd (pc := 13) dX1_carry_13 ?_
  refine ea_istore_n (pc := 14) (lv' := [(0, vR (some (b0 + 32))), (1, vI x1), (2, vI x2), (3, vI ((x1 / (1440 : Int32)) + (1 : Int32)))]) dX1_carry_14 rfl (Nat.le_of_ble_eq_true rfl) [1, 2, 3, 0] rfl ?_
  refine ea_aload_n (pc := 15) dX1_carry_15 rfl 0 rfl ?_
  refine ea_getR (pc := 16) dX1_carry_16 ec_1 (k := 12) (Nat.le_of_ble_eq_true rfl) rfl (Or.inl ew_378) (hs_h2.1 32 (by decide)).1 (hs_h2.1 32 (by decide)).2.1 (hs_h2.2 32 12 rfl) ?_
  refine ea_iload_n (pc := 19) dX1_carry_19 rfl 1 rfl ?_
  obtain ⟨d5, xc9, h6, m7, q8, hs_h6, H⟩ := H
  refine ea_callV (pc := 20) (As := [vI x1]) (st := []) dX1_carry_20 kX10_firstBehind m7 q8 rfl (Nat.le_of_ble_eq_true rfl) ew_631 ew_632 ew_633 (ci := 10) rfl (by decide) (hs_h2.1 13 (by decide)).1 (hs_h2.1 13 (by decide)).2.1 ?_
  refine ea_istore (pc := 23) (lv' := [(0, vR (some (b0 + 32))), (2, vI x2), (3, vI ((x1 / (1440 : Int32)) + (1 : Int32))), (4, vI xc9)]) dX1_carry_23 (Nat.le_of_ble_eq_true rfl) [1, 3, 4, 0] rfl ?_
  exact H
theorem pX1_carry_at32_25 {d b0 : Nat} {h0 hE h : ea_H} {rv : Option ea_V} {x2 : Int32} {x3 : Int32} {x4 : Int32} (hd : 2 ≤ d) (hs_h : ShC b0 h) (H : ((ea_i h (b0 + 13) 1) ≤ x4 → ea_W mX1_carry d h0 rv hE 125 [(0, vR (some (b0 + 32))), (2, vI x2), (3, vI x3)] [] h) ∧ (¬ (ea_i h (b0 + 13) 1) ≤ x4 → ((ea_i h (b0 + 32) 10) ≤ (0 : Int32) → ea_W mX1_carry d h0 rv hE 125 [(0, vR (some (b0 + 32))), (2, vI x2), (3, vI x3)] [] h) ∧ (¬ (ea_i h (b0 + 32) 10) ≤ (0 : Int32) → (okX10_keyAt b0 (x4 : Int32) h) ∧ ((vX10_minuteIn ((vX10_keyAt b0 (x4 : Int32) h) : Int32) h) ≤ x2 → ea_W mX1_carry d h0 rv hE 71 [(0, vR (some (b0 + 32))), (2, vI x2), (3, vI x3), (4, vI x4), (5, vI (vX10_keyAt b0 (x4 : Int32) h)), (6, vI (vX10_minuteIn ((vX10_keyAt b0 (x4 : Int32) h) : Int32) h))] [] h) ∧ (¬ (vX10_minuteIn ((vX10_keyAt b0 (x4 : Int32) h) : Int32) h) ≤ x2 → ea_W mX1_carry d h0 rv hE 125 [(0, vR (some (b0 + 32))), (2, vI x2), (3, vI x3)] [] h)))) : ea_W mX1_carry d h0 rv hE 25 [(0, vR (some (b0 + 32))), (2, vI x2), (3, vI x3), (4, vI x4)] [] h := by
  refine ea_iload (pc := 25) dX1_carry_25 3 rfl ?_
  refine ea_aload_n (pc := 27) dX1_carry_27 rfl 0 rfl ?_
  refine ea_getR (pc := 28) dX1_carry_28 ec_1 (k := 12) (Nat.le_of_ble_eq_true rfl) rfl (Or.inl ew_378) (hs_h.1 32 (by decide)).1 (hs_h.1 32 (by decide)).2.1 (hs_h.2 32 12 rfl) ?_
  refine ea_getI (pc := 31) dX1_carry_31 ec_10 (k := 1) (Nat.le_of_ble_eq_true rfl) rfl (Or.inl ew_228) (hs_h.1 13 (by decide)).1 (hs_h.1 13 (by decide)).2.1 ?_
  refine ea_icmp_ge (pc := 34) (tgt := 125) dX1_carry_34 rfl (fun c24 => ?_) (fun c24 => ?_)
  · have H := H.1 c24
    exact ea_fewer [0, 1, 2] rfl H
  · have H := H.2 c24
    refine ea_aload_n (pc := 37) dX1_carry_37 rfl 0 rfl ?_
    refine ea_getI (pc := 38) dX1_carry_38 ec_1 (k := 10) (Nat.le_of_ble_eq_true rfl) rfl (Or.inl ew_376) (hs_h.1 32 (by decide)).1 (hs_h.1 32 (by decide)).2.1 ?_
    refine ea_if_le (pc := 41) (tgt := 125) dX1_carry_41 rfl (fun c23 => ?_) (fun c23 => ?_)
    · have H := H.1 c23
      exact ea_fewer [0, 1, 2] rfl H
    · have H := H.2 c23
      refine ea_aload_n (pc := 44) dX1_carry_44 rfl 0 rfl ?_
      refine ea_getR (pc := 45) dX1_carry_45 ec_1 (k := 12) (Nat.le_of_ble_eq_true rfl) rfl (Or.inl ew_378) (hs_h.1 32 (by decide)).1 (hs_h.1 32 (by decide)).2.1 (hs_h.2 32 12 rfl) ?_
      refine ea_iload (pc := 48) dX1_carry_48 3 rfl ?_
      obtain ⟨z22, H⟩ := H
      refine ea_callV (pc := 50) (d' := d - 1) (As := [vI x4]) (st := []) dX1_carry_50 kX10_keyAt (sX10_keyAt (d := d - 1) (by omega) hs_h z22) (by omega) rfl (Nat.le_of_ble_eq_true rfl) ew_639 ew_636 ew_637 (ci := 10) rfl (by decide) (hs_h.1 13 (by decide)).1 (hs_h.1 13 (by decide)).2.1 ?_
      refine ea_istore (pc := 53) (lv' := [(0, vR (some (b0 + 32))), (2, vI x2), (3, vI x3), (4, vI x4), (5, vI (vX10_keyAt b0 (x4 : Int32) h))]) dX1_carry_53 (Nat.le_of_ble_eq_true rfl) [1, 2, 3, 4, 0] rfl ?_
      refine ea_iload (pc := 55) dX1_carry_55 4 rfl ?_
      refine ea_callS (pc := 57) (d' := d - 1) (As := [vI (vX10_keyAt b0 (x4 : Int32) h)]) (st := []) dX1_carry_57 kX10_minuteIn (sX10_minuteIn (d := d - 1) (by omega)) (by omega) rfl (Nat.le_of_ble_eq_true rfl) ew_640 ew_603 ?_
      refine ea_istore (pc := 60) (lv' := [(0, vR (some (b0 + 32))), (2, vI x2), (3, vI x3), (4, vI x4), (5, vI (vX10_keyAt b0 (x4 : Int32) h)), (6, vI (vX10_minuteIn ((vX10_keyAt b0 (x4 : Int32) h) : Int32) h))]) dX1_carry_60 (Nat.le_of_ble_eq_true rfl) [1, 2, 3, 4, 5, 0] rfl ?_
      refine ea_iload (pc := 62) dX1_carry_62 5 rfl ?_
      refine ea_iload_n (pc := 64) dX1_carry_64 rfl 1 rfl ?_
      refine ea_icmp_le (pc := 65) (tgt := 71) dX1_carry_65 rfl (fun c20 => ?_) (fun c20 => ?_)
      · have H := H.1 c20
        exact H
      · have H := H.2 c20
        refine ea_goto (pc := 68) (tgt := 125) dX1_carry_68 rfl ?_
        exact ea_fewer [0, 1, 2] rfl H
theorem pX1_carry_at32_71 {d b0 : Nat} {h0 hE h : ea_H} {rv : Option ea_V} {x2 : Int32} {x3 : Int32} {x4 : Int32} {x5 : Int32} {x6 : Int32} (hd : 2 ≤ d) (hs_h : ShC b0 h) (H : (x6 < (x3 * (1440 : Int32)) → ((vX10_isGoing (x5 : Int32) h) = (0 : Int32) → ∃ (d15 : Nat) (h16 : ea_H), ea_Met mX1_comes d15 [vR (some (b0 + 32)), vI x5, vI x6] h none h16 ∧ d15 + 1 ≤ d ∧ ShC b0 h16 ∧ ea_W mX1_carry d h0 rv hE 25 [(0, vR (some (b0 + 32))), (2, vI x2), (3, vI x3), (4, vI (x4 + 1))] [] h16) ∧ (¬ (vX10_isGoing (x5 : Int32) h) = (0 : Int32) → ∃ (d19 : Nat) (h20 : ea_H), ea_Met mX1_goes d19 [vR (some (b0 + 32)), vI x5, vI x6] h none h20 ∧ d19 + 1 ≤ d ∧ ShC b0 h20 ∧ ea_W mX1_carry d h0 rv hE 25 [(0, vR (some (b0 + 32))), (2, vI x2), (3, vI x3), (4, vI (x4 + 1))] [] h20)) ∧ (¬ x6 < (x3 * (1440 : Int32)) → ∃ (d25 : Nat) (h26 : ea_H), ea_Met mX1_burn d25 [vR (some (b0 + 32)), vI x3] h none h26 ∧ d25 + 1 ≤ d ∧ ShC b0 h26 ∧ ea_W mX1_carry d h0 rv hE 71 [(0, vR (some (b0 + 32))), (2, vI x2), (3, vI (x3 + 1)), (4, vI x4), (5, vI x5), (6, vI x6)] [] h26)) : ea_W mX1_carry d h0 rv hE 71 [(0, vR (some (b0 + 32))), (2, vI x2), (3, vI x3), (4, vI x4), (5, vI x5), (6, vI x6)] [] h := by
  refine ea_iload_n (pc := 71) dX1_carry_71 rfl 2 rfl ?_
  refine ea_sipush (pc := 72) dX1_carry_72 (v := 1440) rfl ?_
  refine ea_imul (pc := 75) dX1_carry_75 ?_
  refine ea_iload (pc := 76) dX1_carry_76 5 rfl ?_
  refine ea_icmp_gt (pc := 78) (tgt := 92) dX1_carry_78 rfl (fun c29 => ?_) (fun c29 => ?_)
  · have H := H.1 c29
    refine ea_iload (pc := 92) dX1_carry_92 4 rfl ?_
    refine ea_callS (pc := 94) (d' := d - 1) (As := [vI x5]) (st := []) dX1_carry_94 kX10_isGoing (sX10_isGoing (d := d - 1) (by omega)) (by omega) rfl (Nat.le_of_ble_eq_true rfl) ew_665 ew_590 ?_
    refine ea_if_eq (pc := 97) (tgt := 111) dX1_carry_97 rfl (fun c23 => ?_) (fun c23 => ?_)
    · have H := H.1 c23
      refine ea_aload_n (pc := 111) dX1_carry_111 rfl 0 rfl ?_
      refine ea_iload (pc := 112) dX1_carry_112 4 rfl ?_
      refine ea_iload (pc := 114) dX1_carry_114 5 rfl ?_
      obtain ⟨d15, h16, m17, q18, hs_h16, H⟩ := H
      refine ea_callV (pc := 116) (As := [vI x5, vI x6]) (st := []) dX1_carry_116 kX1_comes m17 q18 rfl (Nat.le_of_ble_eq_true rfl) ew_712 ew_714 ew_14 (ci := 1) rfl (by decide) (hs_h.1 32 (by decide)).1 (hs_h.1 32 (by decide)).2.1 ?_
      refine ea_iinc (pc := 119) (v := 1) (lv' := [(0, vR (some (b0 + 32))), (2, vI x2), (3, vI x3), (4, vI (x4 + 1))]) dX1_carry_119 3 rfl rfl (Nat.le_of_ble_eq_true rfl) [1, 2, 3, 0] rfl ?_
      refine ea_goto (pc := 122) (tgt := 25) dX1_carry_122 rfl ?_
      exact H
    · have H := H.2 c23
      refine ea_aload_n (pc := 100) dX1_carry_100 rfl 0 rfl ?_
      refine ea_iload (pc := 101) dX1_carry_101 4 rfl ?_
      refine ea_iload (pc := 103) dX1_carry_103 5 rfl ?_
      obtain ⟨d19, h20, m21, q22, hs_h20, H⟩ := H
      refine ea_callV (pc := 105) (As := [vI x5, vI x6]) (st := []) dX1_carry_105 kX1_goes m21 q22 rfl (Nat.le_of_ble_eq_true rfl) ew_666 ew_668 ew_12 (ci := 1) rfl (by decide) (hs_h.1 32 (by decide)).1 (hs_h.1 32 (by decide)).2.1 ?_
      refine ea_goto (pc := 108) (tgt := 119) dX1_carry_108 rfl ?_
      refine ea_iinc (pc := 119) (v := 1) (lv' := [(0, vR (some (b0 + 32))), (2, vI x2), (3, vI x3), (4, vI (x4 + 1))]) dX1_carry_119 3 rfl rfl (Nat.le_of_ble_eq_true rfl) [1, 2, 3, 0] rfl ?_
      refine ea_goto (pc := 122) (tgt := 25) dX1_carry_122 rfl ?_
      exact H
  · have H := H.2 c29
    refine ea_aload_n (pc := 81) dX1_carry_81 rfl 0 rfl ?_
    refine ea_iload_n (pc := 82) dX1_carry_82 rfl 2 rfl ?_
    obtain ⟨d25, h26, m27, q28, hs_h26, H⟩ := H
    refine ea_callV (pc := 83) (As := [vI x3]) (st := []) dX1_carry_83 kX1_burn m27 q28 rfl (Nat.le_of_ble_eq_true rfl) ew_641 ew_643 ew_11 (ci := 1) rfl (by decide) (hs_h.1 32 (by decide)).1 (hs_h.1 32 (by decide)).2.1 ?_
    refine ea_iinc (pc := 86) (v := 1) (lv' := [(0, vR (some (b0 + 32))), (2, vI x2), (3, vI (x3 + 1)), (4, vI x4), (5, vI x5), (6, vI x6)]) dX1_carry_86 2 rfl rfl (Nat.le_of_ble_eq_true rfl) [1, 2, 0, 3, 4, 5] rfl ?_
    refine ea_goto (pc := 89) (tgt := 71) dX1_carry_89 rfl ?_
    exact H
theorem pX1_carry_at32_125 {d b0 : Nat} {h0 hE h : ea_H} {rv : Option ea_V} {x2 : Int32} {x3 : Int32} (hd : 2 ≤ d) (hs_h : ShC b0 h) (H : (x2 < (x3 * (1440 : Int32)) → rv = none ∧ hE = h) ∧ (¬ x2 < (x3 * (1440 : Int32)) → ∃ (d1 : Nat) (h2 : ea_H), ea_Met mX1_burn d1 [vR (some (b0 + 32)), vI x3] h none h2 ∧ d1 + 1 ≤ d ∧ ShC b0 h2 ∧ ea_W mX1_carry d h0 rv hE 125 [(0, vR (some (b0 + 32))), (2, vI x2), (3, vI (x3 + 1))] [] h2)) : ea_W mX1_carry d h0 rv hE 125 [(0, vR (some (b0 + 32))), (2, vI x2), (3, vI x3)] [] h := by
  refine ea_iload_n (pc := 125) dX1_carry_125 rfl 2 rfl ?_
  refine ea_sipush (pc := 126) dX1_carry_126 (v := 1440) rfl ?_
  refine ea_imul (pc := 129) dX1_carry_129 ?_
  refine ea_iload_n (pc := 130) dX1_carry_130 rfl 1 rfl ?_
  refine ea_icmp_gt (pc := 131) (tgt := 145) dX1_carry_131 rfl (fun c5 => ?_) (fun c5 => ?_)
  · have H := H.1 c5
    obtain ⟨rfl, rfl⟩ := H
    exact ea_return (pc := 145) dX1_carry_145 rfl
  · have H := H.2 c5
    refine ea_aload_n (pc := 134) dX1_carry_134 rfl 0 rfl ?_
    refine ea_iload_n (pc := 135) dX1_carry_135 rfl 2 rfl ?_
    obtain ⟨d1, h2, m3, q4, hs_h2, H⟩ := H
    refine ea_callV (pc := 136) (As := [vI x3]) (st := []) dX1_carry_136 kX1_burn m3 q4 rfl (Nat.le_of_ble_eq_true rfl) ew_641 ew_643 ew_11 (ci := 1) rfl (by decide) (hs_h.1 32 (by decide)).1 (hs_h.1 32 (by decide)).2.1 ?_
    refine ea_iinc (pc := 139) (v := 1) (lv' := [(0, vR (some (b0 + 32))), (2, vI x2), (3, vI (x3 + 1))]) dX1_carry_139 2 rfl rfl (Nat.le_of_ble_eq_true rfl) [1, 2, 0] rfl ?_
    refine ea_goto (pc := 142) (tgt := 125) dX1_carry_142 rfl ?_
    exact H
theorem pX1_carry_at42_0 {d b0 : Nat} {h0 hE h : ea_H} {rv : Option ea_V} {x1 : Int32} {x2 : Int32} (hd : 2 ≤ d) (hs_h : ShC b0 h) (H : ∃ (d1 : Nat) (h2 : ea_H), ea_Met mX10_refresh d1 [vR (some (b0 + 13))] h none h2 ∧ d1 + 1 ≤ d ∧ ShC b0 h2 ∧ ∃ (d5 : Nat) (xc9 : Int32) (h6 : ea_H), ea_Met mX10_firstBehind d5 [vR (some (b0 + 13)), vI x1] h2 (some (vI xc9)) h6 ∧ d5 + 1 ≤ d ∧ ShC b0 h6 ∧ ea_W mX1_carry d h0 rv hE 25 [(0, vR (some (b0 + 42))), (2, vI x2), (3, vI ((x1 / (1440 : Int32)) + (1 : Int32))), (4, vI xc9)] [] h6) : ea_W mX1_carry d h0 rv hE 0 [(0, vR (some (b0 + 42))), (1, vI x1), (2, vI x2)] [] h := by
  refine ea_aload_n (pc := 0) dX1_carry_0 rfl 0 rfl ?_
  refine ea_getR (pc := 1) dX1_carry_1 ec_1 (k := 12) (Nat.le_of_ble_eq_true rfl) rfl (Or.inl ew_378) (hs_h.1 42 (by decide)).1 (hs_h.1 42 (by decide)).2.1 (hs_h.2 42 12 rfl) ?_
  obtain ⟨d1, h2, m3, q4, hs_h2, H⟩ := H
  refine ea_callV (pc := 4) (As := []) (st := []) dX1_carry_4 kX10_refresh m3 q4 rfl (Nat.le_of_ble_eq_true rfl) ew_563 ew_564 ew_565 (ci := 10) rfl (by decide) (hs_h.1 13 (by decide)).1 (hs_h.1 13 (by decide)).2.1 ?_
  refine ea_iload_n (pc := 7) dX1_carry_7 rfl 1 rfl ?_
  refine ea_sipush (pc := 8) dX1_carry_8 (v := 1440) rfl ?_
  refine ea_idiv (pc := 11) dX1_carry_11 (by decide) ?_
  refine ea_iconst (pc := 12) dX1_carry_12 (v := 1) rfl ?_
  refine ea_iadd (pc := 13) dX1_carry_13 ?_
  refine ea_istore_n (pc := 14) (lv' := [(0, vR (some (b0 + 42))), (1, vI x1), (2, vI x2), (3, vI ((x1 / (1440 : Int32)) + (1 : Int32)))]) dX1_carry_14 rfl (Nat.le_of_ble_eq_true rfl) [1, 2, 3, 0] rfl ?_
  refine ea_aload_n (pc := 15) dX1_carry_15 rfl 0 rfl ?_
  refine ea_getR (pc := 16) dX1_carry_16 ec_1 (k := 12) (Nat.le_of_ble_eq_true rfl) rfl (Or.inl ew_378) (hs_h2.1 42 (by decide)).1 (hs_h2.1 42 (by decide)).2.1 (hs_h2.2 42 12 rfl) ?_
  refine ea_iload_n (pc := 19) dX1_carry_19 rfl 1 rfl ?_
  obtain ⟨d5, xc9, h6, m7, q8, hs_h6, H⟩ := H
  refine ea_callV (pc := 20) (As := [vI x1]) (st := []) dX1_carry_20 kX10_firstBehind m7 q8 rfl (Nat.le_of_ble_eq_true rfl) ew_631 ew_632 ew_633 (ci := 10) rfl (by decide) (hs_h2.1 13 (by decide)).1 (hs_h2.1 13 (by decide)).2.1 ?_
  refine ea_istore (pc := 23) (lv' := [(0, vR (some (b0 + 42))), (2, vI x2), (3, vI ((x1 / (1440 : Int32)) + (1 : Int32))), (4, vI xc9)]) dX1_carry_23 (Nat.le_of_ble_eq_true rfl) [1, 3, 4, 0] rfl ?_
  exact H
theorem pX1_carry_at42_25 {d b0 : Nat} {h0 hE h : ea_H} {rv : Option ea_V} {x2 : Int32} {x3 : Int32} {x4 : Int32} (hd : 2 ≤ d) (hs_h : ShC b0 h) (H : ((ea_i h (b0 + 13) 1) ≤ x4 → ea_W mX1_carry d h0 rv hE 125 [(0, vR (some (b0 + 42))), (2, vI x2), (3, vI x3)] [] h) ∧ (¬ (ea_i h (b0 + 13) 1) ≤ x4 → ((ea_i h (b0 + 42) 10) ≤ (0 : Int32) → ea_W mX1_carry d h0 rv hE 125 [(0, vR (some (b0 + 42))), (2, vI x2), (3, vI x3)] [] h) ∧ (¬ (ea_i h (b0 + 42) 10) ≤ (0 : Int32) → (okX10_keyAt b0 (x4 : Int32) h) ∧ ((vX10_minuteIn ((vX10_keyAt b0 (x4 : Int32) h) : Int32) h) ≤ x2 → ea_W mX1_carry d h0 rv hE 71 [(0, vR (some (b0 + 42))), (2, vI x2), (3, vI x3), (4, vI x4), (5, vI (vX10_keyAt b0 (x4 : Int32) h)), (6, vI (vX10_minuteIn ((vX10_keyAt b0 (x4 : Int32) h) : Int32) h))] [] h) ∧ (¬ (vX10_minuteIn ((vX10_keyAt b0 (x4 : Int32) h) : Int32) h) ≤ x2 → ea_W mX1_carry d h0 rv hE 125 [(0, vR (some (b0 + 42))), (2, vI x2), (3, vI x3)] [] h)))) : ea_W mX1_carry d h0 rv hE 25 [(0, vR (some (b0 + 42))), (2, vI x2), (3, vI x3), (4, vI x4)] [] h := by
  refine ea_iload (pc := 25) dX1_carry_25 3 rfl ?_
  refine ea_aload_n (pc := 27) dX1_carry_27 rfl 0 rfl ?_
  refine ea_getR (pc := 28) dX1_carry_28 ec_1 (k := 12) (Nat.le_of_ble_eq_true rfl) rfl (Or.inl ew_378) (hs_h.1 42 (by decide)).1 (hs_h.1 42 (by decide)).2.1 (hs_h.2 42 12 rfl) ?_
  refine ea_getI (pc := 31) dX1_carry_31 ec_10 (k := 1) (Nat.le_of_ble_eq_true rfl) rfl (Or.inl ew_228) (hs_h.1 13 (by decide)).1 (hs_h.1 13 (by decide)).2.1 ?_
  refine ea_icmp_ge (pc := 34) (tgt := 125) dX1_carry_34 rfl (fun c24 => ?_) (fun c24 => ?_)
  · have H := H.1 c24
    exact ea_fewer [0, 1, 2] rfl H
  · have H := H.2 c24
    refine ea_aload_n (pc := 37) dX1_carry_37 rfl 0 rfl ?_
    refine ea_getI (pc := 38) dX1_carry_38 ec_1 (k := 10) (Nat.le_of_ble_eq_true rfl) rfl (Or.inl ew_376) (hs_h.1 42 (by decide)).1 (hs_h.1 42 (by decide)).2.1 ?_
    refine ea_if_le (pc := 41) (tgt := 125) dX1_carry_41 rfl (fun c23 => ?_) (fun c23 => ?_)
    · have H := H.1 c23
      exact ea_fewer [0, 1, 2] rfl H
    · have H := H.2 c23
      refine ea_aload_n (pc := 44) dX1_carry_44 rfl 0 rfl ?_
      refine ea_getR (pc := 45) dX1_carry_45 ec_1 (k := 12) (Nat.le_of_ble_eq_true rfl) rfl (Or.inl ew_378) (hs_h.1 42 (by decide)).1 (hs_h.1 42 (by decide)).2.1 (hs_h.2 42 12 rfl) ?_
      refine ea_iload (pc := 48) dX1_carry_48 3 rfl ?_
      obtain ⟨z22, H⟩ := H
      refine ea_callV (pc := 50) (d' := d - 1) (As := [vI x4]) (st := []) dX1_carry_50 kX10_keyAt (sX10_keyAt (d := d - 1) (by omega) hs_h z22) (by omega) rfl (Nat.le_of_ble_eq_true rfl) ew_639 ew_636 ew_637 (ci := 10) rfl (by decide) (hs_h.1 13 (by decide)).1 (hs_h.1 13 (by decide)).2.1 ?_
      refine ea_istore (pc := 53) (lv' := [(0, vR (some (b0 + 42))), (2, vI x2), (3, vI x3), (4, vI x4), (5, vI (vX10_keyAt b0 (x4 : Int32) h))]) dX1_carry_53 (Nat.le_of_ble_eq_true rfl) [1, 2, 3, 4, 0] rfl ?_
      refine ea_iload (pc := 55) dX1_carry_55 4 rfl ?_
      refine ea_callS (pc := 57) (d' := d - 1) (As := [vI (vX10_keyAt b0 (x4 : Int32) h)]) (st := []) dX1_carry_57 kX10_minuteIn (sX10_minuteIn (d := d - 1) (by omega)) (by omega) rfl (Nat.le_of_ble_eq_true rfl) ew_640 ew_603 ?_
      refine ea_istore (pc := 60) (lv' := [(0, vR (some (b0 + 42))), (2, vI x2), (3, vI x3), (4, vI x4), (5, vI (vX10_keyAt b0 (x4 : Int32) h)), (6, vI (vX10_minuteIn ((vX10_keyAt b0 (x4 : Int32) h) : Int32) h))]) dX1_carry_60 (Nat.le_of_ble_eq_true rfl) [1, 2, 3, 4, 5, 0] rfl ?_
      refine ea_iload (pc := 62) dX1_carry_62 5 rfl ?_
      refine ea_iload_n (pc := 64) dX1_carry_64 rfl 1 rfl ?_
      refine ea_icmp_le (pc := 65) (tgt := 71) dX1_carry_65 rfl (fun c20 => ?_) (fun c20 => ?_)
      · have H := H.1 c20
        exact H
      · have H := H.2 c20
        refine ea_goto (pc := 68) (tgt := 125) dX1_carry_68 rfl ?_
        exact ea_fewer [0, 1, 2] rfl H
theorem pX1_carry_at42_71 {d b0 : Nat} {h0 hE h : ea_H} {rv : Option ea_V} {x2 : Int32} {x3 : Int32} {x4 : Int32} {x5 : Int32} {x6 : Int32} (hd : 2 ≤ d) (hs_h : ShC b0 h) (H : (x6 < (x3 * (1440 : Int32)) → ((vX10_isGoing (x5 : Int32) h) = (0 : Int32) → ∃ (d15 : Nat) (h16 : ea_H), ea_Met mX1_comes d15 [vR (some (b0 + 42)), vI x5, vI x6] h none h16 ∧ d15 + 1 ≤ d ∧ ShC b0 h16 ∧ ea_W mX1_carry d h0 rv hE 25 [(0, vR (some (b0 + 42))), (2, vI x2), (3, vI x3), (4, vI (x4 + 1))] [] h16) ∧ (¬ (vX10_isGoing (x5 : Int32) h) = (0 : Int32) → ∃ (d19 : Nat) (h20 : ea_H), ea_Met mX1_goes d19 [vR (some (b0 + 42)), vI x5, vI x6] h none h20 ∧ d19 + 1 ≤ d ∧ ShC b0 h20 ∧ ea_W mX1_carry d h0 rv hE 25 [(0, vR (some (b0 + 42))), (2, vI x2), (3, vI x3), (4, vI (x4 + 1))] [] h20)) ∧ (¬ x6 < (x3 * (1440 : Int32)) → ∃ (d25 : Nat) (h26 : ea_H), ea_Met mX1_burn d25 [vR (some (b0 + 42)), vI x3] h none h26 ∧ d25 + 1 ≤ d ∧ ShC b0 h26 ∧ ea_W mX1_carry d h0 rv hE 71 [(0, vR (some (b0 + 42))), (2, vI x2), (3, vI (x3 + 1)), (4, vI x4), (5, vI x5), (6, vI x6)] [] h26)) : ea_W mX1_carry d h0 rv hE 71 [(0, vR (some (b0 + 42))), (2, vI x2), (3, vI x3), (4, vI x4), (5, vI x5), (6, vI x6)] [] h := by
  refine ea_iload_n (pc := 71) dX1_carry_71 rfl 2 rfl ?_
  refine ea_sipush (pc := 72) dX1_carry_72 (v := 1440) rfl ?_
  refine ea_imul (pc := 75) dX1_carry_75 ?_
  refine ea_iload (pc := 76) dX1_carry_76 5 rfl ?_
  refine ea_icmp_gt (pc := 78) (tgt := 92) dX1_carry_78 rfl (fun c29 => ?_) (fun c29 => ?_)
  · have H := H.1 c29
    refine ea_iload (pc := 92) dX1_carry_92 4 rfl ?_
    refine ea_callS (pc := 94) (d' := d - 1) (As := [vI x5]) (st := []) dX1_carry_94 kX10_isGoing (sX10_isGoing (d := d - 1) (by omega)) (by omega) rfl (Nat.le_of_ble_eq_true rfl) ew_665 ew_590 ?_
    refine ea_if_eq (pc := 97) (tgt := 111) dX1_carry_97 rfl (fun c23 => ?_) (fun c23 => ?_)
    · have H := H.1 c23
      refine ea_aload_n (pc := 111) dX1_carry_111 rfl 0 rfl ?_
      refine ea_iload (pc := 112) dX1_carry_112 4 rfl ?_
      refine ea_iload (pc := 114) dX1_carry_114 5 rfl ?_
      obtain ⟨d15, h16, m17, q18, hs_h16, H⟩ := H
      refine ea_callV (pc := 116) (As := [vI x5, vI x6]) (st := []) dX1_carry_116 kX1_comes m17 q18 rfl (Nat.le_of_ble_eq_true rfl) ew_712 ew_714 ew_14 (ci := 1) rfl (by decide) (hs_h.1 42 (by decide)).1 (hs_h.1 42 (by decide)).2.1 ?_
      refine ea_iinc (pc := 119) (v := 1) (lv' := [(0, vR (some (b0 + 42))), (2, vI x2), (3, vI x3), (4, vI (x4 + 1))]) dX1_carry_119 3 rfl rfl (Nat.le_of_ble_eq_true rfl) [1, 2, 3, 0] rfl ?_
      refine ea_goto (pc := 122) (tgt := 25) dX1_carry_122 rfl ?_
      exact H
    · have H := H.2 c23
      refine ea_aload_n (pc := 100) dX1_carry_100 rfl 0 rfl ?_
      refine ea_iload (pc := 101) dX1_carry_101 4 rfl ?_
      refine ea_iload (pc := 103) dX1_carry_103 5 rfl ?_
      obtain ⟨d19, h20, m21, q22, hs_h20, H⟩ := H
      refine ea_callV (pc := 105) (As := [vI x5, vI x6]) (st := []) dX1_carry_105 kX1_goes m21 q22 rfl (Nat.le_of_ble_eq_true rfl) ew_666 ew_668 ew_12 (ci := 1) rfl (by decide) (hs_h.1 42 (by decide)).1 (hs_h.1 42 (by decide)).2.1 ?_
      refine ea_goto (pc := 108) (tgt := 119) dX1_carry_108 rfl ?_
      refine ea_iinc (pc := 119) (v := 1) (lv' := [(0, vR (some (b0 + 42))), (2, vI x2), (3, vI x3), (4, vI (x4 + 1))]) dX1_carry_119 3 rfl rfl (Nat.le_of_ble_eq_true rfl) [1, 2, 3, 0] rfl ?_
      refine ea_goto (pc := 122) (tgt := 25) dX1_carry_122 rfl ?_
      exact H
  · have H := H.2 c29
    refine ea_aload_n (pc := 81) dX1_carry_81 rfl 0 rfl ?_
    refine ea_iload_n (pc := 82) dX1_carry_82 rfl 2 rfl ?_
    obtain ⟨d25, h26, m27, q28, hs_h26, H⟩ := H
    refine ea_callV (pc := 83) (As := [vI x3]) (st := []) dX1_carry_83 kX1_burn m27 q28 rfl (Nat.le_of_ble_eq_true rfl) ew_641 ew_643 ew_11 (ci := 1) rfl (by decide) (hs_h.1 42 (by decide)).1 (hs_h.1 42 (by decide)).2.1 ?_
    refine ea_iinc (pc := 86) (v := 1) (lv' := [(0, vR (some (b0 + 42))), (2, vI x2), (3, vI (x3 + 1)), (4, vI x4), (5, vI x5), (6, vI x6)]) dX1_carry_86 2 rfl rfl (Nat.le_of_ble_eq_true rfl) [1, 2, 0, 3, 4, 5] rfl ?_
    refine ea_goto (pc := 89) (tgt := 71) dX1_carry_89 rfl ?_
    exact H
theorem pX1_carry_at42_125 {d b0 : Nat} {h0 hE h : ea_H} {rv : Option ea_V} {x2 : Int32} {x3 : Int32} (hd : 2 ≤ d) (hs_h : ShC b0 h) (H : (x2 < (x3 * (1440 : Int32)) → rv = none ∧ hE = h) ∧ (¬ x2 < (x3 * (1440 : Int32)) → ∃ (d1 : Nat) (h2 : ea_H), ea_Met mX1_burn d1 [vR (some (b0 + 42)), vI x3] h none h2 ∧ d1 + 1 ≤ d ∧ ShC b0 h2 ∧ ea_W mX1_carry d h0 rv hE 125 [(0, vR (some (b0 + 42))), (2, vI x2), (3, vI (x3 + 1))] [] h2)) : ea_W mX1_carry d h0 rv hE 125 [(0, vR (some (b0 + 42))), (2, vI x2), (3, vI x3)] [] h := by
  refine ea_iload_n (pc := 125) dX1_carry_125 rfl 2 rfl ?_
  refine ea_sipush (pc := 126) dX1_carry_126 (v := 1440) rfl ?_
  refine ea_imul (pc := 129) dX1_carry_129 ?_
  refine ea_iload_n (pc := 130) dX1_carry_130 rfl 1 rfl ?_
  refine ea_icmp_gt (pc := 131) (tgt := 145) dX1_carry_131 rfl (fun c5 => ?_) (fun c5 => ?_)
  · have H := H.1 c5
    obtain ⟨rfl, rfl⟩ := H
    exact ea_return (pc := 145) dX1_carry_145 rfl
  · have H := H.2 c5
    refine ea_aload_n (pc := 134) dX1_carry_134 rfl 0 rfl ?_
    refine ea_iload_n (pc := 135) dX1_carry_135 rfl 2 rfl ?_
    obtain ⟨d1, h2, m3, q4, hs_h2, H⟩ := H
    refine ea_callV (pc := 136) (As := [vI x3]) (st := []) dX1_carry_136 kX1_burn m3 q4 rfl (Nat.le_of_ble_eq_true rfl) ew_641 ew_643 ew_11 (ci := 1) rfl (by decide) (hs_h.1 42 (by decide)).1 (hs_h.1 42 (by decide)).2.1 ?_
    refine ea_iinc (pc := 139) (v := 1) (lv' := [(0, vR (some (b0 + 42))), (2, vI x2), (3, vI (x3 + 1))]) dX1_carry_139 2 rfl rfl (Nat.le_of_ble_eq_true rfl) [1, 2, 0] rfl ?_
    refine ea_goto (pc := 142) (tgt := 125) dX1_carry_142 rfl ?_
    exact H
theorem pX1_burn_at32_0 {d b0 : Nat} {h0 hE h : ea_H} {rv : Option ea_V} {x1 : Int32} (hd : 1 ≤ d) (hs_h : ShC b0 h) (H : ea_W mX1_burn d h0 rv hE 2 [(0, vR (some (b0 + 32))), (1, vI x1), (2, vI 0)] [] h) : ea_W mX1_burn d h0 rv hE 0 [(0, vR (some (b0 + 32))), (1, vI x1)] [] h := by
  refine ea_iconst (pc := 0) dX1_burn_0 (v := 0) rfl ?_
  refine ea_istore_n (pc := 1) (lv' := [(0, vR (some (b0 + 32))), (1, vI x1), (2, vI 0)]) dX1_burn_1 rfl (Nat.le_of_ble_eq_true rfl) [1, 2, 0] rfl ?_
  exact H
theorem pX1_burn_at32_2 {d b0 : Nat} {h0 hE h : ea_H} {rv : Option ea_V} {x1 : Int32} {x2 : Int32} (hd : 1 ≤ d) (hs_h : ShC b0 h) (H : ((ea_i h (b0 + 32) 0) ≤ x2 → rv = none ∧ hE = h) ∧ (¬ (ea_i h (b0 + 32) 0) ≤ x2 → vp_in x2 120 ∧ (¬ (ea_i h (b0 + 33) (Int32.toNatClampNeg x2)) = (3 : Int32) → ea_W mX1_burn d h0 rv hE 2 [(0, vR (some (b0 + 32))), (1, vI x1), (2, vI (x2 + 1))] [] h) ∧ ((ea_i h (b0 + 33) (Int32.toNatClampNeg x2)) = (3 : Int32) → vp_in x2 120 ∧ vp_in x2 120 ∧ ∃ a6, (ea_r h (b0 + 31) (Int32.toNatClampNeg x2)) = some a6 ∧ a6 < ea_n h ∧ ea_c h a6 = 4 ∧ ((x1 - ((ea_i h (b0 + 39) (Int32.toNatClampNeg x2)) / (1440 : Int32))) < (ea_i h a6 14) → ea_W mX1_burn d h0 rv hE 2 [(0, vR (some (b0 + 32))), (1, vI x1), (2, vI (x2 + 1))] [] h) ∧ (¬ (x1 - ((ea_i h (b0 + 39) (Int32.toNatClampNeg x2)) / (1440 : Int32))) < (ea_i h a6 14) → vp_in x2 120 ∧ ∃ (d9 : Nat) (h10 : ea_H), ea_Met mX1_move d9 [vR (some (b0 + 32)), vI x2, vI (x1 * (1440 : Int32)), vI 6, vI (ea_i h (b0 + 34) (Int32.toNatClampNeg x2))] h none h10 ∧ d9 + 1 ≤ d ∧ ShC b0 h10 ∧ ea_W mX1_burn d h0 rv hE 2 [(0, vR (some (b0 + 32))), (1, vI x1), (2, vI (x2 + 1))] [] h10)))) : ea_W mX1_burn d h0 rv hE 2 [(0, vR (some (b0 + 32))), (1, vI x1), (2, vI x2)] [] h := by
  refine ea_iload_n (pc := 2) dX1_burn_2 rfl 2 rfl ?_
  refine ea_aload_n (pc := 3) dX1_burn_3 rfl 0 rfl ?_
  refine ea_getI (pc := 4) dX1_burn_4 ec_1 (k := 0) (Nat.le_of_ble_eq_true rfl) rfl (Or.inl ew_359) (hs_h.1 32 (by decide)).1 (hs_h.1 32 (by decide)).2.1 ?_
  refine ea_icmp_ge (pc := 7) (tgt := 68) dX1_burn_7 rfl (fun c15 => ?_) (fun c15 => ?_)
  · have H := H.1 c15
    obtain ⟨rfl, rfl⟩ := H
    exact ea_return (pc := 68) dX1_burn_68 rfl
  · have H := H.2 c15
    refine ea_aload_n (pc := 10) dX1_burn_10 rfl 0 rfl ?_
    refine ea_getR (pc := 11) dX1_burn_11 ec_1 (k := 1) (Nat.le_of_ble_eq_true rfl) rfl (Or.inl ew_361) (hs_h.1 32 (by decide)).1 (hs_h.1 32 (by decide)).2.1 (hs_h.2 32 1 rfl) ?_
    refine ea_iload_n (pc := 14) dX1_burn_14 rfl 2 rfl ?_
    obtain ⟨z1, H⟩ := H
    refine ea_iald (pc := 15) dX1_burn_15 (hs_h.1 33 (by decide)).1 (hs_h.1 33 (by decide)).2.1 (ea_vpl (hs_h.1 33 (by decide)).2.2 z1) ?_
    refine ea_iconst (pc := 16) dX1_burn_16 (v := 3) rfl ?_
    refine ea_icmp_ne (pc := 17) (tgt := 62) dX1_burn_17 rfl (fun c14 => ?_) (fun c14 => ?_)
    · have H := H.1 c14
      refine ea_iinc (pc := 62) (v := 1) (lv' := [(0, vR (some (b0 + 32))), (1, vI x1), (2, vI (x2 + 1))]) dX1_burn_62 2 rfl rfl (Nat.le_of_ble_eq_true rfl) [1, 2, 0] rfl ?_
      refine ea_goto (pc := 65) (tgt := 2) dX1_burn_65 rfl ?_
      exact H
    · have H := H.2 c14
      refine ea_iload_n (pc := 20) dX1_burn_20 rfl 1 rfl ?_
      refine ea_aload_n (pc := 21) dX1_burn_21 rfl 0 rfl ?_
      refine ea_getR (pc := 22) dX1_burn_22 ec_1 (k := 7) (Nat.le_of_ble_eq_true rfl) rfl (Or.inl ew_373) (hs_h.1 32 (by decide)).1 (hs_h.1 32 (by decide)).2.1 (hs_h.2 32 7 rfl) ?_
      refine ea_iload_n (pc := 25) dX1_burn_25 rfl 2 rfl ?_
      obtain ⟨z2, H⟩ := H
      refine ea_iald (pc := 26) dX1_burn_26 (hs_h.1 39 (by decide)).1 (hs_h.1 39 (by decide)).2.1 (ea_vpl (hs_h.1 39 (by decide)).2.2 z2) ?_
      refine ea_sipush (pc := 27) dX1_burn_27 (v := 1440) rfl ?_
      refine ea_idiv (pc := 30) dX1_burn_30 (by decide) ?_
      refine ea_isub (pc := 31) dX1_burn_31 ?_
      refine ea_aload_n (pc := 32) dX1_burn_32 rfl 0 rfl ?_
      refine ea_getR (pc := 33) dX1_burn_33 ec_1 (k := 14) (Nat.le_of_ble_eq_true rfl) rfl (Or.inl ew_380) (hs_h.1 32 (by decide)).1 (hs_h.1 32 (by decide)).2.1 (hs_h.2 32 14 rfl) ?_
      refine ea_iload_n (pc := 36) dX1_burn_36 rfl 2 rfl ?_
      obtain ⟨z3, H⟩ := H
      refine ea_aald23 (pc := 37) dX1_burn_37 (hs_h.1 31 (by decide)).1 (hs_h.1 31 (by decide)).2.1 (ea_vpl (hs_h.1 31 (by decide)).2.2 z3) rfl ?_
      obtain ⟨a6, e7, f4, g5, H⟩ := H
      refine ea_deref0 e7 ?_
      refine ea_getI (pc := 38) dX1_burn_38 ec_4 (k := 14) (Nat.le_of_ble_eq_true rfl) rfl (Or.inl ew_971) f4 g5 ?_
      refine ea_icmp_lt (pc := 41) (tgt := 62) dX1_burn_41 rfl (fun c13 => ?_) (fun c13 => ?_)
      · have H := H.1 c13
        refine ea_iinc (pc := 62) (v := 1) (lv' := [(0, vR (some (b0 + 32))), (1, vI x1), (2, vI (x2 + 1))]) dX1_burn_62 2 rfl rfl (Nat.le_of_ble_eq_true rfl) [1, 2, 0] rfl ?_
        refine ea_goto (pc := 65) (tgt := 2) dX1_burn_65 rfl ?_
        exact H
      · have H := H.2 c13
        refine ea_aload_n (pc := 44) dX1_burn_44 rfl 0 rfl ?_
        refine ea_iload_n (pc := 45) dX1_burn_45 rfl 2 rfl ?_
        refine ea_iload_n (pc := 46) dX1_burn_46 rfl 1 rfl ?_
        refine ea_sipush (pc := 47) dX1_burn_47 (v := 1440) rfl ?_
        refine ea_imul (pc := 50) dX1_burn_50 ?_
        refine ea_bipush (pc := 51) dX1_burn_51 (v := 6) rfl ?_
        refine ea_aload_n (pc := 53) dX1_burn_53 rfl 0 rfl ?_
        refine ea_getR (pc := 54) dX1_burn_54 ec_1 (k := 2) (Nat.le_of_ble_eq_true rfl) rfl (Or.inl ew_363) (hs_h.1 32 (by decide)).1 (hs_h.1 32 (by decide)).2.1 (hs_h.2 32 2 rfl) ?_
        refine ea_iload_n (pc := 57) dX1_burn_57 rfl 2 rfl ?_
        obtain ⟨z8, H⟩ := H
        refine ea_iald (pc := 58) dX1_burn_58 (hs_h.1 34 (by decide)).1 (hs_h.1 34 (by decide)).2.1 (ea_vpl (hs_h.1 34 (by decide)).2.2 z8) ?_
        obtain ⟨d9, h10, m11, q12, hs_h10, H⟩ := H
        refine ea_callV (pc := 59) (As := [vI x2, vI (x1 * (1440 : Int32)), vI 6, vI (ea_i h (b0 + 34) (Int32.toNatClampNeg x2))]) (st := []) dX1_burn_59 kX1_move m11 q12 rfl (Nat.le_of_ble_eq_true rfl) ew_645 ew_646 ew_647 (ci := 1) rfl (by decide) (hs_h.1 32 (by decide)).1 (hs_h.1 32 (by decide)).2.1 ?_
        refine ea_iinc (pc := 62) (v := 1) (lv' := [(0, vR (some (b0 + 32))), (1, vI x1), (2, vI (x2 + 1))]) dX1_burn_62 2 rfl rfl (Nat.le_of_ble_eq_true rfl) [1, 2, 0] rfl ?_
        refine ea_goto (pc := 65) (tgt := 2) dX1_burn_65 rfl ?_
        exact H
theorem pX1_burn_at42_0 {d b0 : Nat} {h0 hE h : ea_H} {rv : Option ea_V} {x1 : Int32} (hd : 1 ≤ d) (hs_h : ShC b0 h) (H : ea_W mX1_burn d h0 rv hE 2 [(0, vR (some (b0 + 42))), (1, vI x1), (2, vI 0)] [] h) : ea_W mX1_burn d h0 rv hE 0 [(0, vR (some (b0 + 42))), (1, vI x1)] [] h := by
  refine ea_iconst (pc := 0) dX1_burn_0 (v := 0) rfl ?_
  refine ea_istore_n (pc := 1) (lv' := [(0, vR (some (b0 + 42))), (1, vI x1), (2, vI 0)]) dX1_burn_1 rfl (Nat.le_of_ble_eq_true rfl) [1, 2, 0] rfl ?_
  exact H
theorem pX1_burn_at42_2 {d b0 : Nat} {h0 hE h : ea_H} {rv : Option ea_V} {x1 : Int32} {x2 : Int32} (hd : 1 ≤ d) (hs_h : ShC b0 h) (H : ((ea_i h (b0 + 42) 0) ≤ x2 → rv = none ∧ hE = h) ∧ (¬ (ea_i h (b0 + 42) 0) ≤ x2 → vp_in x2 120 ∧ (¬ (ea_i h (b0 + 43) (Int32.toNatClampNeg x2)) = (3 : Int32) → ea_W mX1_burn d h0 rv hE 2 [(0, vR (some (b0 + 42))), (1, vI x1), (2, vI (x2 + 1))] [] h) ∧ ((ea_i h (b0 + 43) (Int32.toNatClampNeg x2)) = (3 : Int32) → vp_in x2 120 ∧ vp_in x2 120 ∧ ∃ a6, (ea_r h (b0 + 31) (Int32.toNatClampNeg x2)) = some a6 ∧ a6 < ea_n h ∧ ea_c h a6 = 4 ∧ ((x1 - ((ea_i h (b0 + 49) (Int32.toNatClampNeg x2)) / (1440 : Int32))) < (ea_i h a6 14) → ea_W mX1_burn d h0 rv hE 2 [(0, vR (some (b0 + 42))), (1, vI x1), (2, vI (x2 + 1))] [] h) ∧ (¬ (x1 - ((ea_i h (b0 + 49) (Int32.toNatClampNeg x2)) / (1440 : Int32))) < (ea_i h a6 14) → vp_in x2 120 ∧ ∃ (d9 : Nat) (h10 : ea_H), ea_Met mX1_move d9 [vR (some (b0 + 42)), vI x2, vI (x1 * (1440 : Int32)), vI 6, vI (ea_i h (b0 + 44) (Int32.toNatClampNeg x2))] h none h10 ∧ d9 + 1 ≤ d ∧ ShC b0 h10 ∧ ea_W mX1_burn d h0 rv hE 2 [(0, vR (some (b0 + 42))), (1, vI x1), (2, vI (x2 + 1))] [] h10)))) : ea_W mX1_burn d h0 rv hE 2 [(0, vR (some (b0 + 42))), (1, vI x1), (2, vI x2)] [] h := by
  refine ea_iload_n (pc := 2) dX1_burn_2 rfl 2 rfl ?_
  refine ea_aload_n (pc := 3) dX1_burn_3 rfl 0 rfl ?_
  refine ea_getI (pc := 4) dX1_burn_4 ec_1 (k := 0) (Nat.le_of_ble_eq_true rfl) rfl (Or.inl ew_359) (hs_h.1 42 (by decide)).1 (hs_h.1 42 (by decide)).2.1 ?_
  refine ea_icmp_ge (pc := 7) (tgt := 68) dX1_burn_7 rfl (fun c15 => ?_) (fun c15 => ?_)
  · have H := H.1 c15
    obtain ⟨rfl, rfl⟩ := H
    exact ea_return (pc := 68) dX1_burn_68 rfl
  · have H := H.2 c15
    refine ea_aload_n (pc := 10) dX1_burn_10 rfl 0 rfl ?_
    refine ea_getR (pc := 11) dX1_burn_11 ec_1 (k := 1) (Nat.le_of_ble_eq_true rfl) rfl (Or.inl ew_361) (hs_h.1 42 (by decide)).1 (hs_h.1 42 (by decide)).2.1 (hs_h.2 42 1 rfl) ?_
    refine ea_iload_n (pc := 14) dX1_burn_14 rfl 2 rfl ?_
    obtain ⟨z1, H⟩ := H
    refine ea_iald (pc := 15) dX1_burn_15 (hs_h.1 43 (by decide)).1 (hs_h.1 43 (by decide)).2.1 (ea_vpl (hs_h.1 43 (by decide)).2.2 z1) ?_
    refine ea_iconst (pc := 16) dX1_burn_16 (v := 3) rfl ?_
    refine ea_icmp_ne (pc := 17) (tgt := 62) dX1_burn_17 rfl (fun c14 => ?_) (fun c14 => ?_)
    · have H := H.1 c14
      refine ea_iinc (pc := 62) (v := 1) (lv' := [(0, vR (some (b0 + 42))), (1, vI x1), (2, vI (x2 + 1))]) dX1_burn_62 2 rfl rfl (Nat.le_of_ble_eq_true rfl) [1, 2, 0] rfl ?_
      refine ea_goto (pc := 65) (tgt := 2) dX1_burn_65 rfl ?_
      exact H
    · have H := H.2 c14
      refine ea_iload_n (pc := 20) dX1_burn_20 rfl 1 rfl ?_
      refine ea_aload_n (pc := 21) dX1_burn_21 rfl 0 rfl ?_
      refine ea_getR (pc := 22) dX1_burn_22 ec_1 (k := 7) (Nat.le_of_ble_eq_true rfl) rfl (Or.inl ew_373) (hs_h.1 42 (by decide)).1 (hs_h.1 42 (by decide)).2.1 (hs_h.2 42 7 rfl) ?_
      refine ea_iload_n (pc := 25) dX1_burn_25 rfl 2 rfl ?_
      obtain ⟨z2, H⟩ := H
      refine ea_iald (pc := 26) dX1_burn_26 (hs_h.1 49 (by decide)).1 (hs_h.1 49 (by decide)).2.1 (ea_vpl (hs_h.1 49 (by decide)).2.2 z2) ?_
      refine ea_sipush (pc := 27) dX1_burn_27 (v := 1440) rfl ?_
      refine ea_idiv (pc := 30) dX1_burn_30 (by decide) ?_
      refine ea_isub (pc := 31) dX1_burn_31 ?_
      refine ea_aload_n (pc := 32) dX1_burn_32 rfl 0 rfl ?_
      refine ea_getR (pc := 33) dX1_burn_33 ec_1 (k := 14) (Nat.le_of_ble_eq_true rfl) rfl (Or.inl ew_380) (hs_h.1 42 (by decide)).1 (hs_h.1 42 (by decide)).2.1 (hs_h.2 42 14 rfl) ?_
      refine ea_iload_n (pc := 36) dX1_burn_36 rfl 2 rfl ?_
      obtain ⟨z3, H⟩ := H
      refine ea_aald23 (pc := 37) dX1_burn_37 (hs_h.1 31 (by decide)).1 (hs_h.1 31 (by decide)).2.1 (ea_vpl (hs_h.1 31 (by decide)).2.2 z3) rfl ?_
      obtain ⟨a6, e7, f4, g5, H⟩ := H
      refine ea_deref0 e7 ?_
      refine ea_getI (pc := 38) dX1_burn_38 ec_4 (k := 14) (Nat.le_of_ble_eq_true rfl) rfl (Or.inl ew_971) f4 g5 ?_
      refine ea_icmp_lt (pc := 41) (tgt := 62) dX1_burn_41 rfl (fun c13 => ?_) (fun c13 => ?_)
      · have H := H.1 c13
        refine ea_iinc (pc := 62) (v := 1) (lv' := [(0, vR (some (b0 + 42))), (1, vI x1), (2, vI (x2 + 1))]) dX1_burn_62 2 rfl rfl (Nat.le_of_ble_eq_true rfl) [1, 2, 0] rfl ?_
        refine ea_goto (pc := 65) (tgt := 2) dX1_burn_65 rfl ?_
        exact H
      · have H := H.2 c13
        refine ea_aload_n (pc := 44) dX1_burn_44 rfl 0 rfl ?_
        refine ea_iload_n (pc := 45) dX1_burn_45 rfl 2 rfl ?_
        refine ea_iload_n (pc := 46) dX1_burn_46 rfl 1 rfl ?_
        refine ea_sipush (pc := 47) dX1_burn_47 (v := 1440) rfl ?_
        refine ea_imul (pc := 50) dX1_burn_50 ?_
        refine ea_bipush (pc := 51) dX1_burn_51 (v := 6) rfl ?_
        refine ea_aload_n (pc := 53) dX1_burn_53 rfl 0 rfl ?_
        refine ea_getR (pc := 54) dX1_burn_54 ec_1 (k := 2) (Nat.le_of_ble_eq_true rfl) rfl (Or.inl ew_363) (hs_h.1 42 (by decide)).1 (hs_h.1 42 (by decide)).2.1 (hs_h.2 42 2 rfl) ?_
        refine ea_iload_n (pc := 57) dX1_burn_57 rfl 2 rfl ?_
        obtain ⟨z8, H⟩ := H
        refine ea_iald (pc := 58) dX1_burn_58 (hs_h.1 44 (by decide)).1 (hs_h.1 44 (by decide)).2.1 (ea_vpl (hs_h.1 44 (by decide)).2.2 z8) ?_
        obtain ⟨d9, h10, m11, q12, hs_h10, H⟩ := H
        refine ea_callV (pc := 59) (As := [vI x2, vI (x1 * (1440 : Int32)), vI 6, vI (ea_i h (b0 + 44) (Int32.toNatClampNeg x2))]) (st := []) dX1_burn_59 kX1_move m11 q12 rfl (Nat.le_of_ble_eq_true rfl) ew_645 ew_646 ew_647 (ci := 1) rfl (by decide) (hs_h.1 42 (by decide)).1 (hs_h.1 42 (by decide)).2.1 ?_
        refine ea_iinc (pc := 62) (v := 1) (lv' := [(0, vR (some (b0 + 42))), (1, vI x1), (2, vI (x2 + 1))]) dX1_burn_62 2 rfl rfl (Nat.le_of_ble_eq_true rfl) [1, 2, 0] rfl ?_
        refine ea_goto (pc := 65) (tgt := 2) dX1_burn_65 rfl ?_
        exact H
theorem pX1_comes_at32_0 {d b0 : Nat} {h0 hE h : ea_H} {rv : Option ea_V} {x1 : Int32} {x2 : Int32} (hd : 2 ≤ d) (hs_h : ShC b0 h) (H : vp_in (((10 : Int32) * (vX10_dayIn (x1 : Int32) h)) + (vX10_trainIn (x1 : Int32) h)) 70 ∧ ((ea_i h (b0 + 41) (Int32.toNatClampNeg (((10 : Int32) * (vX10_dayIn (x1 : Int32) h)) + (vX10_trainIn (x1 : Int32) h)))) = (0 : Int32) → rv = none ∧ hE = h) ∧ (¬ (ea_i h (b0 + 41) (Int32.toNatClampNeg (((10 : Int32) * (vX10_dayIn (x1 : Int32) h)) + (vX10_trainIn (x1 : Int32) h)))) = (0 : Int32) → vp_in (((8 : Int32) * (((10 : Int32) * (vX10_dayIn (x1 : Int32) h)) + (vX10_trainIn (x1 : Int32) h))) + (vX10_stopIn (x1 : Int32) h)) 560 ∧ ((ea_i h (b0 + 12) (Int32.toNatClampNeg (((8 : Int32) * (((10 : Int32) * (vX10_dayIn (x1 : Int32) h)) + (vX10_trainIn (x1 : Int32) h))) + (vX10_stopIn (x1 : Int32) h)))) = (0 : Int32) → vp_in (vX10_trainIn (x1 : Int32) h) 10 ∧ (¬ (vX10_stopIn (x1 : Int32) h) = ((ea_i h (b0 + 6) (Int32.toNatClampNeg (vX10_trainIn (x1 : Int32) h))) - (1 : Int32)) → ea_W mX1_comes d h0 rv hE 73 [(0, vR (some (b0 + 32))), (2, vI x2), (3, vI (vX10_trainIn (x1 : Int32) h)), (4, vI (vX10_stopIn (x1 : Int32) h)), (5, vI (((10 : Int32) * (vX10_dayIn (x1 : Int32) h)) + (vX10_trainIn (x1 : Int32) h)))] [vI 0] h) ∧ ((vX10_stopIn (x1 : Int32) h) = ((ea_i h (b0 + 6) (Int32.toNatClampNeg (vX10_trainIn (x1 : Int32) h))) - (1 : Int32)) → ea_W mX1_comes d h0 rv hE 73 [(0, vR (some (b0 + 32))), (2, vI x2), (3, vI (vX10_trainIn (x1 : Int32) h)), (4, vI (vX10_stopIn (x1 : Int32) h)), (5, vI (((10 : Int32) * (vX10_dayIn (x1 : Int32) h)) + (vX10_trainIn (x1 : Int32) h)))] [vI 1] h)) ∧ (¬ (ea_i h (b0 + 12) (Int32.toNatClampNeg (((8 : Int32) * (((10 : Int32) * (vX10_dayIn (x1 : Int32) h)) + (vX10_trainIn (x1 : Int32) h))) + (vX10_stopIn (x1 : Int32) h)))) = (0 : Int32) → rv = none ∧ hE = h))) : ea_W mX1_comes d h0 rv hE 0 [(0, vR (some (b0 + 32))), (1, vI x1), (2, vI x2)] [] h := by
  refine ea_iload_n (pc := 0) dX1_comes_0 rfl 1 rfl ?_
  refine ea_callS (pc := 1) (d' := d - 1) (As := [vI x1]) (st := []) dX1_comes_1 kX10_trainIn (sX10_trainIn (d := d - 1) (by omega)) (by omega) rfl (Nat.le_of_ble_eq_true rfl) ew_670 ew_597 ?_
  refine ea_istore_n (pc := 4) (lv' := [(0, vR (some (b0 + 32))), (1, vI x1), (2, vI x2), (3, vI (vX10_trainIn (x1 : Int32) h))]) dX1_comes_4 rfl (Nat.le_of_ble_eq_true rfl) [1, 2, 3, 0] rfl ?_
  refine ea_iload_n (pc := 5) dX1_comes_5 rfl 1 rfl ?_
  refine ea_callS (pc := 6) (d' := d - 1) (As := [vI x1]) (st := []) dX1_comes_6 kX10_stopIn (sX10_stopIn (d := d - 1) (by omega)) (by omega) rfl (Nat.le_of_ble_eq_true rfl) ew_671 ew_600 ?_
  refine ea_istore (pc := 9) (lv' := [(0, vR (some (b0 + 32))), (1, vI x1), (2, vI x2), (3, vI (vX10_trainIn (x1 : Int32) h)), (4, vI (vX10_stopIn (x1 : Int32) h))]) dX1_comes_9 (Nat.le_of_ble_eq_true rfl) [1, 2, 3, 4, 0] rfl ?_
  refine ea_bipush (pc := 11) dX1_comes_11 (v := 10) rfl ?_
  refine ea_iload_n (pc := 13) dX1_comes_13 rfl 1 rfl ?_
  refine ea_callS (pc := 14) (d' := d - 1) (As := [vI x1]) (st := [vI 10]) dX1_comes_14 kX10_dayIn (sX10_dayIn (d := d - 1) (by omega)) (by omega) rfl (Nat.le_of_ble_eq_true rfl) ew_672 ew_609 ?_
  refine ea_imul (pc := 17) dX1_comes_17 ?_
  refine ea_iload_n (pc := 18) dX1_comes_18 rfl 3 rfl ?_
  refine ea_iadd (pc := 19) dX1_comes_19 ?_
  refine ea_istore (pc := 20) (lv' := [(0, vR (some (b0 + 32))), (2, vI x2), (3, vI (vX10_trainIn (x1 : Int32) h)), (4, vI (vX10_stopIn (x1 : Int32) h)), (5, vI (((10 : Int32) * (vX10_dayIn (x1 : Int32) h)) + (vX10_trainIn (x1 : Int32) h)))]) dX1_comes_20 (Nat.le_of_ble_eq_true rfl) [1, 3, 4, 5, 0] rfl ?_
  refine ea_aload_n (pc := 22) dX1_comes_22 rfl 0 rfl ?_
  refine ea_getR (pc := 23) dX1_comes_23 ec_1 (k := 9) (Nat.le_of_ble_eq_true rfl) rfl (Or.inl ew_375) (hs_h.1 32 (by decide)).1 (hs_h.1 32 (by decide)).2.1 (hs_h.2 32 9 rfl) ?_
  refine ea_iload (pc := 26) dX1_comes_26 4 rfl ?_
  obtain ⟨z82, H⟩ := H
  refine ea_iald (pc := 28) dX1_comes_28 (hs_h.1 41 (by decide)).1 (hs_h.1 41 (by decide)).2.1 (ea_vpl (hs_h.1 41 (by decide)).2.2 z82) ?_
  refine ea_if_eq (pc := 29) (tgt := 51) dX1_comes_29 rfl (fun c87 => ?_) (fun c87 => ?_)
  · have H := H.1 c87
    obtain ⟨rfl, rfl⟩ := H
    exact ea_return (pc := 51) dX1_comes_51 rfl
  · have H := H.2 c87
    refine ea_aload_n (pc := 32) dX1_comes_32 rfl 0 rfl ?_
    refine ea_getR (pc := 33) dX1_comes_33 ec_1 (k := 11) (Nat.le_of_ble_eq_true rfl) rfl (Or.inl ew_377) (hs_h.1 32 (by decide)).1 (hs_h.1 32 (by decide)).2.1 (hs_h.2 32 11 rfl) ?_
    refine ea_getR (pc := 36) dX1_comes_36 ec_9 (k := 7) (Nat.le_of_ble_eq_true rfl) rfl (Or.inl ew_200) (hs_h.1 5 (by decide)).1 (hs_h.1 5 (by decide)).2.1 (hs_h.2 5 7 rfl) ?_
    refine ea_bipush (pc := 39) dX1_comes_39 (v := 8) rfl ?_
    refine ea_iload (pc := 41) dX1_comes_41 4 rfl ?_
    refine ea_imul (pc := 43) dX1_comes_43 ?_
    refine ea_iload (pc := 44) dX1_comes_44 3 rfl ?_
    refine ea_iadd (pc := 46) dX1_comes_46 ?_
    obtain ⟨z83, H⟩ := H
    refine ea_zald (pc := 47) dX1_comes_47 (hs_h.1 12 (by decide)).1 (hs_h.1 12 (by decide)).2.1 (ea_vpl (hs_h.1 12 (by decide)).2.2 z83) ?_
    refine ea_if_eq (pc := 48) (tgt := 52) dX1_comes_48 rfl (fun c86 => ?_) (fun c86 => ?_)
    · have H := H.1 c86
      refine ea_iload (pc := 52) dX1_comes_52 3 rfl ?_
      refine ea_aload_n (pc := 54) dX1_comes_54 rfl 0 rfl ?_
      refine ea_getR (pc := 55) dX1_comes_55 ec_1 (k := 11) (Nat.le_of_ble_eq_true rfl) rfl (Or.inl ew_377) (hs_h.1 32 (by decide)).1 (hs_h.1 32 (by decide)).2.1 (hs_h.2 32 11 rfl) ?_
      refine ea_getR (pc := 58) dX1_comes_58 ec_9 (k := 1) (Nat.le_of_ble_eq_true rfl) rfl (Or.inl ew_182) (hs_h.1 5 (by decide)).1 (hs_h.1 5 (by decide)).2.1 (hs_h.2 5 1 rfl) ?_
      refine ea_iload_n (pc := 61) dX1_comes_61 rfl 2 rfl ?_
      obtain ⟨z84, H⟩ := H
      refine ea_iald (pc := 62) dX1_comes_62 (hs_h.1 6 (by decide)).1 (hs_h.1 6 (by decide)).2.1 (ea_vpl (hs_h.1 6 (by decide)).2.2 z84) ?_
      refine ea_iconst (pc := 63) dX1_comes_63 (v := 1) rfl ?_
      refine ea_isub (pc := 64) dX1_comes_64 ?_
      refine ea_icmp_ne (pc := 65) (tgt := 72) dX1_comes_65 rfl (fun c85 => ?_) (fun c85 => ?_)
      · have H := H.1 c85
        refine ea_iconst (pc := 72) dX1_comes_72 (v := 0) rfl ?_
        exact H
      · have H := H.2 c85
        refine ea_iconst (pc := 68) dX1_comes_68 (v := 1) rfl ?_
        refine ea_goto (pc := 69) (tgt := 73) dX1_comes_69 rfl ?_
        exact H
    · have H := H.2 c86
      obtain ⟨rfl, rfl⟩ := H
      exact ea_return (pc := 51) dX1_comes_51 rfl
theorem pX1_comes_at32_73 {d b0 : Nat} {h0 hE h : ea_H} {rv : Option ea_V} {x2 : Int32} {x3 : Int32} {x4 : Int32} {x5 : Int32} {sx0 : Int32} (hd : 2 ≤ d) (hs_h : ShC b0 h) (H : vp_in (((8 : Int32) * x3) + x4) 80 ∧ ea_W mX1_comes d h0 rv hE 95 [(0, vR (some (b0 + 32))), (2, vI x2), (4, vI x4), (5, vI x5), (6, vI sx0), (7, vI (ea_i h (b0 + 7) (Int32.toNatClampNeg (((8 : Int32) * x3) + x4)))), (8, vI 0)] [] h) : ea_W mX1_comes d h0 rv hE 73 [(0, vR (some (b0 + 32))), (2, vI x2), (3, vI x3), (4, vI x4), (5, vI x5)] [vI sx0] h := by
  refine ea_istore (pc := 73) (lv' := [(0, vR (some (b0 + 32))), (2, vI x2), (3, vI x3), (4, vI x4), (5, vI x5), (6, vI sx0)]) dX1_comes_73 (Nat.le_of_ble_eq_true rfl) [1, 2, 3, 4, 5, 0] rfl ?_
  refine ea_aload_n (pc := 75) dX1_comes_75 rfl 0 rfl ?_
  refine ea_getR (pc := 76) dX1_comes_76 ec_1 (k := 11) (Nat.le_of_ble_eq_true rfl) rfl (Or.inl ew_377) (hs_h.1 32 (by decide)).1 (hs_h.1 32 (by decide)).2.1 (hs_h.2 32 11 rfl) ?_
  refine ea_getR (pc := 79) dX1_comes_79 ec_9 (k := 2) (Nat.le_of_ble_eq_true rfl) rfl (Or.inl ew_186) (hs_h.1 5 (by decide)).1 (hs_h.1 5 (by decide)).2.1 (hs_h.2 5 2 rfl) ?_
  refine ea_bipush (pc := 82) dX1_comes_82 (v := 8) rfl ?_
  refine ea_iload_n (pc := 84) dX1_comes_84 rfl 2 rfl ?_
  refine ea_imul (pc := 85) dX1_comes_85 ?_
  refine ea_iload (pc := 86) dX1_comes_86 3 rfl ?_
  refine ea_iadd (pc := 88) dX1_comes_88 ?_
  obtain ⟨z1, H⟩ := H
  refine ea_iald (pc := 89) dX1_comes_89 (hs_h.1 7 (by decide)).1 (hs_h.1 7 (by decide)).2.1 (ea_vpl (hs_h.1 7 (by decide)).2.2 z1) ?_
  refine ea_istore (pc := 90) (lv' := [(0, vR (some (b0 + 32))), (2, vI x2), (4, vI x4), (5, vI x5), (6, vI sx0), (7, vI (ea_i h (b0 + 7) (Int32.toNatClampNeg (((8 : Int32) * x3) + x4))))]) dX1_comes_90 (Nat.le_of_ble_eq_true rfl) [1, 2, 4, 5, 6, 0] rfl ?_
  refine ea_iconst (pc := 92) dX1_comes_92 (v := 0) rfl ?_
  refine ea_istore (pc := 93) (lv' := [(0, vR (some (b0 + 32))), (2, vI x2), (4, vI x4), (5, vI x5), (6, vI sx0), (7, vI (ea_i h (b0 + 7) (Int32.toNatClampNeg (((8 : Int32) * x3) + x4)))), (8, vI 0)]) dX1_comes_93 (Nat.le_of_ble_eq_true rfl) [1, 2, 3, 4, 5, 6, 0] rfl ?_
  exact H
theorem pX1_comes_at32_95 {d b0 : Nat} {h0 hE h : ea_H} {rv : Option ea_V} {x2 : Int32} {x4 : Int32} {x5 : Int32} {x6 : Int32} {x7 : Int32} {x8 : Int32} (hd : 2 ≤ d) (hs_h : ShC b0 h) (H : ((ea_i h (b0 + 32) 0) ≤ x8 → rv = none ∧ hE = h) ∧ (¬ (ea_i h (b0 + 32) 0) ≤ x8 → (¬ x6 = (0 : Int32) → ea_W mX1_comes d h0 rv hE 136 [(0, vR (some (b0 + 32))), (2, vI x2), (4, vI x4), (5, vI x5), (6, vI x6), (7, vI x7), (8, vI x8)] [vI 1] h) ∧ (x6 = (0 : Int32) → vp_in x8 120 ∧ ((ea_i h (b0 + 37) (Int32.toNatClampNeg x8)) = (0 : Int32) → ea_W mX1_comes d h0 rv hE 136 [(0, vR (some (b0 + 32))), (2, vI x2), (4, vI x4), (5, vI x5), (6, vI x6), (7, vI x7), (8, vI x8)] [vI 0] h) ∧ (¬ (ea_i h (b0 + 37) (Int32.toNatClampNeg x8)) = (0 : Int32) → vp_in x8 120 ∧ (x4 < (ea_i h (b0 + 35) (Int32.toNatClampNeg x8)) → ea_W mX1_comes d h0 rv hE 136 [(0, vR (some (b0 + 32))), (2, vI x2), (4, vI x4), (5, vI x5), (6, vI x6), (7, vI x7), (8, vI x8)] [vI 0] h) ∧ (¬ x4 < (ea_i h (b0 + 35) (Int32.toNatClampNeg x8)) → ea_W mX1_comes d h0 rv hE 136 [(0, vR (some (b0 + 32))), (2, vI x2), (4, vI x4), (5, vI x5), (6, vI x6), (7, vI x7), (8, vI x8)] [vI 1] h))))) : ea_W mX1_comes d h0 rv hE 95 [(0, vR (some (b0 + 32))), (2, vI x2), (4, vI x4), (5, vI x5), (6, vI x6), (7, vI x7), (8, vI x8)] [] h := by
  refine ea_iload (pc := 95) dX1_comes_95 6 rfl ?_
  refine ea_aload_n (pc := 97) dX1_comes_97 rfl 0 rfl ?_
  refine ea_getI (pc := 98) dX1_comes_98 ec_1 (k := 0) (Nat.le_of_ble_eq_true rfl) rfl (Or.inl ew_359) (hs_h.1 32 (by decide)).1 (hs_h.1 32 (by decide)).2.1 ?_
  refine ea_icmp_ge (pc := 101) (tgt := 209) dX1_comes_101 rfl (fun c6 => ?_) (fun c6 => ?_)
  · have H := H.1 c6
    obtain ⟨rfl, rfl⟩ := H
    exact ea_return (pc := 209) dX1_comes_209 rfl
  · have H := H.2 c6
    refine ea_iload (pc := 104) dX1_comes_104 4 rfl ?_
    refine ea_if_ne (pc := 106) (tgt := 131) dX1_comes_106 rfl (fun c5 => ?_) (fun c5 => ?_)
    · have H := H.1 c5
      refine ea_iconst (pc := 131) dX1_comes_131 (v := 1) rfl ?_
      refine ea_goto (pc := 132) (tgt := 136) dX1_comes_132 rfl ?_
      exact H
    · have H := H.2 c5
      refine ea_aload_n (pc := 109) dX1_comes_109 rfl 0 rfl ?_
      refine ea_getR (pc := 110) dX1_comes_110 ec_1 (k := 5) (Nat.le_of_ble_eq_true rfl) rfl (Or.inl ew_369) (hs_h.1 32 (by decide)).1 (hs_h.1 32 (by decide)).2.1 (hs_h.2 32 5 rfl) ?_
      refine ea_iload (pc := 113) dX1_comes_113 6 rfl ?_
      obtain ⟨z1, H⟩ := H
      refine ea_zald (pc := 115) dX1_comes_115 (hs_h.1 37 (by decide)).1 (hs_h.1 37 (by decide)).2.1 (ea_vpl (hs_h.1 37 (by decide)).2.2 z1) ?_
      refine ea_if_eq (pc := 116) (tgt := 135) dX1_comes_116 rfl (fun c4 => ?_) (fun c4 => ?_)
      · have H := H.1 c4
        refine ea_iconst (pc := 135) dX1_comes_135 (v := 0) rfl ?_
        exact H
      · have H := H.2 c4
        refine ea_aload_n (pc := 119) dX1_comes_119 rfl 0 rfl ?_
        refine ea_getR (pc := 120) dX1_comes_120 ec_1 (k := 3) (Nat.le_of_ble_eq_true rfl) rfl (Or.inl ew_365) (hs_h.1 32 (by decide)).1 (hs_h.1 32 (by decide)).2.1 (hs_h.2 32 3 rfl) ?_
        refine ea_iload (pc := 123) dX1_comes_123 6 rfl ?_
        obtain ⟨z2, H⟩ := H
        refine ea_iald (pc := 125) dX1_comes_125 (hs_h.1 35 (by decide)).1 (hs_h.1 35 (by decide)).2.1 (ea_vpl (hs_h.1 35 (by decide)).2.2 z2) ?_
        refine ea_iload (pc := 126) dX1_comes_126 2 rfl ?_
        refine ea_icmp_gt (pc := 128) (tgt := 135) dX1_comes_128 rfl (fun c3 => ?_) (fun c3 => ?_)
        · have H := H.1 c3
          refine ea_iconst (pc := 135) dX1_comes_135 (v := 0) rfl ?_
          exact H
        · have H := H.2 c3
          refine ea_iconst (pc := 131) dX1_comes_131 (v := 1) rfl ?_
          refine ea_goto (pc := 132) (tgt := 136) dX1_comes_132 rfl ?_
          exact H
theorem pX1_comes_at32_136 {d b0 : Nat} {h0 hE h : ea_H} {rv : Option ea_V} {x2 : Int32} {x4 : Int32} {x5 : Int32} {x6 : Int32} {x7 : Int32} {x8 : Int32} {sx0 : Int32} (hd : 2 ≤ d) (hs_h : ShC b0 h) (H : (sx0 = (0 : Int32) → ea_W mX1_comes d h0 rv hE 95 [(0, vR (some (b0 + 32))), (2, vI x2), (4, vI x4), (5, vI x5), (6, vI x6), (7, vI x7), (8, vI (x8 + 1))] [] h) ∧ (¬ sx0 = (0 : Int32) → (okX1_isAboard_at32 b0 (x8 : Int32) (x5 : Int32) h) ∧ ((vX1_isAboard_at32 b0 (x8 : Int32) (x5 : Int32) h) = (0 : Int32) → ea_W mX1_comes d h0 rv hE 95 [(0, vR (some (b0 + 32))), (2, vI x2), (4, vI x4), (5, vI x5), (6, vI x6), (7, vI x7), (8, vI (x8 + 1))] [] h) ∧ (¬ (vX1_isAboard_at32 b0 (x8 : Int32) (x5 : Int32) h) = (0 : Int32) → vp_in x8 120 ∧ (¬ (ea_i h (b0 + 37) (Int32.toNatClampNeg x8)) = (0 : Int32) → ea_W mX1_comes d h0 rv hE 186 [(0, vR (some (b0 + 32))), (2, vI x2), (4, vI x4), (5, vI x5), (6, vI x6), (7, vI x7), (8, vI x8)] [] h) ∧ ((ea_i h (b0 + 37) (Int32.toNatClampNeg x8)) = (0 : Int32) → vp_in x8 120 ∧ vp_in x8 120 ∧ ∀ h20, h20 = ea_wi h (b0 + 36) (Int32.toNatClampNeg x8) ((ea_i h (b0 + 36) (Int32.toNatClampNeg x8)) + (1 : Int32)) → vp_in x5 70 ∧ vp_in x5 70 ∧ ∀ h24, h24 = ea_wi h20 (b0 + 38) (Int32.toNatClampNeg x5) ((ea_i h20 (b0 + 38) (Int32.toNatClampNeg x5)) + (1 : Int32)) → ea_W mX1_comes d h0 rv hE 186 [(0, vR (some (b0 + 32))), (2, vI x2), (4, vI x4), (5, vI x5), (6, vI x6), (7, vI x7), (8, vI x8)] [] h24)))) : ea_W mX1_comes d h0 rv hE 136 [(0, vR (some (b0 + 32))), (2, vI x2), (4, vI x4), (5, vI x5), (6, vI x6), (7, vI x7), (8, vI x8)] [vI sx0] h := by
  refine ea_istore (pc := 136) (lv' := [(0, vR (some (b0 + 32))), (2, vI x2), (4, vI x4), (5, vI x5), (6, vI x6), (7, vI x7), (8, vI x8), (9, vI sx0)]) dX1_comes_136 (Nat.le_of_ble_eq_true rfl) [1, 2, 3, 4, 5, 6, 7, 0] rfl ?_
  refine ea_iload (pc := 138) dX1_comes_138 7 rfl ?_
  refine ea_if_eq (pc := 140) (tgt := 203) dX1_comes_140 rfl (fun c29 => ?_) (fun c29 => ?_)
  · have H := H.1 c29
    refine ea_iinc (pc := 203) (v := 1) (lv' := [(0, vR (some (b0 + 32))), (2, vI x2), (4, vI x4), (5, vI x5), (6, vI x6), (7, vI x7), (8, vI (x8 + 1))]) dX1_comes_203 6 rfl rfl (Nat.le_of_ble_eq_true rfl) [1, 2, 3, 4, 5, 6, 0] rfl ?_
    refine ea_goto (pc := 206) (tgt := 95) dX1_comes_206 rfl ?_
    exact H
  · have H := H.2 c29
    refine ea_aload_n (pc := 143) dX1_comes_143 rfl 0 rfl ?_
    refine ea_iload (pc := 144) dX1_comes_144 6 rfl ?_
    refine ea_iload (pc := 146) dX1_comes_146 3 rfl ?_
    obtain ⟨z28, H⟩ := H
    refine ea_callV (pc := 148) (d' := d - 1) (As := [vI x8, vI x5]) (st := []) dX1_comes_148 kX1_isAboard (sX1_isAboard_at32 (d := d - 1) (by omega) hs_h z28) (by omega) rfl (Nat.le_of_ble_eq_true rfl) ew_704 ew_705 ew_706 (ci := 1) rfl (by decide) (hs_h.1 32 (by decide)).1 (hs_h.1 32 (by decide)).2.1 ?_
    refine ea_if_eq (pc := 151) (tgt := 203) dX1_comes_151 rfl (fun c27 => ?_) (fun c27 => ?_)
    · have H := H.1 c27
      refine ea_iinc (pc := 203) (v := 1) (lv' := [(0, vR (some (b0 + 32))), (2, vI x2), (4, vI x4), (5, vI x5), (6, vI x6), (7, vI x7), (8, vI (x8 + 1))]) dX1_comes_203 6 rfl rfl (Nat.le_of_ble_eq_true rfl) [1, 2, 3, 4, 5, 6, 0] rfl ?_
      refine ea_goto (pc := 206) (tgt := 95) dX1_comes_206 rfl ?_
      exact H
    · have H := H.2 c27
      refine ea_aload_n (pc := 154) dX1_comes_154 rfl 0 rfl ?_
      refine ea_getR (pc := 155) dX1_comes_155 ec_1 (k := 5) (Nat.le_of_ble_eq_true rfl) rfl (Or.inl ew_369) (hs_h.1 32 (by decide)).1 (hs_h.1 32 (by decide)).2.1 (hs_h.2 32 5 rfl) ?_
      refine ea_iload (pc := 158) dX1_comes_158 6 rfl ?_
      obtain ⟨z17, H⟩ := H
      refine ea_zald (pc := 160) dX1_comes_160 (hs_h.1 37 (by decide)).1 (hs_h.1 37 (by decide)).2.1 (ea_vpl (hs_h.1 37 (by decide)).2.2 z17) ?_
      refine ea_if_ne (pc := 161) (tgt := 186) dX1_comes_161 rfl (fun c26 => ?_) (fun c26 => ?_)
      · have H := H.1 c26
        exact ea_fewer [0, 1, 2, 3, 4, 5, 6] rfl H
      · have H := H.2 c26
        refine ea_aload_n (pc := 164) dX1_comes_164 rfl 0 rfl ?_
        refine ea_getR (pc := 165) dX1_comes_165 ec_1 (k := 4) (Nat.le_of_ble_eq_true rfl) rfl (Or.inl ew_367) (hs_h.1 32 (by decide)).1 (hs_h.1 32 (by decide)).2.1 (hs_h.2 32 4 rfl) ?_
        refine ea_iload (pc := 168) dX1_comes_168 6 rfl ?_
        refine ea_dup2 (pc := 170) dX1_comes_170 rfl rfl ?_
        obtain ⟨z18, H⟩ := H
        refine ea_iald (pc := 171) dX1_comes_171 (hs_h.1 36 (by decide)).1 (hs_h.1 36 (by decide)).2.1 (ea_vpl (hs_h.1 36 (by decide)).2.2 z18) ?_
        refine ea_iconst (pc := 172) dX1_comes_172 (v := 1) rfl ?_
        refine ea_iadd (pc := 173) dX1_comes_173 ?_
        obtain ⟨z19, H⟩ := H
        refine ea_iast (pc := 174) dX1_comes_174 (hs_h.1 36 (by decide)).1 (hs_h.1 36 (by decide)).2.1 (ea_vpl (hs_h.1 36 (by decide)).2.2 z19) ?_
        obtain ⟨h20, E21⟩ : ∃ z, z = ea_wi h (b0 + 36) (Int32.toNatClampNeg x8) ((ea_i h (b0 + 36) (Int32.toNatClampNeg x8)) + (1 : Int32)) := ⟨_, rfl⟩
        have H := H h20 E21
        refine ea_nm E21 ?_
        have hs_h20 : ShC b0 h20 := by rw [E21]; exact ShC_wi hs_h
        refine ea_aload_n (pc := 175) dX1_comes_175 rfl 0 rfl ?_
        refine ea_getR (pc := 176) dX1_comes_176 ec_1 (k := 6) (Nat.le_of_ble_eq_true rfl) rfl (Or.inl ew_371) (hs_h20.1 32 (by decide)).1 (hs_h20.1 32 (by decide)).2.1 (hs_h20.2 32 6 rfl) ?_
        refine ea_iload (pc := 179) dX1_comes_179 3 rfl ?_
        refine ea_dup2 (pc := 181) dX1_comes_181 rfl rfl ?_
        obtain ⟨z22, H⟩ := H
        refine ea_iald (pc := 182) dX1_comes_182 (hs_h20.1 38 (by decide)).1 (hs_h20.1 38 (by decide)).2.1 (ea_vpl (hs_h20.1 38 (by decide)).2.2 z22) ?_
        refine ea_iconst (pc := 183) dX1_comes_183 (v := 1) rfl ?_
        refine ea_iadd (pc := 184) dX1_comes_184 ?_
        obtain ⟨z23, H⟩ := H
        refine ea_iast (pc := 185) dX1_comes_185 (hs_h20.1 38 (by decide)).1 (hs_h20.1 38 (by decide)).2.1 (ea_vpl (hs_h20.1 38 (by decide)).2.2 z23) ?_
        obtain ⟨h24, E25⟩ : ∃ z, z = ea_wi h20 (b0 + 38) (Int32.toNatClampNeg x5) ((ea_i h20 (b0 + 38) (Int32.toNatClampNeg x5)) + (1 : Int32)) := ⟨_, rfl⟩
        have H := H h24 E25
        refine ea_nm E25 ?_
        have hs_h24 : ShC b0 h24 := by rw [E25]; exact ShC_wi hs_h20
        exact ea_fewer [0, 1, 2, 3, 4, 5, 6] rfl H
theorem pX1_comes_at32_186 {d b0 : Nat} {h0 hE h : ea_H} {rv : Option ea_V} {x2 : Int32} {x4 : Int32} {x5 : Int32} {x6 : Int32} {x7 : Int32} {x8 : Int32} (hd : 2 ≤ d) (hs_h : ShC b0 h) (H : (okX1_stateIn_at32 b0 (x8 : Int32) (x7 : Int32) h) ∧ ∃ (d10 : Nat) (h11 : ea_H), ea_Met mX1_move d10 [vR (some (b0 + 32)), vI x8, vI x2, vI (vX1_stateIn_at32 b0 (x8 : Int32) (x7 : Int32) h), vI x7] h none h11 ∧ d10 + 1 ≤ d ∧ ShC b0 h11 ∧ ea_W mX1_comes d h0 rv hE 95 [(0, vR (some (b0 + 32))), (2, vI x2), (4, vI x4), (5, vI x5), (6, vI x6), (7, vI x7), (8, vI (x8 + 1))] [] h11) : ea_W mX1_comes d h0 rv hE 186 [(0, vR (some (b0 + 32))), (2, vI x2), (4, vI x4), (5, vI x5), (6, vI x6), (7, vI x7), (8, vI x8)] [] h := by
  refine ea_aload_n (pc := 186) dX1_comes_186 rfl 0 rfl ?_
  refine ea_iload (pc := 187) dX1_comes_187 6 rfl ?_
  refine ea_iload_n (pc := 189) dX1_comes_189 rfl 1 rfl ?_
  refine ea_aload_n (pc := 190) dX1_comes_190 rfl 0 rfl ?_
  refine ea_iload (pc := 191) dX1_comes_191 6 rfl ?_
  refine ea_iload (pc := 193) dX1_comes_193 5 rfl ?_
  obtain ⟨z14, H⟩ := H
  refine ea_callV (pc := 195) (d' := d - 1) (As := [vI x8, vI x7]) (st := [vI x2, vI x8, vR (some (b0 + 32))]) dX1_comes_195 kX1_stateIn (sX1_stateIn_at32 (d := d - 1) (by omega) hs_h z14) (by omega) rfl (Nat.le_of_ble_eq_true rfl) ew_716 ew_718 ew_15 (ci := 1) rfl (by decide) (hs_h.1 32 (by decide)).1 (hs_h.1 32 (by decide)).2.1 ?_
  refine ea_iload (pc := 198) dX1_comes_198 5 rfl ?_
  obtain ⟨d10, h11, m12, q13, hs_h11, H⟩ := H
  refine ea_callV (pc := 200) (As := [vI x8, vI x2, vI (vX1_stateIn_at32 b0 (x8 : Int32) (x7 : Int32) h), vI x7]) (st := []) dX1_comes_200 kX1_move m12 q13 rfl (Nat.le_of_ble_eq_true rfl) ew_645 ew_646 ew_647 (ci := 1) rfl (by decide) (hs_h.1 32 (by decide)).1 (hs_h.1 32 (by decide)).2.1 ?_
  refine ea_iinc (pc := 203) (v := 1) (lv' := [(0, vR (some (b0 + 32))), (2, vI x2), (4, vI x4), (5, vI x5), (6, vI x6), (7, vI x7), (8, vI (x8 + 1))]) dX1_comes_203 6 rfl rfl (Nat.le_of_ble_eq_true rfl) [1, 2, 3, 4, 5, 6, 0] rfl ?_
  refine ea_goto (pc := 206) (tgt := 95) dX1_comes_206 rfl ?_
  exact H
theorem pX1_comes_at42_0 {d b0 : Nat} {h0 hE h : ea_H} {rv : Option ea_V} {x1 : Int32} {x2 : Int32} (hd : 2 ≤ d) (hs_h : ShC b0 h) (H : vp_in (((10 : Int32) * (vX10_dayIn (x1 : Int32) h)) + (vX10_trainIn (x1 : Int32) h)) 70 ∧ ((ea_i h (b0 + 51) (Int32.toNatClampNeg (((10 : Int32) * (vX10_dayIn (x1 : Int32) h)) + (vX10_trainIn (x1 : Int32) h)))) = (0 : Int32) → rv = none ∧ hE = h) ∧ (¬ (ea_i h (b0 + 51) (Int32.toNatClampNeg (((10 : Int32) * (vX10_dayIn (x1 : Int32) h)) + (vX10_trainIn (x1 : Int32) h)))) = (0 : Int32) → vp_in (((8 : Int32) * (((10 : Int32) * (vX10_dayIn (x1 : Int32) h)) + (vX10_trainIn (x1 : Int32) h))) + (vX10_stopIn (x1 : Int32) h)) 560 ∧ ((ea_i h (b0 + 12) (Int32.toNatClampNeg (((8 : Int32) * (((10 : Int32) * (vX10_dayIn (x1 : Int32) h)) + (vX10_trainIn (x1 : Int32) h))) + (vX10_stopIn (x1 : Int32) h)))) = (0 : Int32) → vp_in (vX10_trainIn (x1 : Int32) h) 10 ∧ (¬ (vX10_stopIn (x1 : Int32) h) = ((ea_i h (b0 + 6) (Int32.toNatClampNeg (vX10_trainIn (x1 : Int32) h))) - (1 : Int32)) → ea_W mX1_comes d h0 rv hE 73 [(0, vR (some (b0 + 42))), (2, vI x2), (3, vI (vX10_trainIn (x1 : Int32) h)), (4, vI (vX10_stopIn (x1 : Int32) h)), (5, vI (((10 : Int32) * (vX10_dayIn (x1 : Int32) h)) + (vX10_trainIn (x1 : Int32) h)))] [vI 0] h) ∧ ((vX10_stopIn (x1 : Int32) h) = ((ea_i h (b0 + 6) (Int32.toNatClampNeg (vX10_trainIn (x1 : Int32) h))) - (1 : Int32)) → ea_W mX1_comes d h0 rv hE 73 [(0, vR (some (b0 + 42))), (2, vI x2), (3, vI (vX10_trainIn (x1 : Int32) h)), (4, vI (vX10_stopIn (x1 : Int32) h)), (5, vI (((10 : Int32) * (vX10_dayIn (x1 : Int32) h)) + (vX10_trainIn (x1 : Int32) h)))] [vI 1] h)) ∧ (¬ (ea_i h (b0 + 12) (Int32.toNatClampNeg (((8 : Int32) * (((10 : Int32) * (vX10_dayIn (x1 : Int32) h)) + (vX10_trainIn (x1 : Int32) h))) + (vX10_stopIn (x1 : Int32) h)))) = (0 : Int32) → rv = none ∧ hE = h))) : ea_W mX1_comes d h0 rv hE 0 [(0, vR (some (b0 + 42))), (1, vI x1), (2, vI x2)] [] h := by
  refine ea_iload_n (pc := 0) dX1_comes_0 rfl 1 rfl ?_
  refine ea_callS (pc := 1) (d' := d - 1) (As := [vI x1]) (st := []) dX1_comes_1 kX10_trainIn (sX10_trainIn (d := d - 1) (by omega)) (by omega) rfl (Nat.le_of_ble_eq_true rfl) ew_670 ew_597 ?_
  refine ea_istore_n (pc := 4) (lv' := [(0, vR (some (b0 + 42))), (1, vI x1), (2, vI x2), (3, vI (vX10_trainIn (x1 : Int32) h))]) dX1_comes_4 rfl (Nat.le_of_ble_eq_true rfl) [1, 2, 3, 0] rfl ?_
  refine ea_iload_n (pc := 5) dX1_comes_5 rfl 1 rfl ?_
  refine ea_callS (pc := 6) (d' := d - 1) (As := [vI x1]) (st := []) dX1_comes_6 kX10_stopIn (sX10_stopIn (d := d - 1) (by omega)) (by omega) rfl (Nat.le_of_ble_eq_true rfl) ew_671 ew_600 ?_
  refine ea_istore (pc := 9) (lv' := [(0, vR (some (b0 + 42))), (1, vI x1), (2, vI x2), (3, vI (vX10_trainIn (x1 : Int32) h)), (4, vI (vX10_stopIn (x1 : Int32) h))]) dX1_comes_9 (Nat.le_of_ble_eq_true rfl) [1, 2, 3, 4, 0] rfl ?_
  refine ea_bipush (pc := 11) dX1_comes_11 (v := 10) rfl ?_
  refine ea_iload_n (pc := 13) dX1_comes_13 rfl 1 rfl ?_
  refine ea_callS (pc := 14) (d' := d - 1) (As := [vI x1]) (st := [vI 10]) dX1_comes_14 kX10_dayIn (sX10_dayIn (d := d - 1) (by omega)) (by omega) rfl (Nat.le_of_ble_eq_true rfl) ew_672 ew_609 ?_
  refine ea_imul (pc := 17) dX1_comes_17 ?_
  refine ea_iload_n (pc := 18) dX1_comes_18 rfl 3 rfl ?_
  refine ea_iadd (pc := 19) dX1_comes_19 ?_
  refine ea_istore (pc := 20) (lv' := [(0, vR (some (b0 + 42))), (2, vI x2), (3, vI (vX10_trainIn (x1 : Int32) h)), (4, vI (vX10_stopIn (x1 : Int32) h)), (5, vI (((10 : Int32) * (vX10_dayIn (x1 : Int32) h)) + (vX10_trainIn (x1 : Int32) h)))]) dX1_comes_20 (Nat.le_of_ble_eq_true rfl) [1, 3, 4, 5, 0] rfl ?_
  refine ea_aload_n (pc := 22) dX1_comes_22 rfl 0 rfl ?_
  refine ea_getR (pc := 23) dX1_comes_23 ec_1 (k := 9) (Nat.le_of_ble_eq_true rfl) rfl (Or.inl ew_375) (hs_h.1 42 (by decide)).1 (hs_h.1 42 (by decide)).2.1 (hs_h.2 42 9 rfl) ?_
  refine ea_iload (pc := 26) dX1_comes_26 4 rfl ?_
  obtain ⟨z82, H⟩ := H
  refine ea_iald (pc := 28) dX1_comes_28 (hs_h.1 51 (by decide)).1 (hs_h.1 51 (by decide)).2.1 (ea_vpl (hs_h.1 51 (by decide)).2.2 z82) ?_
  refine ea_if_eq (pc := 29) (tgt := 51) dX1_comes_29 rfl (fun c87 => ?_) (fun c87 => ?_)
  · have H := H.1 c87
    obtain ⟨rfl, rfl⟩ := H
    exact ea_return (pc := 51) dX1_comes_51 rfl
  · have H := H.2 c87
    refine ea_aload_n (pc := 32) dX1_comes_32 rfl 0 rfl ?_
    refine ea_getR (pc := 33) dX1_comes_33 ec_1 (k := 11) (Nat.le_of_ble_eq_true rfl) rfl (Or.inl ew_377) (hs_h.1 42 (by decide)).1 (hs_h.1 42 (by decide)).2.1 (hs_h.2 42 11 rfl) ?_
    refine ea_getR (pc := 36) dX1_comes_36 ec_9 (k := 7) (Nat.le_of_ble_eq_true rfl) rfl (Or.inl ew_200) (hs_h.1 5 (by decide)).1 (hs_h.1 5 (by decide)).2.1 (hs_h.2 5 7 rfl) ?_
    refine ea_bipush (pc := 39) dX1_comes_39 (v := 8) rfl ?_
    refine ea_iload (pc := 41) dX1_comes_41 4 rfl ?_
    refine ea_imul (pc := 43) dX1_comes_43 ?_
    refine ea_iload (pc := 44) dX1_comes_44 3 rfl ?_
    refine ea_iadd (pc := 46) dX1_comes_46 ?_
    obtain ⟨z83, H⟩ := H
    refine ea_zald (pc := 47) dX1_comes_47 (hs_h.1 12 (by decide)).1 (hs_h.1 12 (by decide)).2.1 (ea_vpl (hs_h.1 12 (by decide)).2.2 z83) ?_
    refine ea_if_eq (pc := 48) (tgt := 52) dX1_comes_48 rfl (fun c86 => ?_) (fun c86 => ?_)
    · have H := H.1 c86
      refine ea_iload (pc := 52) dX1_comes_52 3 rfl ?_
      refine ea_aload_n (pc := 54) dX1_comes_54 rfl 0 rfl ?_
      refine ea_getR (pc := 55) dX1_comes_55 ec_1 (k := 11) (Nat.le_of_ble_eq_true rfl) rfl (Or.inl ew_377) (hs_h.1 42 (by decide)).1 (hs_h.1 42 (by decide)).2.1 (hs_h.2 42 11 rfl) ?_
      refine ea_getR (pc := 58) dX1_comes_58 ec_9 (k := 1) (Nat.le_of_ble_eq_true rfl) rfl (Or.inl ew_182) (hs_h.1 5 (by decide)).1 (hs_h.1 5 (by decide)).2.1 (hs_h.2 5 1 rfl) ?_
      refine ea_iload_n (pc := 61) dX1_comes_61 rfl 2 rfl ?_
      obtain ⟨z84, H⟩ := H
      refine ea_iald (pc := 62) dX1_comes_62 (hs_h.1 6 (by decide)).1 (hs_h.1 6 (by decide)).2.1 (ea_vpl (hs_h.1 6 (by decide)).2.2 z84) ?_
      refine ea_iconst (pc := 63) dX1_comes_63 (v := 1) rfl ?_
      refine ea_isub (pc := 64) dX1_comes_64 ?_
      refine ea_icmp_ne (pc := 65) (tgt := 72) dX1_comes_65 rfl (fun c85 => ?_) (fun c85 => ?_)
      · have H := H.1 c85
        refine ea_iconst (pc := 72) dX1_comes_72 (v := 0) rfl ?_
        exact H
      · have H := H.2 c85
        refine ea_iconst (pc := 68) dX1_comes_68 (v := 1) rfl ?_
        refine ea_goto (pc := 69) (tgt := 73) dX1_comes_69 rfl ?_
        exact H
    · have H := H.2 c86
      obtain ⟨rfl, rfl⟩ := H
      exact ea_return (pc := 51) dX1_comes_51 rfl
theorem pX1_comes_at42_73 {d b0 : Nat} {h0 hE h : ea_H} {rv : Option ea_V} {x2 : Int32} {x3 : Int32} {x4 : Int32} {x5 : Int32} {sx0 : Int32} (hd : 2 ≤ d) (hs_h : ShC b0 h) (H : vp_in (((8 : Int32) * x3) + x4) 80 ∧ ea_W mX1_comes d h0 rv hE 95 [(0, vR (some (b0 + 42))), (2, vI x2), (4, vI x4), (5, vI x5), (6, vI sx0), (7, vI (ea_i h (b0 + 7) (Int32.toNatClampNeg (((8 : Int32) * x3) + x4)))), (8, vI 0)] [] h) : ea_W mX1_comes d h0 rv hE 73 [(0, vR (some (b0 + 42))), (2, vI x2), (3, vI x3), (4, vI x4), (5, vI x5)] [vI sx0] h := by
  refine ea_istore (pc := 73) (lv' := [(0, vR (some (b0 + 42))), (2, vI x2), (3, vI x3), (4, vI x4), (5, vI x5), (6, vI sx0)]) dX1_comes_73 (Nat.le_of_ble_eq_true rfl) [1, 2, 3, 4, 5, 0] rfl ?_
  refine ea_aload_n (pc := 75) dX1_comes_75 rfl 0 rfl ?_
  refine ea_getR (pc := 76) dX1_comes_76 ec_1 (k := 11) (Nat.le_of_ble_eq_true rfl) rfl (Or.inl ew_377) (hs_h.1 42 (by decide)).1 (hs_h.1 42 (by decide)).2.1 (hs_h.2 42 11 rfl) ?_
  refine ea_getR (pc := 79) dX1_comes_79 ec_9 (k := 2) (Nat.le_of_ble_eq_true rfl) rfl (Or.inl ew_186) (hs_h.1 5 (by decide)).1 (hs_h.1 5 (by decide)).2.1 (hs_h.2 5 2 rfl) ?_
  refine ea_bipush (pc := 82) dX1_comes_82 (v := 8) rfl ?_
  refine ea_iload_n (pc := 84) dX1_comes_84 rfl 2 rfl ?_
  refine ea_imul (pc := 85) dX1_comes_85 ?_
  refine ea_iload (pc := 86) dX1_comes_86 3 rfl ?_
  refine ea_iadd (pc := 88) dX1_comes_88 ?_
  obtain ⟨z1, H⟩ := H
  refine ea_iald (pc := 89) dX1_comes_89 (hs_h.1 7 (by decide)).1 (hs_h.1 7 (by decide)).2.1 (ea_vpl (hs_h.1 7 (by decide)).2.2 z1) ?_
  refine ea_istore (pc := 90) (lv' := [(0, vR (some (b0 + 42))), (2, vI x2), (4, vI x4), (5, vI x5), (6, vI sx0), (7, vI (ea_i h (b0 + 7) (Int32.toNatClampNeg (((8 : Int32) * x3) + x4))))]) dX1_comes_90 (Nat.le_of_ble_eq_true rfl) [1, 2, 4, 5, 6, 0] rfl ?_
  refine ea_iconst (pc := 92) dX1_comes_92 (v := 0) rfl ?_
  refine ea_istore (pc := 93) (lv' := [(0, vR (some (b0 + 42))), (2, vI x2), (4, vI x4), (5, vI x5), (6, vI sx0), (7, vI (ea_i h (b0 + 7) (Int32.toNatClampNeg (((8 : Int32) * x3) + x4)))), (8, vI 0)]) dX1_comes_93 (Nat.le_of_ble_eq_true rfl) [1, 2, 3, 4, 5, 6, 0] rfl ?_
  exact H
theorem pX1_comes_at42_95 {d b0 : Nat} {h0 hE h : ea_H} {rv : Option ea_V} {x2 : Int32} {x4 : Int32} {x5 : Int32} {x6 : Int32} {x7 : Int32} {x8 : Int32} (hd : 2 ≤ d) (hs_h : ShC b0 h) (H : ((ea_i h (b0 + 42) 0) ≤ x8 → rv = none ∧ hE = h) ∧ (¬ (ea_i h (b0 + 42) 0) ≤ x8 → (¬ x6 = (0 : Int32) → ea_W mX1_comes d h0 rv hE 136 [(0, vR (some (b0 + 42))), (2, vI x2), (4, vI x4), (5, vI x5), (6, vI x6), (7, vI x7), (8, vI x8)] [vI 1] h) ∧ (x6 = (0 : Int32) → vp_in x8 120 ∧ ((ea_i h (b0 + 47) (Int32.toNatClampNeg x8)) = (0 : Int32) → ea_W mX1_comes d h0 rv hE 136 [(0, vR (some (b0 + 42))), (2, vI x2), (4, vI x4), (5, vI x5), (6, vI x6), (7, vI x7), (8, vI x8)] [vI 0] h) ∧ (¬ (ea_i h (b0 + 47) (Int32.toNatClampNeg x8)) = (0 : Int32) → vp_in x8 120 ∧ (x4 < (ea_i h (b0 + 45) (Int32.toNatClampNeg x8)) → ea_W mX1_comes d h0 rv hE 136 [(0, vR (some (b0 + 42))), (2, vI x2), (4, vI x4), (5, vI x5), (6, vI x6), (7, vI x7), (8, vI x8)] [vI 0] h) ∧ (¬ x4 < (ea_i h (b0 + 45) (Int32.toNatClampNeg x8)) → ea_W mX1_comes d h0 rv hE 136 [(0, vR (some (b0 + 42))), (2, vI x2), (4, vI x4), (5, vI x5), (6, vI x6), (7, vI x7), (8, vI x8)] [vI 1] h))))) : ea_W mX1_comes d h0 rv hE 95 [(0, vR (some (b0 + 42))), (2, vI x2), (4, vI x4), (5, vI x5), (6, vI x6), (7, vI x7), (8, vI x8)] [] h := by
  refine ea_iload (pc := 95) dX1_comes_95 6 rfl ?_
  refine ea_aload_n (pc := 97) dX1_comes_97 rfl 0 rfl ?_
  refine ea_getI (pc := 98) dX1_comes_98 ec_1 (k := 0) (Nat.le_of_ble_eq_true rfl) rfl (Or.inl ew_359) (hs_h.1 42 (by decide)).1 (hs_h.1 42 (by decide)).2.1 ?_
  refine ea_icmp_ge (pc := 101) (tgt := 209) dX1_comes_101 rfl (fun c6 => ?_) (fun c6 => ?_)
  · have H := H.1 c6
    obtain ⟨rfl, rfl⟩ := H
    exact ea_return (pc := 209) dX1_comes_209 rfl
  · have H := H.2 c6
    refine ea_iload (pc := 104) dX1_comes_104 4 rfl ?_
    refine ea_if_ne (pc := 106) (tgt := 131) dX1_comes_106 rfl (fun c5 => ?_) (fun c5 => ?_)
    · have H := H.1 c5
      refine ea_iconst (pc := 131) dX1_comes_131 (v := 1) rfl ?_
      refine ea_goto (pc := 132) (tgt := 136) dX1_comes_132 rfl ?_
      exact H
    · have H := H.2 c5
      refine ea_aload_n (pc := 109) dX1_comes_109 rfl 0 rfl ?_
      refine ea_getR (pc := 110) dX1_comes_110 ec_1 (k := 5) (Nat.le_of_ble_eq_true rfl) rfl (Or.inl ew_369) (hs_h.1 42 (by decide)).1 (hs_h.1 42 (by decide)).2.1 (hs_h.2 42 5 rfl) ?_
      refine ea_iload (pc := 113) dX1_comes_113 6 rfl ?_
      obtain ⟨z1, H⟩ := H
      refine ea_zald (pc := 115) dX1_comes_115 (hs_h.1 47 (by decide)).1 (hs_h.1 47 (by decide)).2.1 (ea_vpl (hs_h.1 47 (by decide)).2.2 z1) ?_
      refine ea_if_eq (pc := 116) (tgt := 135) dX1_comes_116 rfl (fun c4 => ?_) (fun c4 => ?_)
      · have H := H.1 c4
        refine ea_iconst (pc := 135) dX1_comes_135 (v := 0) rfl ?_
        exact H
      · have H := H.2 c4
        refine ea_aload_n (pc := 119) dX1_comes_119 rfl 0 rfl ?_
        refine ea_getR (pc := 120) dX1_comes_120 ec_1 (k := 3) (Nat.le_of_ble_eq_true rfl) rfl (Or.inl ew_365) (hs_h.1 42 (by decide)).1 (hs_h.1 42 (by decide)).2.1 (hs_h.2 42 3 rfl) ?_
        refine ea_iload (pc := 123) dX1_comes_123 6 rfl ?_
        obtain ⟨z2, H⟩ := H
        refine ea_iald (pc := 125) dX1_comes_125 (hs_h.1 45 (by decide)).1 (hs_h.1 45 (by decide)).2.1 (ea_vpl (hs_h.1 45 (by decide)).2.2 z2) ?_
        refine ea_iload (pc := 126) dX1_comes_126 2 rfl ?_
        refine ea_icmp_gt (pc := 128) (tgt := 135) dX1_comes_128 rfl (fun c3 => ?_) (fun c3 => ?_)
        · have H := H.1 c3
          refine ea_iconst (pc := 135) dX1_comes_135 (v := 0) rfl ?_
          exact H
        · have H := H.2 c3
          refine ea_iconst (pc := 131) dX1_comes_131 (v := 1) rfl ?_
          refine ea_goto (pc := 132) (tgt := 136) dX1_comes_132 rfl ?_
          exact H
theorem pX1_comes_at42_136 {d b0 : Nat} {h0 hE h : ea_H} {rv : Option ea_V} {x2 : Int32} {x4 : Int32} {x5 : Int32} {x6 : Int32} {x7 : Int32} {x8 : Int32} {sx0 : Int32} (hd : 2 ≤ d) (hs_h : ShC b0 h) (H : (sx0 = (0 : Int32) → ea_W mX1_comes d h0 rv hE 95 [(0, vR (some (b0 + 42))), (2, vI x2), (4, vI x4), (5, vI x5), (6, vI x6), (7, vI x7), (8, vI (x8 + 1))] [] h) ∧ (¬ sx0 = (0 : Int32) → (okX1_isAboard_at42 b0 (x8 : Int32) (x5 : Int32) h) ∧ ((vX1_isAboard_at42 b0 (x8 : Int32) (x5 : Int32) h) = (0 : Int32) → ea_W mX1_comes d h0 rv hE 95 [(0, vR (some (b0 + 42))), (2, vI x2), (4, vI x4), (5, vI x5), (6, vI x6), (7, vI x7), (8, vI (x8 + 1))] [] h) ∧ (¬ (vX1_isAboard_at42 b0 (x8 : Int32) (x5 : Int32) h) = (0 : Int32) → vp_in x8 120 ∧ (¬ (ea_i h (b0 + 47) (Int32.toNatClampNeg x8)) = (0 : Int32) → ea_W mX1_comes d h0 rv hE 186 [(0, vR (some (b0 + 42))), (2, vI x2), (4, vI x4), (5, vI x5), (6, vI x6), (7, vI x7), (8, vI x8)] [] h) ∧ ((ea_i h (b0 + 47) (Int32.toNatClampNeg x8)) = (0 : Int32) → vp_in x8 120 ∧ vp_in x8 120 ∧ ∀ h20, h20 = ea_wi h (b0 + 46) (Int32.toNatClampNeg x8) ((ea_i h (b0 + 46) (Int32.toNatClampNeg x8)) + (1 : Int32)) → vp_in x5 70 ∧ vp_in x5 70 ∧ ∀ h24, h24 = ea_wi h20 (b0 + 48) (Int32.toNatClampNeg x5) ((ea_i h20 (b0 + 48) (Int32.toNatClampNeg x5)) + (1 : Int32)) → ea_W mX1_comes d h0 rv hE 186 [(0, vR (some (b0 + 42))), (2, vI x2), (4, vI x4), (5, vI x5), (6, vI x6), (7, vI x7), (8, vI x8)] [] h24)))) : ea_W mX1_comes d h0 rv hE 136 [(0, vR (some (b0 + 42))), (2, vI x2), (4, vI x4), (5, vI x5), (6, vI x6), (7, vI x7), (8, vI x8)] [vI sx0] h := by
  refine ea_istore (pc := 136) (lv' := [(0, vR (some (b0 + 42))), (2, vI x2), (4, vI x4), (5, vI x5), (6, vI x6), (7, vI x7), (8, vI x8), (9, vI sx0)]) dX1_comes_136 (Nat.le_of_ble_eq_true rfl) [1, 2, 3, 4, 5, 6, 7, 0] rfl ?_
  refine ea_iload (pc := 138) dX1_comes_138 7 rfl ?_
  refine ea_if_eq (pc := 140) (tgt := 203) dX1_comes_140 rfl (fun c29 => ?_) (fun c29 => ?_)
  · have H := H.1 c29
    refine ea_iinc (pc := 203) (v := 1) (lv' := [(0, vR (some (b0 + 42))), (2, vI x2), (4, vI x4), (5, vI x5), (6, vI x6), (7, vI x7), (8, vI (x8 + 1))]) dX1_comes_203 6 rfl rfl (Nat.le_of_ble_eq_true rfl) [1, 2, 3, 4, 5, 6, 0] rfl ?_
    refine ea_goto (pc := 206) (tgt := 95) dX1_comes_206 rfl ?_
    exact H
  · have H := H.2 c29
    refine ea_aload_n (pc := 143) dX1_comes_143 rfl 0 rfl ?_
    refine ea_iload (pc := 144) dX1_comes_144 6 rfl ?_
    refine ea_iload (pc := 146) dX1_comes_146 3 rfl ?_
    obtain ⟨z28, H⟩ := H
    refine ea_callV (pc := 148) (d' := d - 1) (As := [vI x8, vI x5]) (st := []) dX1_comes_148 kX1_isAboard (sX1_isAboard_at42 (d := d - 1) (by omega) hs_h z28) (by omega) rfl (Nat.le_of_ble_eq_true rfl) ew_704 ew_705 ew_706 (ci := 1) rfl (by decide) (hs_h.1 42 (by decide)).1 (hs_h.1 42 (by decide)).2.1 ?_
    refine ea_if_eq (pc := 151) (tgt := 203) dX1_comes_151 rfl (fun c27 => ?_) (fun c27 => ?_)
    · have H := H.1 c27
      refine ea_iinc (pc := 203) (v := 1) (lv' := [(0, vR (some (b0 + 42))), (2, vI x2), (4, vI x4), (5, vI x5), (6, vI x6), (7, vI x7), (8, vI (x8 + 1))]) dX1_comes_203 6 rfl rfl (Nat.le_of_ble_eq_true rfl) [1, 2, 3, 4, 5, 6, 0] rfl ?_
      refine ea_goto (pc := 206) (tgt := 95) dX1_comes_206 rfl ?_
      exact H
    · have H := H.2 c27
      refine ea_aload_n (pc := 154) dX1_comes_154 rfl 0 rfl ?_
      refine ea_getR (pc := 155) dX1_comes_155 ec_1 (k := 5) (Nat.le_of_ble_eq_true rfl) rfl (Or.inl ew_369) (hs_h.1 42 (by decide)).1 (hs_h.1 42 (by decide)).2.1 (hs_h.2 42 5 rfl) ?_
      refine ea_iload (pc := 158) dX1_comes_158 6 rfl ?_
      obtain ⟨z17, H⟩ := H
      refine ea_zald (pc := 160) dX1_comes_160 (hs_h.1 47 (by decide)).1 (hs_h.1 47 (by decide)).2.1 (ea_vpl (hs_h.1 47 (by decide)).2.2 z17) ?_
      refine ea_if_ne (pc := 161) (tgt := 186) dX1_comes_161 rfl (fun c26 => ?_) (fun c26 => ?_)
      · have H := H.1 c26
        exact ea_fewer [0, 1, 2, 3, 4, 5, 6] rfl H
      · have H := H.2 c26
        refine ea_aload_n (pc := 164) dX1_comes_164 rfl 0 rfl ?_
        refine ea_getR (pc := 165) dX1_comes_165 ec_1 (k := 4) (Nat.le_of_ble_eq_true rfl) rfl (Or.inl ew_367) (hs_h.1 42 (by decide)).1 (hs_h.1 42 (by decide)).2.1 (hs_h.2 42 4 rfl) ?_
        refine ea_iload (pc := 168) dX1_comes_168 6 rfl ?_
        refine ea_dup2 (pc := 170) dX1_comes_170 rfl rfl ?_
        obtain ⟨z18, H⟩ := H
        refine ea_iald (pc := 171) dX1_comes_171 (hs_h.1 46 (by decide)).1 (hs_h.1 46 (by decide)).2.1 (ea_vpl (hs_h.1 46 (by decide)).2.2 z18) ?_
        refine ea_iconst (pc := 172) dX1_comes_172 (v := 1) rfl ?_
        refine ea_iadd (pc := 173) dX1_comes_173 ?_
        obtain ⟨z19, H⟩ := H
        refine ea_iast (pc := 174) dX1_comes_174 (hs_h.1 46 (by decide)).1 (hs_h.1 46 (by decide)).2.1 (ea_vpl (hs_h.1 46 (by decide)).2.2 z19) ?_
        obtain ⟨h20, E21⟩ : ∃ z, z = ea_wi h (b0 + 46) (Int32.toNatClampNeg x8) ((ea_i h (b0 + 46) (Int32.toNatClampNeg x8)) + (1 : Int32)) := ⟨_, rfl⟩
        have H := H h20 E21
        refine ea_nm E21 ?_
        have hs_h20 : ShC b0 h20 := by rw [E21]; exact ShC_wi hs_h
        refine ea_aload_n (pc := 175) dX1_comes_175 rfl 0 rfl ?_
        refine ea_getR (pc := 176) dX1_comes_176 ec_1 (k := 6) (Nat.le_of_ble_eq_true rfl) rfl (Or.inl ew_371) (hs_h20.1 42 (by decide)).1 (hs_h20.1 42 (by decide)).2.1 (hs_h20.2 42 6 rfl) ?_
        refine ea_iload (pc := 179) dX1_comes_179 3 rfl ?_
        refine ea_dup2 (pc := 181) dX1_comes_181 rfl rfl ?_
        obtain ⟨z22, H⟩ := H
        refine ea_iald (pc := 182) dX1_comes_182 (hs_h20.1 48 (by decide)).1 (hs_h20.1 48 (by decide)).2.1 (ea_vpl (hs_h20.1 48 (by decide)).2.2 z22) ?_
        refine ea_iconst (pc := 183) dX1_comes_183 (v := 1) rfl ?_
        refine ea_iadd (pc := 184) dX1_comes_184 ?_
        obtain ⟨z23, H⟩ := H
        refine ea_iast (pc := 185) dX1_comes_185 (hs_h20.1 48 (by decide)).1 (hs_h20.1 48 (by decide)).2.1 (ea_vpl (hs_h20.1 48 (by decide)).2.2 z23) ?_
        obtain ⟨h24, E25⟩ : ∃ z, z = ea_wi h20 (b0 + 48) (Int32.toNatClampNeg x5) ((ea_i h20 (b0 + 48) (Int32.toNatClampNeg x5)) + (1 : Int32)) := ⟨_, rfl⟩
        have H := H h24 E25
        refine ea_nm E25 ?_
        have hs_h24 : ShC b0 h24 := by rw [E25]; exact ShC_wi hs_h20
        exact ea_fewer [0, 1, 2, 3, 4, 5, 6] rfl H
theorem pX1_comes_at42_186 {d b0 : Nat} {h0 hE h : ea_H} {rv : Option ea_V} {x2 : Int32} {x4 : Int32} {x5 : Int32} {x6 : Int32} {x7 : Int32} {x8 : Int32} (hd : 2 ≤ d) (hs_h : ShC b0 h) (H : (okX1_stateIn_at42 b0 (x8 : Int32) (x7 : Int32) h) ∧ ∃ (d10 : Nat) (h11 : ea_H), ea_Met mX1_move d10 [vR (some (b0 + 42)), vI x8, vI x2, vI (vX1_stateIn_at42 b0 (x8 : Int32) (x7 : Int32) h), vI x7] h none h11 ∧ d10 + 1 ≤ d ∧ ShC b0 h11 ∧ ea_W mX1_comes d h0 rv hE 95 [(0, vR (some (b0 + 42))), (2, vI x2), (4, vI x4), (5, vI x5), (6, vI x6), (7, vI x7), (8, vI (x8 + 1))] [] h11) : ea_W mX1_comes d h0 rv hE 186 [(0, vR (some (b0 + 42))), (2, vI x2), (4, vI x4), (5, vI x5), (6, vI x6), (7, vI x7), (8, vI x8)] [] h := by
  refine ea_aload_n (pc := 186) dX1_comes_186 rfl 0 rfl ?_
  refine ea_iload (pc := 187) dX1_comes_187 6 rfl ?_
  refine ea_iload_n (pc := 189) dX1_comes_189 rfl 1 rfl ?_
  refine ea_aload_n (pc := 190) dX1_comes_190 rfl 0 rfl ?_
  refine ea_iload (pc := 191) dX1_comes_191 6 rfl ?_
  refine ea_iload (pc := 193) dX1_comes_193 5 rfl ?_
  obtain ⟨z14, H⟩ := H
  refine ea_callV (pc := 195) (d' := d - 1) (As := [vI x8, vI x7]) (st := [vI x2, vI x8, vR (some (b0 + 42))]) dX1_comes_195 kX1_stateIn (sX1_stateIn_at42 (d := d - 1) (by omega) hs_h z14) (by omega) rfl (Nat.le_of_ble_eq_true rfl) ew_716 ew_718 ew_15 (ci := 1) rfl (by decide) (hs_h.1 42 (by decide)).1 (hs_h.1 42 (by decide)).2.1 ?_
  refine ea_iload (pc := 198) dX1_comes_198 5 rfl ?_
  obtain ⟨d10, h11, m12, q13, hs_h11, H⟩ := H
  refine ea_callV (pc := 200) (As := [vI x8, vI x2, vI (vX1_stateIn_at42 b0 (x8 : Int32) (x7 : Int32) h), vI x7]) (st := []) dX1_comes_200 kX1_move m12 q13 rfl (Nat.le_of_ble_eq_true rfl) ew_645 ew_646 ew_647 (ci := 1) rfl (by decide) (hs_h.1 42 (by decide)).1 (hs_h.1 42 (by decide)).2.1 ?_
  refine ea_iinc (pc := 203) (v := 1) (lv' := [(0, vR (some (b0 + 42))), (2, vI x2), (4, vI x4), (5, vI x5), (6, vI x6), (7, vI x7), (8, vI (x8 + 1))]) dX1_comes_203 6 rfl rfl (Nat.le_of_ble_eq_true rfl) [1, 2, 3, 4, 5, 6, 0] rfl ?_
  refine ea_goto (pc := 206) (tgt := 95) dX1_comes_206 rfl ?_
  exact H
theorem pX1_goes_at32_0 {d b0 : Nat} {h0 hE h : ea_H} {rv : Option ea_V} {x1 : Int32} {x2 : Int32} (hd : 3 ≤ d) (hs_h : ShC b0 h) (H : vp_in (((8 : Int32) * (vX10_trainIn (x1 : Int32) h)) + (vX10_stopIn (x1 : Int32) h)) 80 ∧ vp_in (ea_i h (b0 + 7) (Int32.toNatClampNeg (((8 : Int32) * (vX10_trainIn (x1 : Int32) h)) + (vX10_stopIn (x1 : Int32) h)))) 12 ∧ ((ea_i h (b0 + 40) (Int32.toNatClampNeg (ea_i h (b0 + 7) (Int32.toNatClampNeg (((8 : Int32) * (vX10_trainIn (x1 : Int32) h)) + (vX10_stopIn (x1 : Int32) h)))))) ≤ (0 : Int32) → ea_W mX1_goes d h0 rv hE 162 [(0, vR (some (b0 + 32))), (3, vI (vX10_trainIn (x1 : Int32) h)), (4, vI (vX10_stopIn (x1 : Int32) h)), (5, vI (((10 : Int32) * (vX10_dayIn (x1 : Int32) h)) + (vX10_trainIn (x1 : Int32) h)))] [] h) ∧ (¬ (ea_i h (b0 + 40) (Int32.toNatClampNeg (ea_i h (b0 + 7) (Int32.toNatClampNeg (((8 : Int32) * (vX10_trainIn (x1 : Int32) h)) + (vX10_stopIn (x1 : Int32) h)))))) ≤ (0 : Int32) → vp_in (((8 : Int32) * (((10 : Int32) * (vX10_dayIn (x1 : Int32) h)) + (vX10_trainIn (x1 : Int32) h))) + (vX10_stopIn (x1 : Int32) h)) 560 ∧ (¬ (ea_i h (b0 + 12) (Int32.toNatClampNeg (((8 : Int32) * (((10 : Int32) * (vX10_dayIn (x1 : Int32) h)) + (vX10_trainIn (x1 : Int32) h))) + (vX10_stopIn (x1 : Int32) h)))) = (0 : Int32) → ea_W mX1_goes d h0 rv hE 162 [(0, vR (some (b0 + 32))), (3, vI (vX10_trainIn (x1 : Int32) h)), (4, vI (vX10_stopIn (x1 : Int32) h)), (5, vI (((10 : Int32) * (vX10_dayIn (x1 : Int32) h)) + (vX10_trainIn (x1 : Int32) h)))] [] h) ∧ ((ea_i h (b0 + 12) (Int32.toNatClampNeg (((8 : Int32) * (((10 : Int32) * (vX10_dayIn (x1 : Int32) h)) + (vX10_trainIn (x1 : Int32) h))) + (vX10_stopIn (x1 : Int32) h)))) = (0 : Int32) → ea_W mX1_goes d h0 rv hE 71 [(0, vR (some (b0 + 32))), (1, vI x1), (2, vI x2), (3, vI (vX10_trainIn (x1 : Int32) h)), (4, vI (vX10_stopIn (x1 : Int32) h)), (5, vI (((10 : Int32) * (vX10_dayIn (x1 : Int32) h)) + (vX10_trainIn (x1 : Int32) h))), (6, vI (ea_i h (b0 + 7) (Int32.toNatClampNeg (((8 : Int32) * (vX10_trainIn (x1 : Int32) h)) + (vX10_stopIn (x1 : Int32) h))))), (7, vI 0)] [] h))) : ea_W mX1_goes d h0 rv hE 0 [(0, vR (some (b0 + 32))), (1, vI x1), (2, vI x2)] [] h := by
  refine ea_iload_n (pc := 0) dX1_goes_0 rfl 1 rfl ?_
  refine ea_callS (pc := 1) (d' := d - 1) (As := [vI x1]) (st := []) dX1_goes_1 kX10_trainIn (sX10_trainIn (d := d - 1) (by omega)) (by omega) rfl (Nat.le_of_ble_eq_true rfl) ew_670 ew_597 ?_
  refine ea_istore_n (pc := 4) (lv' := [(0, vR (some (b0 + 32))), (1, vI x1), (2, vI x2), (3, vI (vX10_trainIn (x1 : Int32) h))]) dX1_goes_4 rfl (Nat.le_of_ble_eq_true rfl) [1, 2, 3, 0] rfl ?_
  refine ea_iload_n (pc := 5) dX1_goes_5 rfl 1 rfl ?_
  refine ea_callS (pc := 6) (d' := d - 1) (As := [vI x1]) (st := []) dX1_goes_6 kX10_stopIn (sX10_stopIn (d := d - 1) (by omega)) (by omega) rfl (Nat.le_of_ble_eq_true rfl) ew_671 ew_600 ?_
  refine ea_istore (pc := 9) (lv' := [(0, vR (some (b0 + 32))), (1, vI x1), (2, vI x2), (3, vI (vX10_trainIn (x1 : Int32) h)), (4, vI (vX10_stopIn (x1 : Int32) h))]) dX1_goes_9 (Nat.le_of_ble_eq_true rfl) [1, 2, 3, 4, 0] rfl ?_
  refine ea_bipush (pc := 11) dX1_goes_11 (v := 10) rfl ?_
  refine ea_iload_n (pc := 13) dX1_goes_13 rfl 1 rfl ?_
  refine ea_callS (pc := 14) (d' := d - 1) (As := [vI x1]) (st := [vI 10]) dX1_goes_14 kX10_dayIn (sX10_dayIn (d := d - 1) (by omega)) (by omega) rfl (Nat.le_of_ble_eq_true rfl) ew_672 ew_609 ?_
  refine ea_imul (pc := 17) dX1_goes_17 ?_
  refine ea_iload_n (pc := 18) dX1_goes_18 rfl 3 rfl ?_
  refine ea_iadd (pc := 19) dX1_goes_19 ?_
  refine ea_istore (pc := 20) (lv' := [(0, vR (some (b0 + 32))), (1, vI x1), (2, vI x2), (3, vI (vX10_trainIn (x1 : Int32) h)), (4, vI (vX10_stopIn (x1 : Int32) h)), (5, vI (((10 : Int32) * (vX10_dayIn (x1 : Int32) h)) + (vX10_trainIn (x1 : Int32) h)))]) dX1_goes_20 (Nat.le_of_ble_eq_true rfl) [1, 2, 3, 4, 5, 0] rfl ?_
  refine ea_aload_n (pc := 22) dX1_goes_22 rfl 0 rfl ?_
  refine ea_getR (pc := 23) dX1_goes_23 ec_1 (k := 11) (Nat.le_of_ble_eq_true rfl) rfl (Or.inl ew_377) (hs_h.1 32 (by decide)).1 (hs_h.1 32 (by decide)).2.1 (hs_h.2 32 11 rfl) ?_
  refine ea_getR (pc := 26) dX1_goes_26 ec_9 (k := 2) (Nat.le_of_ble_eq_true rfl) rfl (Or.inl ew_186) (hs_h.1 5 (by decide)).1 (hs_h.1 5 (by decide)).2.1 (hs_h.2 5 2 rfl) ?_
  refine ea_bipush (pc := 29) dX1_goes_29 (v := 8) rfl ?_
  refine ea_iload_n (pc := 31) dX1_goes_31 rfl 3 rfl ?_
  refine ea_imul (pc := 32) dX1_goes_32 ?_
  refine ea_iload (pc := 33) dX1_goes_33 4 rfl ?_
  refine ea_iadd (pc := 35) dX1_goes_35 ?_
  obtain ⟨z75, H⟩ := H
  refine ea_iald (pc := 36) dX1_goes_36 (hs_h.1 7 (by decide)).1 (hs_h.1 7 (by decide)).2.1 (ea_vpl (hs_h.1 7 (by decide)).2.2 z75) ?_
  refine ea_istore (pc := 37) (lv' := [(0, vR (some (b0 + 32))), (1, vI x1), (2, vI x2), (3, vI (vX10_trainIn (x1 : Int32) h)), (4, vI (vX10_stopIn (x1 : Int32) h)), (5, vI (((10 : Int32) * (vX10_dayIn (x1 : Int32) h)) + (vX10_trainIn (x1 : Int32) h))), (6, vI (ea_i h (b0 + 7) (Int32.toNatClampNeg (((8 : Int32) * (vX10_trainIn (x1 : Int32) h)) + (vX10_stopIn (x1 : Int32) h)))))]) dX1_goes_37 (Nat.le_of_ble_eq_true rfl) [1, 2, 3, 4, 5, 6, 0] rfl ?_
  refine ea_aload_n (pc := 39) dX1_goes_39 rfl 0 rfl ?_
  refine ea_getR (pc := 40) dX1_goes_40 ec_1 (k := 8) (Nat.le_of_ble_eq_true rfl) rfl (Or.inl ew_374) (hs_h.1 32 (by decide)).1 (hs_h.1 32 (by decide)).2.1 (hs_h.2 32 8 rfl) ?_
  refine ea_iload (pc := 43) dX1_goes_43 6 rfl ?_
  obtain ⟨z76, H⟩ := H
  refine ea_iald (pc := 45) dX1_goes_45 (hs_h.1 40 (by decide)).1 (hs_h.1 40 (by decide)).2.1 (ea_vpl (hs_h.1 40 (by decide)).2.2 z76) ?_
  refine ea_if_le (pc := 46) (tgt := 162) dX1_goes_46 rfl (fun c79 => ?_) (fun c79 => ?_)
  · have H := H.1 c79
    exact ea_fewer [0, 3, 4, 5] rfl H
  · have H := H.2 c79
    refine ea_aload_n (pc := 49) dX1_goes_49 rfl 0 rfl ?_
    refine ea_getR (pc := 50) dX1_goes_50 ec_1 (k := 11) (Nat.le_of_ble_eq_true rfl) rfl (Or.inl ew_377) (hs_h.1 32 (by decide)).1 (hs_h.1 32 (by decide)).2.1 (hs_h.2 32 11 rfl) ?_
    refine ea_getR (pc := 53) dX1_goes_53 ec_9 (k := 7) (Nat.le_of_ble_eq_true rfl) rfl (Or.inl ew_200) (hs_h.1 5 (by decide)).1 (hs_h.1 5 (by decide)).2.1 (hs_h.2 5 7 rfl) ?_
    refine ea_bipush (pc := 56) dX1_goes_56 (v := 8) rfl ?_
    refine ea_iload (pc := 58) dX1_goes_58 5 rfl ?_
    refine ea_imul (pc := 60) dX1_goes_60 ?_
    refine ea_iload (pc := 61) dX1_goes_61 4 rfl ?_
    refine ea_iadd (pc := 63) dX1_goes_63 ?_
    obtain ⟨z77, H⟩ := H
    refine ea_zald (pc := 64) dX1_goes_64 (hs_h.1 12 (by decide)).1 (hs_h.1 12 (by decide)).2.1 (ea_vpl (hs_h.1 12 (by decide)).2.2 z77) ?_
    refine ea_if_ne (pc := 65) (tgt := 162) dX1_goes_65 rfl (fun c78 => ?_) (fun c78 => ?_)
    · have H := H.1 c78
      exact ea_fewer [0, 3, 4, 5] rfl H
    · have H := H.2 c78
      refine ea_iconst (pc := 68) dX1_goes_68 (v := 0) rfl ?_
      refine ea_istore (pc := 69) (lv' := [(0, vR (some (b0 + 32))), (1, vI x1), (2, vI x2), (3, vI (vX10_trainIn (x1 : Int32) h)), (4, vI (vX10_stopIn (x1 : Int32) h)), (5, vI (((10 : Int32) * (vX10_dayIn (x1 : Int32) h)) + (vX10_trainIn (x1 : Int32) h))), (6, vI (ea_i h (b0 + 7) (Int32.toNatClampNeg (((8 : Int32) * (vX10_trainIn (x1 : Int32) h)) + (vX10_stopIn (x1 : Int32) h))))), (7, vI 0)]) dX1_goes_69 (Nat.le_of_ble_eq_true rfl) [1, 2, 3, 4, 5, 6, 7, 0] rfl ?_
      exact H
theorem pX1_goes_at32_71 {d b0 : Nat} {h0 hE h : ea_H} {rv : Option ea_V} {x1 : Int32} {x2 : Int32} {x3 : Int32} {x4 : Int32} {x5 : Int32} {x6 : Int32} {x7 : Int32} (hd : 3 ≤ d) (hs_h : ShC b0 h) (H : ((ea_i h (b0 + 32) 0) ≤ x7 → ea_W mX1_goes d h0 rv hE 162 [(0, vR (some (b0 + 32))), (3, vI x3), (4, vI x4), (5, vI x5)] [] h) ∧ (¬ (ea_i h (b0 + 32) 0) ≤ x7 → vp_in x7 120 ∧ (¬ (ea_i h (b0 + 33) (Int32.toNatClampNeg x7)) = (0 : Int32) → ea_W mX1_goes d h0 rv hE 71 [(0, vR (some (b0 + 32))), (1, vI x1), (2, vI x2), (3, vI x3), (4, vI x4), (5, vI x5), (6, vI x6), (7, vI (x7 + 1))] [] h) ∧ ((ea_i h (b0 + 33) (Int32.toNatClampNeg x7)) = (0 : Int32) → vp_in x7 120 ∧ (¬ (ea_i h (b0 + 34) (Int32.toNatClampNeg x7)) = x6 → ea_W mX1_goes d h0 rv hE 71 [(0, vR (some (b0 + 32))), (1, vI x1), (2, vI x2), (3, vI x3), (4, vI x4), (5, vI x5), (6, vI x6), (7, vI (x7 + 1))] [] h) ∧ ((ea_i h (b0 + 34) (Int32.toNatClampNeg x7)) = x6 → vp_in x7 120 ∧ ∃ a6, (ea_r h (b0 + 31) (Int32.toNatClampNeg x7)) = some a6 ∧ a6 < ea_n h ∧ ea_c h a6 = 4 ∧ (okX10_bestAtGoing b0 (x5 : Int32) (x4 : Int32) ((ea_i h a6 2) : Int32) h) ∧ ((vX10_begins ((vX10_bestAtGoing b0 (x5 : Int32) (x4 : Int32) ((ea_i h a6 2) : Int32) h) : Int64) (x1 : Int32) h) = (0 : Int32) → ea_W mX1_goes d h0 rv hE 71 [(0, vR (some (b0 + 32))), (1, vI x1), (2, vI x2), (3, vI x3), (4, vI x4), (5, vI x5), (6, vI x6), (7, vI (x7 + 1))] [] h) ∧ (¬ (vX10_begins ((vX10_bestAtGoing b0 (x5 : Int32) (x4 : Int32) ((ea_i h a6 2) : Int32) h) : Int64) (x1 : Int32) h) = (0 : Int32) → ∃ (d75 : Nat) (h76 : ea_H), ea_Met mX1_move d75 [vR (some (b0 + 32)), vI x7, vI x2, vI 1, vI x5] h none h76 ∧ d75 + 1 ≤ d ∧ ShC b0 h76 ∧ vp_in x7 120 ∧ ∀ h88, h88 = ea_wi h76 (b0 + 35) (Int32.toNatClampNeg x7) (vX10_leftOf ((vX10_bestAtGoing b0 (x5 : Int32) (x4 : Int32) ((ea_i h a6 2) : Int32) h) : Int64) h76) → ea_W mX1_goes d h0 rv hE 71 [(0, vR (some (b0 + 32))), (1, vI x1), (2, vI x2), (3, vI x3), (4, vI x4), (5, vI x5), (6, vI x6), (7, vI (x7 + 1))] [] h88))))) : ea_W mX1_goes d h0 rv hE 71 [(0, vR (some (b0 + 32))), (1, vI x1), (2, vI x2), (3, vI x3), (4, vI x4), (5, vI x5), (6, vI x6), (7, vI x7)] [] h := by
  refine ea_iload (pc := 71) dX1_goes_71 7 rfl ?_
  refine ea_aload_n (pc := 73) dX1_goes_73 rfl 0 rfl ?_
  refine ea_getI (pc := 74) dX1_goes_74 ec_1 (k := 0) (Nat.le_of_ble_eq_true rfl) rfl (Or.inl ew_359) (hs_h.1 32 (by decide)).1 (hs_h.1 32 (by decide)).2.1 ?_
  refine ea_icmp_ge (pc := 77) (tgt := 162) dX1_goes_77 rfl (fun c96 => ?_) (fun c96 => ?_)
  · have H := H.1 c96
    exact ea_fewer [0, 3, 4, 5] rfl H
  · have H := H.2 c96
    refine ea_aload_n (pc := 80) dX1_goes_80 rfl 0 rfl ?_
    refine ea_getR (pc := 81) dX1_goes_81 ec_1 (k := 1) (Nat.le_of_ble_eq_true rfl) rfl (Or.inl ew_361) (hs_h.1 32 (by decide)).1 (hs_h.1 32 (by decide)).2.1 (hs_h.2 32 1 rfl) ?_
    refine ea_iload (pc := 84) dX1_goes_84 7 rfl ?_
    obtain ⟨z1, H⟩ := H
    refine ea_iald (pc := 86) dX1_goes_86 (hs_h.1 33 (by decide)).1 (hs_h.1 33 (by decide)).2.1 (ea_vpl (hs_h.1 33 (by decide)).2.2 z1) ?_
    refine ea_if_ne (pc := 87) (tgt := 156) dX1_goes_87 rfl (fun c95 => ?_) (fun c95 => ?_)
    · have H := H.1 c95
      refine ea_iinc (pc := 156) (v := 1) (lv' := [(0, vR (some (b0 + 32))), (1, vI x1), (2, vI x2), (3, vI x3), (4, vI x4), (5, vI x5), (6, vI x6), (7, vI (x7 + 1))]) dX1_goes_156 7 rfl rfl (Nat.le_of_ble_eq_true rfl) [1, 2, 3, 4, 5, 6, 7, 0] rfl ?_
      refine ea_goto (pc := 159) (tgt := 71) dX1_goes_159 rfl ?_
      exact H
    · have H := H.2 c95
      refine ea_aload_n (pc := 90) dX1_goes_90 rfl 0 rfl ?_
      refine ea_getR (pc := 91) dX1_goes_91 ec_1 (k := 2) (Nat.le_of_ble_eq_true rfl) rfl (Or.inl ew_363) (hs_h.1 32 (by decide)).1 (hs_h.1 32 (by decide)).2.1 (hs_h.2 32 2 rfl) ?_
      refine ea_iload (pc := 94) dX1_goes_94 7 rfl ?_
      obtain ⟨z2, H⟩ := H
      refine ea_iald (pc := 96) dX1_goes_96 (hs_h.1 34 (by decide)).1 (hs_h.1 34 (by decide)).2.1 (ea_vpl (hs_h.1 34 (by decide)).2.2 z2) ?_
      refine ea_iload (pc := 97) dX1_goes_97 6 rfl ?_
      refine ea_icmp_ne (pc := 99) (tgt := 156) dX1_goes_99 rfl (fun c94 => ?_) (fun c94 => ?_)
      · have H := H.1 c94
        refine ea_iinc (pc := 156) (v := 1) (lv' := [(0, vR (some (b0 + 32))), (1, vI x1), (2, vI x2), (3, vI x3), (4, vI x4), (5, vI x5), (6, vI x6), (7, vI (x7 + 1))]) dX1_goes_156 7 rfl rfl (Nat.le_of_ble_eq_true rfl) [1, 2, 3, 4, 5, 6, 7, 0] rfl ?_
        refine ea_goto (pc := 159) (tgt := 71) dX1_goes_159 rfl ?_
        exact H
      · have H := H.2 c94
        refine ea_aload_n (pc := 102) dX1_goes_102 rfl 0 rfl ?_
        refine ea_getR (pc := 103) dX1_goes_103 ec_1 (k := 12) (Nat.le_of_ble_eq_true rfl) rfl (Or.inl ew_378) (hs_h.1 32 (by decide)).1 (hs_h.1 32 (by decide)).2.1 (hs_h.2 32 12 rfl) ?_
        refine ea_iload (pc := 106) dX1_goes_106 5 rfl ?_
        refine ea_iload (pc := 108) dX1_goes_108 4 rfl ?_
        refine ea_aload_n (pc := 110) dX1_goes_110 rfl 0 rfl ?_
        refine ea_getR (pc := 111) dX1_goes_111 ec_1 (k := 14) (Nat.le_of_ble_eq_true rfl) rfl (Or.inl ew_380) (hs_h.1 32 (by decide)).1 (hs_h.1 32 (by decide)).2.1 (hs_h.2 32 14 rfl) ?_
        refine ea_iload (pc := 114) dX1_goes_114 7 rfl ?_
        obtain ⟨z3, H⟩ := H
        refine ea_aald23 (pc := 116) dX1_goes_116 (hs_h.1 31 (by decide)).1 (hs_h.1 31 (by decide)).2.1 (ea_vpl (hs_h.1 31 (by decide)).2.2 z3) rfl ?_
        obtain ⟨a6, e7, f4, g5, H⟩ := H
        refine ea_deref0 e7 ?_
        refine ea_getI (pc := 117) dX1_goes_117 ec_4 (k := 2) (Nat.le_of_ble_eq_true rfl) rfl (Or.inl ew_939) f4 g5 ?_
        obtain ⟨z93, H⟩ := H
        refine ea_callV (pc := 120) (d' := d - 1) (As := [vI x5, vI x4, vI (ea_i h a6 2)]) (st := []) dX1_goes_120 kX10_bestAtGoing (sX10_bestAtGoing (d := d - 1) (by omega) hs_h z93) (by omega) rfl (Nat.le_of_ble_eq_true rfl) ew_673 ew_674 ew_675 (ci := 10) rfl (by decide) (hs_h.1 13 (by decide)).1 (hs_h.1 13 (by decide)).2.1 ?_
        refine ea_lstore (pc := 123) (lv' := [(0, vR (some (b0 + 32))), (1, vI x1), (2, vI x2), (3, vI x3), (4, vI x4), (5, vI x5), (6, vI x6), (7, vI x7), (8, vJ (vX10_bestAtGoing b0 (x5 : Int32) (x4 : Int32) ((ea_i h a6 2) : Int32) h))]) dX1_goes_123 (Nat.le_of_ble_eq_true rfl) [1, 2, 3, 4, 5, 6, 7, 8, 0] rfl ?_
        refine ea_lload (pc := 125) dX1_goes_125 8 rfl ?_
        refine ea_iload_n (pc := 127) dX1_goes_127 rfl 1 rfl ?_
        refine ea_callS (pc := 128) (d' := d - 1) (As := [vJ (vX10_bestAtGoing b0 (x5 : Int32) (x4 : Int32) ((ea_i h a6 2) : Int32) h), vI x1]) (st := []) dX1_goes_128 kX10_begins (sX10_begins (d := d - 1) (by omega)) (by omega) rfl (Nat.le_of_ble_eq_true rfl) ew_677 ew_678 ?_
        refine ea_if_eq (pc := 131) (tgt := 156) dX1_goes_131 rfl (fun c91 => ?_) (fun c91 => ?_)
        · have H := H.1 c91
          refine ea_iinc (pc := 156) (v := 1) (lv' := [(0, vR (some (b0 + 32))), (1, vI x1), (2, vI x2), (3, vI x3), (4, vI x4), (5, vI x5), (6, vI x6), (7, vI (x7 + 1))]) dX1_goes_156 7 rfl rfl (Nat.le_of_ble_eq_true rfl) [1, 2, 3, 4, 5, 6, 7, 0] rfl ?_
          refine ea_goto (pc := 159) (tgt := 71) dX1_goes_159 rfl ?_
          exact H
        · have H := H.2 c91
          refine ea_aload_n (pc := 134) dX1_goes_134 rfl 0 rfl ?_
          refine ea_iload (pc := 135) dX1_goes_135 7 rfl ?_
          refine ea_iload_n (pc := 137) dX1_goes_137 rfl 2 rfl ?_
          refine ea_iconst (pc := 138) dX1_goes_138 (v := 1) rfl ?_
          refine ea_iload (pc := 139) dX1_goes_139 5 rfl ?_
          obtain ⟨d75, h76, m77, q78, hs_h76, H⟩ := H
          refine ea_callV (pc := 141) (As := [vI x7, vI x2, vI 1, vI x5]) (st := []) dX1_goes_141 kX1_move m77 q78 rfl (Nat.le_of_ble_eq_true rfl) ew_645 ew_646 ew_647 (ci := 1) rfl (by decide) (hs_h.1 32 (by decide)).1 (hs_h.1 32 (by decide)).2.1 ?_
          refine ea_aload_n (pc := 144) dX1_goes_144 rfl 0 rfl ?_
          refine ea_getR (pc := 145) dX1_goes_145 ec_1 (k := 3) (Nat.le_of_ble_eq_true rfl) rfl (Or.inl ew_365) (hs_h76.1 32 (by decide)).1 (hs_h76.1 32 (by decide)).2.1 (hs_h76.2 32 3 rfl) ?_
          refine ea_iload (pc := 148) dX1_goes_148 7 rfl ?_
          refine ea_lload (pc := 150) dX1_goes_150 8 rfl ?_
          refine ea_callS (pc := 152) (d' := d - 1) (As := [vJ (vX10_bestAtGoing b0 (x5 : Int32) (x4 : Int32) ((ea_i h a6 2) : Int32) h)]) (st := [vI x7, vR (some (b0 + 35))]) dX1_goes_152 kX10_leftOf (sX10_leftOf (d := d - 1) (by omega)) (by omega) rfl (Nat.le_of_ble_eq_true rfl) ew_689 ew_690 ?_
          obtain ⟨z87, H⟩ := H
          refine ea_iast (pc := 155) dX1_goes_155 (hs_h76.1 35 (by decide)).1 (hs_h76.1 35 (by decide)).2.1 (ea_vpl (hs_h76.1 35 (by decide)).2.2 z87) ?_
          obtain ⟨h88, E89⟩ : ∃ z, z = ea_wi h76 (b0 + 35) (Int32.toNatClampNeg x7) (vX10_leftOf ((vX10_bestAtGoing b0 (x5 : Int32) (x4 : Int32) ((ea_i h a6 2) : Int32) h) : Int64) h76) := ⟨_, rfl⟩
          have H := H h88 E89
          refine ea_nm E89 ?_
          have hs_h88 : ShC b0 h88 := by rw [E89]; exact ShC_wi hs_h76
          refine ea_iinc (pc := 156) (v := 1) (lv' := [(0, vR (some (b0 + 32))), (1, vI x1), (2, vI x2), (3, vI x3), (4, vI x4), (5, vI x5), (6, vI x6), (7, vI (x7 + 1))]) dX1_goes_156 7 rfl rfl (Nat.le_of_ble_eq_true rfl) [1, 2, 3, 4, 5, 6, 7, 0] rfl ?_
          refine ea_goto (pc := 159) (tgt := 71) dX1_goes_159 rfl ?_
          exact H
theorem pX1_goes_at32_162 {d b0 : Nat} {h0 hE h : ea_H} {rv : Option ea_V} {x3 : Int32} {x4 : Int32} {x5 : Int32} (hd : 3 ≤ d) (hs_h : ShC b0 h) (H : vp_in x5 70 ∧ ((ea_i h (b0 + 41) (Int32.toNatClampNeg x5)) ≤ (0 : Int32) → rv = none ∧ hE = h) ∧ (¬ (ea_i h (b0 + 41) (Int32.toNatClampNeg x5)) ≤ (0 : Int32) → ∃ (d2 : Nat) (xc6 : Int32) (h3 : ea_H), ea_Met mX3_sitsIn d2 [vR (some (b0 + 16)), vI x3] h (some (vI xc6)) h3 ∧ d2 + 1 ≤ d ∧ ShC b0 h3 ∧ (xc6 = (0 : Int32) → rv = none ∧ hE = h3) ∧ (¬ xc6 = (0 : Int32) → ∃ (d7 : Nat) (h8 : ea_H), ea_Met mX1_sort d7 [vR (some (b0 + 32)), vI x5, vI x3, vI x4] h3 none h8 ∧ d7 + 1 ≤ d ∧ ShC b0 h8 ∧ rv = none ∧ hE = h8))) : ea_W mX1_goes d h0 rv hE 162 [(0, vR (some (b0 + 32))), (3, vI x3), (4, vI x4), (5, vI x5)] [] h := by
  refine ea_aload_n (pc := 162) dX1_goes_162 rfl 0 rfl ?_
  refine ea_getR (pc := 163) dX1_goes_163 ec_1 (k := 9) (Nat.le_of_ble_eq_true rfl) rfl (Or.inl ew_375) (hs_h.1 32 (by decide)).1 (hs_h.1 32 (by decide)).2.1 (hs_h.2 32 9 rfl) ?_
  refine ea_iload (pc := 166) dX1_goes_166 3 rfl ?_
  obtain ⟨z1, H⟩ := H
  refine ea_iald (pc := 168) dX1_goes_168 (hs_h.1 41 (by decide)).1 (hs_h.1 41 (by decide)).2.1 (ea_vpl (hs_h.1 41 (by decide)).2.2 z1) ?_
  refine ea_if_le (pc := 169) (tgt := 192) dX1_goes_169 rfl (fun c12 => ?_) (fun c12 => ?_)
  · have H := H.1 c12
    obtain ⟨rfl, rfl⟩ := H
    exact ea_return (pc := 192) dX1_goes_192 rfl
  · have H := H.2 c12
    refine ea_aload_n (pc := 172) dX1_goes_172 rfl 0 rfl ?_
    refine ea_getR (pc := 173) dX1_goes_173 ec_1 (k := 13) (Nat.le_of_ble_eq_true rfl) rfl (Or.inl ew_379) (hs_h.1 32 (by decide)).1 (hs_h.1 32 (by decide)).2.1 (hs_h.2 32 13 rfl) ?_
    refine ea_iload_n (pc := 176) dX1_goes_176 rfl 1 rfl ?_
    obtain ⟨d2, xc6, h3, m4, q5, hs_h3, H⟩ := H
    refine ea_callV (pc := 177) (As := [vI x3]) (st := []) dX1_goes_177 kX3_sitsIn m4 q5 rfl (Nat.le_of_ble_eq_true rfl) ew_692 ew_693 ew_694 (ci := 3) rfl (by decide) (hs_h.1 16 (by decide)).1 (hs_h.1 16 (by decide)).2.1 ?_
    refine ea_if_eq (pc := 180) (tgt := 192) dX1_goes_180 rfl (fun c11 => ?_) (fun c11 => ?_)
    · have H := H.1 c11
      obtain ⟨rfl, rfl⟩ := H
      exact ea_return (pc := 192) dX1_goes_192 rfl
    · have H := H.2 c11
      refine ea_aload_n (pc := 183) dX1_goes_183 rfl 0 rfl ?_
      refine ea_iload (pc := 184) dX1_goes_184 3 rfl ?_
      refine ea_iload_n (pc := 186) dX1_goes_186 rfl 1 rfl ?_
      refine ea_iload (pc := 187) dX1_goes_187 2 rfl ?_
      obtain ⟨d7, h8, m9, q10, hs_h8, H⟩ := H
      refine ea_callV (pc := 189) (As := [vI x5, vI x3, vI x4]) (st := []) dX1_goes_189 kX1_sort m9 q10 rfl (Nat.le_of_ble_eq_true rfl) ew_696 ew_698 ew_13 (ci := 1) rfl (by decide) (hs_h3.1 32 (by decide)).1 (hs_h3.1 32 (by decide)).2.1 ?_
      obtain ⟨rfl, rfl⟩ := H
      exact ea_return (pc := 192) dX1_goes_192 rfl
theorem pX1_goes_at42_0 {d b0 : Nat} {h0 hE h : ea_H} {rv : Option ea_V} {x1 : Int32} {x2 : Int32} (hd : 3 ≤ d) (hs_h : ShC b0 h) (H : vp_in (((8 : Int32) * (vX10_trainIn (x1 : Int32) h)) + (vX10_stopIn (x1 : Int32) h)) 80 ∧ vp_in (ea_i h (b0 + 7) (Int32.toNatClampNeg (((8 : Int32) * (vX10_trainIn (x1 : Int32) h)) + (vX10_stopIn (x1 : Int32) h)))) 12 ∧ ((ea_i h (b0 + 50) (Int32.toNatClampNeg (ea_i h (b0 + 7) (Int32.toNatClampNeg (((8 : Int32) * (vX10_trainIn (x1 : Int32) h)) + (vX10_stopIn (x1 : Int32) h)))))) ≤ (0 : Int32) → ea_W mX1_goes d h0 rv hE 162 [(0, vR (some (b0 + 42))), (3, vI (vX10_trainIn (x1 : Int32) h)), (4, vI (vX10_stopIn (x1 : Int32) h)), (5, vI (((10 : Int32) * (vX10_dayIn (x1 : Int32) h)) + (vX10_trainIn (x1 : Int32) h)))] [] h) ∧ (¬ (ea_i h (b0 + 50) (Int32.toNatClampNeg (ea_i h (b0 + 7) (Int32.toNatClampNeg (((8 : Int32) * (vX10_trainIn (x1 : Int32) h)) + (vX10_stopIn (x1 : Int32) h)))))) ≤ (0 : Int32) → vp_in (((8 : Int32) * (((10 : Int32) * (vX10_dayIn (x1 : Int32) h)) + (vX10_trainIn (x1 : Int32) h))) + (vX10_stopIn (x1 : Int32) h)) 560 ∧ (¬ (ea_i h (b0 + 12) (Int32.toNatClampNeg (((8 : Int32) * (((10 : Int32) * (vX10_dayIn (x1 : Int32) h)) + (vX10_trainIn (x1 : Int32) h))) + (vX10_stopIn (x1 : Int32) h)))) = (0 : Int32) → ea_W mX1_goes d h0 rv hE 162 [(0, vR (some (b0 + 42))), (3, vI (vX10_trainIn (x1 : Int32) h)), (4, vI (vX10_stopIn (x1 : Int32) h)), (5, vI (((10 : Int32) * (vX10_dayIn (x1 : Int32) h)) + (vX10_trainIn (x1 : Int32) h)))] [] h) ∧ ((ea_i h (b0 + 12) (Int32.toNatClampNeg (((8 : Int32) * (((10 : Int32) * (vX10_dayIn (x1 : Int32) h)) + (vX10_trainIn (x1 : Int32) h))) + (vX10_stopIn (x1 : Int32) h)))) = (0 : Int32) → ea_W mX1_goes d h0 rv hE 71 [(0, vR (some (b0 + 42))), (1, vI x1), (2, vI x2), (3, vI (vX10_trainIn (x1 : Int32) h)), (4, vI (vX10_stopIn (x1 : Int32) h)), (5, vI (((10 : Int32) * (vX10_dayIn (x1 : Int32) h)) + (vX10_trainIn (x1 : Int32) h))), (6, vI (ea_i h (b0 + 7) (Int32.toNatClampNeg (((8 : Int32) * (vX10_trainIn (x1 : Int32) h)) + (vX10_stopIn (x1 : Int32) h))))), (7, vI 0)] [] h))) : ea_W mX1_goes d h0 rv hE 0 [(0, vR (some (b0 + 42))), (1, vI x1), (2, vI x2)] [] h := by
  refine ea_iload_n (pc := 0) dX1_goes_0 rfl 1 rfl ?_
  refine ea_callS (pc := 1) (d' := d - 1) (As := [vI x1]) (st := []) dX1_goes_1 kX10_trainIn (sX10_trainIn (d := d - 1) (by omega)) (by omega) rfl (Nat.le_of_ble_eq_true rfl) ew_670 ew_597 ?_
  refine ea_istore_n (pc := 4) (lv' := [(0, vR (some (b0 + 42))), (1, vI x1), (2, vI x2), (3, vI (vX10_trainIn (x1 : Int32) h))]) dX1_goes_4 rfl (Nat.le_of_ble_eq_true rfl) [1, 2, 3, 0] rfl ?_
  refine ea_iload_n (pc := 5) dX1_goes_5 rfl 1 rfl ?_
  refine ea_callS (pc := 6) (d' := d - 1) (As := [vI x1]) (st := []) dX1_goes_6 kX10_stopIn (sX10_stopIn (d := d - 1) (by omega)) (by omega) rfl (Nat.le_of_ble_eq_true rfl) ew_671 ew_600 ?_
  refine ea_istore (pc := 9) (lv' := [(0, vR (some (b0 + 42))), (1, vI x1), (2, vI x2), (3, vI (vX10_trainIn (x1 : Int32) h)), (4, vI (vX10_stopIn (x1 : Int32) h))]) dX1_goes_9 (Nat.le_of_ble_eq_true rfl) [1, 2, 3, 4, 0] rfl ?_
  refine ea_bipush (pc := 11) dX1_goes_11 (v := 10) rfl ?_
  refine ea_iload_n (pc := 13) dX1_goes_13 rfl 1 rfl ?_
  refine ea_callS (pc := 14) (d' := d - 1) (As := [vI x1]) (st := [vI 10]) dX1_goes_14 kX10_dayIn (sX10_dayIn (d := d - 1) (by omega)) (by omega) rfl (Nat.le_of_ble_eq_true rfl) ew_672 ew_609 ?_
  refine ea_imul (pc := 17) dX1_goes_17 ?_
  refine ea_iload_n (pc := 18) dX1_goes_18 rfl 3 rfl ?_
  refine ea_iadd (pc := 19) dX1_goes_19 ?_
  refine ea_istore (pc := 20) (lv' := [(0, vR (some (b0 + 42))), (1, vI x1), (2, vI x2), (3, vI (vX10_trainIn (x1 : Int32) h)), (4, vI (vX10_stopIn (x1 : Int32) h)), (5, vI (((10 : Int32) * (vX10_dayIn (x1 : Int32) h)) + (vX10_trainIn (x1 : Int32) h)))]) dX1_goes_20 (Nat.le_of_ble_eq_true rfl) [1, 2, 3, 4, 5, 0] rfl ?_
  refine ea_aload_n (pc := 22) dX1_goes_22 rfl 0 rfl ?_
  refine ea_getR (pc := 23) dX1_goes_23 ec_1 (k := 11) (Nat.le_of_ble_eq_true rfl) rfl (Or.inl ew_377) (hs_h.1 42 (by decide)).1 (hs_h.1 42 (by decide)).2.1 (hs_h.2 42 11 rfl) ?_
  refine ea_getR (pc := 26) dX1_goes_26 ec_9 (k := 2) (Nat.le_of_ble_eq_true rfl) rfl (Or.inl ew_186) (hs_h.1 5 (by decide)).1 (hs_h.1 5 (by decide)).2.1 (hs_h.2 5 2 rfl) ?_
  refine ea_bipush (pc := 29) dX1_goes_29 (v := 8) rfl ?_
  refine ea_iload_n (pc := 31) dX1_goes_31 rfl 3 rfl ?_
  refine ea_imul (pc := 32) dX1_goes_32 ?_
  refine ea_iload (pc := 33) dX1_goes_33 4 rfl ?_
  refine ea_iadd (pc := 35) dX1_goes_35 ?_
  obtain ⟨z75, H⟩ := H
  refine ea_iald (pc := 36) dX1_goes_36 (hs_h.1 7 (by decide)).1 (hs_h.1 7 (by decide)).2.1 (ea_vpl (hs_h.1 7 (by decide)).2.2 z75) ?_
  refine ea_istore (pc := 37) (lv' := [(0, vR (some (b0 + 42))), (1, vI x1), (2, vI x2), (3, vI (vX10_trainIn (x1 : Int32) h)), (4, vI (vX10_stopIn (x1 : Int32) h)), (5, vI (((10 : Int32) * (vX10_dayIn (x1 : Int32) h)) + (vX10_trainIn (x1 : Int32) h))), (6, vI (ea_i h (b0 + 7) (Int32.toNatClampNeg (((8 : Int32) * (vX10_trainIn (x1 : Int32) h)) + (vX10_stopIn (x1 : Int32) h)))))]) dX1_goes_37 (Nat.le_of_ble_eq_true rfl) [1, 2, 3, 4, 5, 6, 0] rfl ?_
  refine ea_aload_n (pc := 39) dX1_goes_39 rfl 0 rfl ?_
  refine ea_getR (pc := 40) dX1_goes_40 ec_1 (k := 8) (Nat.le_of_ble_eq_true rfl) rfl (Or.inl ew_374) (hs_h.1 42 (by decide)).1 (hs_h.1 42 (by decide)).2.1 (hs_h.2 42 8 rfl) ?_
  refine ea_iload (pc := 43) dX1_goes_43 6 rfl ?_
  obtain ⟨z76, H⟩ := H
  refine ea_iald (pc := 45) dX1_goes_45 (hs_h.1 50 (by decide)).1 (hs_h.1 50 (by decide)).2.1 (ea_vpl (hs_h.1 50 (by decide)).2.2 z76) ?_
  refine ea_if_le (pc := 46) (tgt := 162) dX1_goes_46 rfl (fun c79 => ?_) (fun c79 => ?_)
  · have H := H.1 c79
    exact ea_fewer [0, 3, 4, 5] rfl H
  · have H := H.2 c79
    refine ea_aload_n (pc := 49) dX1_goes_49 rfl 0 rfl ?_
    refine ea_getR (pc := 50) dX1_goes_50 ec_1 (k := 11) (Nat.le_of_ble_eq_true rfl) rfl (Or.inl ew_377) (hs_h.1 42 (by decide)).1 (hs_h.1 42 (by decide)).2.1 (hs_h.2 42 11 rfl) ?_
    refine ea_getR (pc := 53) dX1_goes_53 ec_9 (k := 7) (Nat.le_of_ble_eq_true rfl) rfl (Or.inl ew_200) (hs_h.1 5 (by decide)).1 (hs_h.1 5 (by decide)).2.1 (hs_h.2 5 7 rfl) ?_
    refine ea_bipush (pc := 56) dX1_goes_56 (v := 8) rfl ?_
    refine ea_iload (pc := 58) dX1_goes_58 5 rfl ?_
    refine ea_imul (pc := 60) dX1_goes_60 ?_
    refine ea_iload (pc := 61) dX1_goes_61 4 rfl ?_
    refine ea_iadd (pc := 63) dX1_goes_63 ?_
    obtain ⟨z77, H⟩ := H
    refine ea_zald (pc := 64) dX1_goes_64 (hs_h.1 12 (by decide)).1 (hs_h.1 12 (by decide)).2.1 (ea_vpl (hs_h.1 12 (by decide)).2.2 z77) ?_
    refine ea_if_ne (pc := 65) (tgt := 162) dX1_goes_65 rfl (fun c78 => ?_) (fun c78 => ?_)
    · have H := H.1 c78
      exact ea_fewer [0, 3, 4, 5] rfl H
    · have H := H.2 c78
      refine ea_iconst (pc := 68) dX1_goes_68 (v := 0) rfl ?_
      refine ea_istore (pc := 69) (lv' := [(0, vR (some (b0 + 42))), (1, vI x1), (2, vI x2), (3, vI (vX10_trainIn (x1 : Int32) h)), (4, vI (vX10_stopIn (x1 : Int32) h)), (5, vI (((10 : Int32) * (vX10_dayIn (x1 : Int32) h)) + (vX10_trainIn (x1 : Int32) h))), (6, vI (ea_i h (b0 + 7) (Int32.toNatClampNeg (((8 : Int32) * (vX10_trainIn (x1 : Int32) h)) + (vX10_stopIn (x1 : Int32) h))))), (7, vI 0)]) dX1_goes_69 (Nat.le_of_ble_eq_true rfl) [1, 2, 3, 4, 5, 6, 7, 0] rfl ?_
      exact H
theorem pX1_goes_at42_71 {d b0 : Nat} {h0 hE h : ea_H} {rv : Option ea_V} {x1 : Int32} {x2 : Int32} {x3 : Int32} {x4 : Int32} {x5 : Int32} {x6 : Int32} {x7 : Int32} (hd : 3 ≤ d) (hs_h : ShC b0 h) (H : ((ea_i h (b0 + 42) 0) ≤ x7 → ea_W mX1_goes d h0 rv hE 162 [(0, vR (some (b0 + 42))), (3, vI x3), (4, vI x4), (5, vI x5)] [] h) ∧ (¬ (ea_i h (b0 + 42) 0) ≤ x7 → vp_in x7 120 ∧ (¬ (ea_i h (b0 + 43) (Int32.toNatClampNeg x7)) = (0 : Int32) → ea_W mX1_goes d h0 rv hE 71 [(0, vR (some (b0 + 42))), (1, vI x1), (2, vI x2), (3, vI x3), (4, vI x4), (5, vI x5), (6, vI x6), (7, vI (x7 + 1))] [] h) ∧ ((ea_i h (b0 + 43) (Int32.toNatClampNeg x7)) = (0 : Int32) → vp_in x7 120 ∧ (¬ (ea_i h (b0 + 44) (Int32.toNatClampNeg x7)) = x6 → ea_W mX1_goes d h0 rv hE 71 [(0, vR (some (b0 + 42))), (1, vI x1), (2, vI x2), (3, vI x3), (4, vI x4), (5, vI x5), (6, vI x6), (7, vI (x7 + 1))] [] h) ∧ ((ea_i h (b0 + 44) (Int32.toNatClampNeg x7)) = x6 → vp_in x7 120 ∧ ∃ a6, (ea_r h (b0 + 31) (Int32.toNatClampNeg x7)) = some a6 ∧ a6 < ea_n h ∧ ea_c h a6 = 4 ∧ (okX10_bestAtGoing b0 (x5 : Int32) (x4 : Int32) ((ea_i h a6 2) : Int32) h) ∧ ((vX10_begins ((vX10_bestAtGoing b0 (x5 : Int32) (x4 : Int32) ((ea_i h a6 2) : Int32) h) : Int64) (x1 : Int32) h) = (0 : Int32) → ea_W mX1_goes d h0 rv hE 71 [(0, vR (some (b0 + 42))), (1, vI x1), (2, vI x2), (3, vI x3), (4, vI x4), (5, vI x5), (6, vI x6), (7, vI (x7 + 1))] [] h) ∧ (¬ (vX10_begins ((vX10_bestAtGoing b0 (x5 : Int32) (x4 : Int32) ((ea_i h a6 2) : Int32) h) : Int64) (x1 : Int32) h) = (0 : Int32) → ∃ (d75 : Nat) (h76 : ea_H), ea_Met mX1_move d75 [vR (some (b0 + 42)), vI x7, vI x2, vI 1, vI x5] h none h76 ∧ d75 + 1 ≤ d ∧ ShC b0 h76 ∧ vp_in x7 120 ∧ ∀ h88, h88 = ea_wi h76 (b0 + 45) (Int32.toNatClampNeg x7) (vX10_leftOf ((vX10_bestAtGoing b0 (x5 : Int32) (x4 : Int32) ((ea_i h a6 2) : Int32) h) : Int64) h76) → ea_W mX1_goes d h0 rv hE 71 [(0, vR (some (b0 + 42))), (1, vI x1), (2, vI x2), (3, vI x3), (4, vI x4), (5, vI x5), (6, vI x6), (7, vI (x7 + 1))] [] h88))))) : ea_W mX1_goes d h0 rv hE 71 [(0, vR (some (b0 + 42))), (1, vI x1), (2, vI x2), (3, vI x3), (4, vI x4), (5, vI x5), (6, vI x6), (7, vI x7)] [] h := by
  refine ea_iload (pc := 71) dX1_goes_71 7 rfl ?_
  refine ea_aload_n (pc := 73) dX1_goes_73 rfl 0 rfl ?_
  refine ea_getI (pc := 74) dX1_goes_74 ec_1 (k := 0) (Nat.le_of_ble_eq_true rfl) rfl (Or.inl ew_359) (hs_h.1 42 (by decide)).1 (hs_h.1 42 (by decide)).2.1 ?_
  refine ea_icmp_ge (pc := 77) (tgt := 162) dX1_goes_77 rfl (fun c96 => ?_) (fun c96 => ?_)
  · have H := H.1 c96
    exact ea_fewer [0, 3, 4, 5] rfl H
  · have H := H.2 c96
    refine ea_aload_n (pc := 80) dX1_goes_80 rfl 0 rfl ?_
    refine ea_getR (pc := 81) dX1_goes_81 ec_1 (k := 1) (Nat.le_of_ble_eq_true rfl) rfl (Or.inl ew_361) (hs_h.1 42 (by decide)).1 (hs_h.1 42 (by decide)).2.1 (hs_h.2 42 1 rfl) ?_
    refine ea_iload (pc := 84) dX1_goes_84 7 rfl ?_
    obtain ⟨z1, H⟩ := H
    refine ea_iald (pc := 86) dX1_goes_86 (hs_h.1 43 (by decide)).1 (hs_h.1 43 (by decide)).2.1 (ea_vpl (hs_h.1 43 (by decide)).2.2 z1) ?_
    refine ea_if_ne (pc := 87) (tgt := 156) dX1_goes_87 rfl (fun c95 => ?_) (fun c95 => ?_)
    · have H := H.1 c95
      refine ea_iinc (pc := 156) (v := 1) (lv' := [(0, vR (some (b0 + 42))), (1, vI x1), (2, vI x2), (3, vI x3), (4, vI x4), (5, vI x5), (6, vI x6), (7, vI (x7 + 1))]) dX1_goes_156 7 rfl rfl (Nat.le_of_ble_eq_true rfl) [1, 2, 3, 4, 5, 6, 7, 0] rfl ?_
      refine ea_goto (pc := 159) (tgt := 71) dX1_goes_159 rfl ?_
      exact H
    · have H := H.2 c95
      refine ea_aload_n (pc := 90) dX1_goes_90 rfl 0 rfl ?_
      refine ea_getR (pc := 91) dX1_goes_91 ec_1 (k := 2) (Nat.le_of_ble_eq_true rfl) rfl (Or.inl ew_363) (hs_h.1 42 (by decide)).1 (hs_h.1 42 (by decide)).2.1 (hs_h.2 42 2 rfl) ?_
      refine ea_iload (pc := 94) dX1_goes_94 7 rfl ?_
      obtain ⟨z2, H⟩ := H
      refine ea_iald (pc := 96) dX1_goes_96 (hs_h.1 44 (by decide)).1 (hs_h.1 44 (by decide)).2.1 (ea_vpl (hs_h.1 44 (by decide)).2.2 z2) ?_
      refine ea_iload (pc := 97) dX1_goes_97 6 rfl ?_
      refine ea_icmp_ne (pc := 99) (tgt := 156) dX1_goes_99 rfl (fun c94 => ?_) (fun c94 => ?_)
      · have H := H.1 c94
        refine ea_iinc (pc := 156) (v := 1) (lv' := [(0, vR (some (b0 + 42))), (1, vI x1), (2, vI x2), (3, vI x3), (4, vI x4), (5, vI x5), (6, vI x6), (7, vI (x7 + 1))]) dX1_goes_156 7 rfl rfl (Nat.le_of_ble_eq_true rfl) [1, 2, 3, 4, 5, 6, 7, 0] rfl ?_
        refine ea_goto (pc := 159) (tgt := 71) dX1_goes_159 rfl ?_
        exact H
      · have H := H.2 c94
        refine ea_aload_n (pc := 102) dX1_goes_102 rfl 0 rfl ?_
        refine ea_getR (pc := 103) dX1_goes_103 ec_1 (k := 12) (Nat.le_of_ble_eq_true rfl) rfl (Or.inl ew_378) (hs_h.1 42 (by decide)).1 (hs_h.1 42 (by decide)).2.1 (hs_h.2 42 12 rfl) ?_
        refine ea_iload (pc := 106) dX1_goes_106 5 rfl ?_
        refine ea_iload (pc := 108) dX1_goes_108 4 rfl ?_
        refine ea_aload_n (pc := 110) dX1_goes_110 rfl 0 rfl ?_
        refine ea_getR (pc := 111) dX1_goes_111 ec_1 (k := 14) (Nat.le_of_ble_eq_true rfl) rfl (Or.inl ew_380) (hs_h.1 42 (by decide)).1 (hs_h.1 42 (by decide)).2.1 (hs_h.2 42 14 rfl) ?_
        refine ea_iload (pc := 114) dX1_goes_114 7 rfl ?_
        obtain ⟨z3, H⟩ := H
        refine ea_aald23 (pc := 116) dX1_goes_116 (hs_h.1 31 (by decide)).1 (hs_h.1 31 (by decide)).2.1 (ea_vpl (hs_h.1 31 (by decide)).2.2 z3) rfl ?_
        obtain ⟨a6, e7, f4, g5, H⟩ := H
        refine ea_deref0 e7 ?_
        refine ea_getI (pc := 117) dX1_goes_117 ec_4 (k := 2) (Nat.le_of_ble_eq_true rfl) rfl (Or.inl ew_939) f4 g5 ?_
        obtain ⟨z93, H⟩ := H
        refine ea_callV (pc := 120) (d' := d - 1) (As := [vI x5, vI x4, vI (ea_i h a6 2)]) (st := []) dX1_goes_120 kX10_bestAtGoing (sX10_bestAtGoing (d := d - 1) (by omega) hs_h z93) (by omega) rfl (Nat.le_of_ble_eq_true rfl) ew_673 ew_674 ew_675 (ci := 10) rfl (by decide) (hs_h.1 13 (by decide)).1 (hs_h.1 13 (by decide)).2.1 ?_
        refine ea_lstore (pc := 123) (lv' := [(0, vR (some (b0 + 42))), (1, vI x1), (2, vI x2), (3, vI x3), (4, vI x4), (5, vI x5), (6, vI x6), (7, vI x7), (8, vJ (vX10_bestAtGoing b0 (x5 : Int32) (x4 : Int32) ((ea_i h a6 2) : Int32) h))]) dX1_goes_123 (Nat.le_of_ble_eq_true rfl) [1, 2, 3, 4, 5, 6, 7, 8, 0] rfl ?_
        refine ea_lload (pc := 125) dX1_goes_125 8 rfl ?_
        refine ea_iload_n (pc := 127) dX1_goes_127 rfl 1 rfl ?_
        refine ea_callS (pc := 128) (d' := d - 1) (As := [vJ (vX10_bestAtGoing b0 (x5 : Int32) (x4 : Int32) ((ea_i h a6 2) : Int32) h), vI x1]) (st := []) dX1_goes_128 kX10_begins (sX10_begins (d := d - 1) (by omega)) (by omega) rfl (Nat.le_of_ble_eq_true rfl) ew_677 ew_678 ?_
        refine ea_if_eq (pc := 131) (tgt := 156) dX1_goes_131 rfl (fun c91 => ?_) (fun c91 => ?_)
        · have H := H.1 c91
          refine ea_iinc (pc := 156) (v := 1) (lv' := [(0, vR (some (b0 + 42))), (1, vI x1), (2, vI x2), (3, vI x3), (4, vI x4), (5, vI x5), (6, vI x6), (7, vI (x7 + 1))]) dX1_goes_156 7 rfl rfl (Nat.le_of_ble_eq_true rfl) [1, 2, 3, 4, 5, 6, 7, 0] rfl ?_
          refine ea_goto (pc := 159) (tgt := 71) dX1_goes_159 rfl ?_
          exact H
        · have H := H.2 c91
          refine ea_aload_n (pc := 134) dX1_goes_134 rfl 0 rfl ?_
          refine ea_iload (pc := 135) dX1_goes_135 7 rfl ?_
          refine ea_iload_n (pc := 137) dX1_goes_137 rfl 2 rfl ?_
          refine ea_iconst (pc := 138) dX1_goes_138 (v := 1) rfl ?_
          refine ea_iload (pc := 139) dX1_goes_139 5 rfl ?_
          obtain ⟨d75, h76, m77, q78, hs_h76, H⟩ := H
          refine ea_callV (pc := 141) (As := [vI x7, vI x2, vI 1, vI x5]) (st := []) dX1_goes_141 kX1_move m77 q78 rfl (Nat.le_of_ble_eq_true rfl) ew_645 ew_646 ew_647 (ci := 1) rfl (by decide) (hs_h.1 42 (by decide)).1 (hs_h.1 42 (by decide)).2.1 ?_
          refine ea_aload_n (pc := 144) dX1_goes_144 rfl 0 rfl ?_
          refine ea_getR (pc := 145) dX1_goes_145 ec_1 (k := 3) (Nat.le_of_ble_eq_true rfl) rfl (Or.inl ew_365) (hs_h76.1 42 (by decide)).1 (hs_h76.1 42 (by decide)).2.1 (hs_h76.2 42 3 rfl) ?_
          refine ea_iload (pc := 148) dX1_goes_148 7 rfl ?_
          refine ea_lload (pc := 150) dX1_goes_150 8 rfl ?_
          refine ea_callS (pc := 152) (d' := d - 1) (As := [vJ (vX10_bestAtGoing b0 (x5 : Int32) (x4 : Int32) ((ea_i h a6 2) : Int32) h)]) (st := [vI x7, vR (some (b0 + 45))]) dX1_goes_152 kX10_leftOf (sX10_leftOf (d := d - 1) (by omega)) (by omega) rfl (Nat.le_of_ble_eq_true rfl) ew_689 ew_690 ?_
          obtain ⟨z87, H⟩ := H
          refine ea_iast (pc := 155) dX1_goes_155 (hs_h76.1 45 (by decide)).1 (hs_h76.1 45 (by decide)).2.1 (ea_vpl (hs_h76.1 45 (by decide)).2.2 z87) ?_
          obtain ⟨h88, E89⟩ : ∃ z, z = ea_wi h76 (b0 + 45) (Int32.toNatClampNeg x7) (vX10_leftOf ((vX10_bestAtGoing b0 (x5 : Int32) (x4 : Int32) ((ea_i h a6 2) : Int32) h) : Int64) h76) := ⟨_, rfl⟩
          have H := H h88 E89
          refine ea_nm E89 ?_
          have hs_h88 : ShC b0 h88 := by rw [E89]; exact ShC_wi hs_h76
          refine ea_iinc (pc := 156) (v := 1) (lv' := [(0, vR (some (b0 + 42))), (1, vI x1), (2, vI x2), (3, vI x3), (4, vI x4), (5, vI x5), (6, vI x6), (7, vI (x7 + 1))]) dX1_goes_156 7 rfl rfl (Nat.le_of_ble_eq_true rfl) [1, 2, 3, 4, 5, 6, 7, 0] rfl ?_
          refine ea_goto (pc := 159) (tgt := 71) dX1_goes_159 rfl ?_
          exact H
theorem pX1_goes_at42_162 {d b0 : Nat} {h0 hE h : ea_H} {rv : Option ea_V} {x3 : Int32} {x4 : Int32} {x5 : Int32} (hd : 3 ≤ d) (hs_h : ShC b0 h) (H : vp_in x5 70 ∧ ((ea_i h (b0 + 51) (Int32.toNatClampNeg x5)) ≤ (0 : Int32) → rv = none ∧ hE = h) ∧ (¬ (ea_i h (b0 + 51) (Int32.toNatClampNeg x5)) ≤ (0 : Int32) → ∃ (d2 : Nat) (xc6 : Int32) (h3 : ea_H), ea_Met mX3_sitsIn d2 [vR (some (b0 + 16)), vI x3] h (some (vI xc6)) h3 ∧ d2 + 1 ≤ d ∧ ShC b0 h3 ∧ (xc6 = (0 : Int32) → rv = none ∧ hE = h3) ∧ (¬ xc6 = (0 : Int32) → ∃ (d7 : Nat) (h8 : ea_H), ea_Met mX1_sort d7 [vR (some (b0 + 42)), vI x5, vI x3, vI x4] h3 none h8 ∧ d7 + 1 ≤ d ∧ ShC b0 h8 ∧ rv = none ∧ hE = h8))) : ea_W mX1_goes d h0 rv hE 162 [(0, vR (some (b0 + 42))), (3, vI x3), (4, vI x4), (5, vI x5)] [] h := by
  refine ea_aload_n (pc := 162) dX1_goes_162 rfl 0 rfl ?_
  refine ea_getR (pc := 163) dX1_goes_163 ec_1 (k := 9) (Nat.le_of_ble_eq_true rfl) rfl (Or.inl ew_375) (hs_h.1 42 (by decide)).1 (hs_h.1 42 (by decide)).2.1 (hs_h.2 42 9 rfl) ?_
  refine ea_iload (pc := 166) dX1_goes_166 3 rfl ?_
  obtain ⟨z1, H⟩ := H
  refine ea_iald (pc := 168) dX1_goes_168 (hs_h.1 51 (by decide)).1 (hs_h.1 51 (by decide)).2.1 (ea_vpl (hs_h.1 51 (by decide)).2.2 z1) ?_
  refine ea_if_le (pc := 169) (tgt := 192) dX1_goes_169 rfl (fun c12 => ?_) (fun c12 => ?_)
  · have H := H.1 c12
    obtain ⟨rfl, rfl⟩ := H
    exact ea_return (pc := 192) dX1_goes_192 rfl
  · have H := H.2 c12
    refine ea_aload_n (pc := 172) dX1_goes_172 rfl 0 rfl ?_
    refine ea_getR (pc := 173) dX1_goes_173 ec_1 (k := 13) (Nat.le_of_ble_eq_true rfl) rfl (Or.inl ew_379) (hs_h.1 42 (by decide)).1 (hs_h.1 42 (by decide)).2.1 (hs_h.2 42 13 rfl) ?_
    refine ea_iload_n (pc := 176) dX1_goes_176 rfl 1 rfl ?_
    obtain ⟨d2, xc6, h3, m4, q5, hs_h3, H⟩ := H
    refine ea_callV (pc := 177) (As := [vI x3]) (st := []) dX1_goes_177 kX3_sitsIn m4 q5 rfl (Nat.le_of_ble_eq_true rfl) ew_692 ew_693 ew_694 (ci := 3) rfl (by decide) (hs_h.1 16 (by decide)).1 (hs_h.1 16 (by decide)).2.1 ?_
    refine ea_if_eq (pc := 180) (tgt := 192) dX1_goes_180 rfl (fun c11 => ?_) (fun c11 => ?_)
    · have H := H.1 c11
      obtain ⟨rfl, rfl⟩ := H
      exact ea_return (pc := 192) dX1_goes_192 rfl
    · have H := H.2 c11
      refine ea_aload_n (pc := 183) dX1_goes_183 rfl 0 rfl ?_
      refine ea_iload (pc := 184) dX1_goes_184 3 rfl ?_
      refine ea_iload_n (pc := 186) dX1_goes_186 rfl 1 rfl ?_
      refine ea_iload (pc := 187) dX1_goes_187 2 rfl ?_
      obtain ⟨d7, h8, m9, q10, hs_h8, H⟩ := H
      refine ea_callV (pc := 189) (As := [vI x5, vI x3, vI x4]) (st := []) dX1_goes_189 kX1_sort m9 q10 rfl (Nat.le_of_ble_eq_true rfl) ew_696 ew_698 ew_13 (ci := 1) rfl (by decide) (hs_h3.1 42 (by decide)).1 (hs_h3.1 42 (by decide)).2.1 ?_
      obtain ⟨rfl, rfl⟩ := H
      exact ea_return (pc := 192) dX1_goes_192 rfl
theorem pX1_sort_at32_0 {d b0 : Nat} {h0 hE h : ea_H} {rv : Option ea_V} {x1 : Int32} {x2 : Int32} {x3 : Int32} (hd : 2 ≤ d) (hs_h : ShC b0 h) (H : vp_in x2 10 ∧ ((x3 + (1 : Int32)) < (ea_i h (b0 + 6) (Int32.toNatClampNeg x2)) → vp_in ((((8 : Int32) * x2) + x3) + (1 : Int32)) 80 ∧ vp_in (((8 : Int32) * x2) + x3) 80 ∧ ∃ (d4 : Nat) (h5 : ea_H), ea_Met mX3_begin d4 [vR (some (b0 + 16)), vI ((ea_i h (b0 + 8) (Int32.toNatClampNeg ((((8 : Int32) * x2) + x3) + (1 : Int32)))) - (ea_i h (b0 + 9) (Int32.toNatClampNeg (((8 : Int32) * x2) + x3))))] h none h5 ∧ d4 + 1 ≤ d ∧ ShC b0 h5 ∧ ea_W mX1_sort d h0 rv hE 57 [(0, vR (some (b0 + 32))), (1, vI x1), (2, vI x2), (4, vI 0)] [] h5) ∧ (¬ (x3 + (1 : Int32)) < (ea_i h (b0 + 6) (Int32.toNatClampNeg x2)) → rv = none ∧ hE = h)) : ea_W mX1_sort d h0 rv hE 0 [(0, vR (some (b0 + 32))), (1, vI x1), (2, vI x2), (3, vI x3)] [] h := by
  refine ea_iload_n (pc := 0) dX1_sort_0 rfl 3 rfl ?_
  refine ea_iconst (pc := 1) dX1_sort_1 (v := 1) rfl ?_
  refine ea_iadd (pc := 2) dX1_sort_2 ?_
  refine ea_aload_n (pc := 3) dX1_sort_3 rfl 0 rfl ?_
  refine ea_getR (pc := 4) dX1_sort_4 ec_1 (k := 11) (Nat.le_of_ble_eq_true rfl) rfl (Or.inl ew_377) (hs_h.1 32 (by decide)).1 (hs_h.1 32 (by decide)).2.1 (hs_h.2 32 11 rfl) ?_
  refine ea_getR (pc := 7) dX1_sort_7 ec_9 (k := 1) (Nat.le_of_ble_eq_true rfl) rfl (Or.inl ew_182) (hs_h.1 5 (by decide)).1 (hs_h.1 5 (by decide)).2.1 (hs_h.2 5 1 rfl) ?_
  refine ea_iload_n (pc := 10) dX1_sort_10 rfl 2 rfl ?_
  obtain ⟨z1, H⟩ := H
  refine ea_iald (pc := 11) dX1_sort_11 (hs_h.1 6 (by decide)).1 (hs_h.1 6 (by decide)).2.1 (ea_vpl (hs_h.1 6 (by decide)).2.2 z1) ?_
  refine ea_icmp_lt (pc := 12) (tgt := 16) dX1_sort_12 rfl (fun c8 => ?_) (fun c8 => ?_)
  · have H := H.1 c8
    refine ea_aload_n (pc := 16) dX1_sort_16 rfl 0 rfl ?_
    refine ea_getR (pc := 17) dX1_sort_17 ec_1 (k := 13) (Nat.le_of_ble_eq_true rfl) rfl (Or.inl ew_379) (hs_h.1 32 (by decide)).1 (hs_h.1 32 (by decide)).2.1 (hs_h.2 32 13 rfl) ?_
    refine ea_aload_n (pc := 20) dX1_sort_20 rfl 0 rfl ?_
    refine ea_getR (pc := 21) dX1_sort_21 ec_1 (k := 11) (Nat.le_of_ble_eq_true rfl) rfl (Or.inl ew_377) (hs_h.1 32 (by decide)).1 (hs_h.1 32 (by decide)).2.1 (hs_h.2 32 11 rfl) ?_
    refine ea_getR (pc := 24) dX1_sort_24 ec_9 (k := 3) (Nat.le_of_ble_eq_true rfl) rfl (Or.inl ew_190) (hs_h.1 5 (by decide)).1 (hs_h.1 5 (by decide)).2.1 (hs_h.2 5 3 rfl) ?_
    refine ea_bipush (pc := 27) dX1_sort_27 (v := 8) rfl ?_
    refine ea_iload_n (pc := 29) dX1_sort_29 rfl 2 rfl ?_
    refine ea_imul (pc := 30) dX1_sort_30 ?_
    refine ea_iload_n (pc := 31) dX1_sort_31 rfl 3 rfl ?_
    refine ea_iadd (pc := 32) dX1_sort_32 ?_
    refine ea_iconst (pc := 33) dX1_sort_33 (v := 1) rfl ?_
    refine ea_iadd (pc := 34) dX1_sort_34 ?_
    obtain ⟨z2, H⟩ := H
    refine ea_iald (pc := 35) dX1_sort_35 (hs_h.1 8 (by decide)).1 (hs_h.1 8 (by decide)).2.1 (ea_vpl (hs_h.1 8 (by decide)).2.2 z2) ?_
    refine ea_aload_n (pc := 36) dX1_sort_36 rfl 0 rfl ?_
    refine ea_getR (pc := 37) dX1_sort_37 ec_1 (k := 11) (Nat.le_of_ble_eq_true rfl) rfl (Or.inl ew_377) (hs_h.1 32 (by decide)).1 (hs_h.1 32 (by decide)).2.1 (hs_h.2 32 11 rfl) ?_
    refine ea_getR (pc := 40) dX1_sort_40 ec_9 (k := 4) (Nat.le_of_ble_eq_true rfl) rfl (Or.inl ew_193) (hs_h.1 5 (by decide)).1 (hs_h.1 5 (by decide)).2.1 (hs_h.2 5 4 rfl) ?_
    refine ea_bipush (pc := 43) dX1_sort_43 (v := 8) rfl ?_
    refine ea_iload_n (pc := 45) dX1_sort_45 rfl 2 rfl ?_
    refine ea_imul (pc := 46) dX1_sort_46 ?_
    refine ea_iload_n (pc := 47) dX1_sort_47 rfl 3 rfl ?_
    refine ea_iadd (pc := 48) dX1_sort_48 ?_
    obtain ⟨z3, H⟩ := H
    refine ea_iald (pc := 49) dX1_sort_49 (hs_h.1 9 (by decide)).1 (hs_h.1 9 (by decide)).2.1 (ea_vpl (hs_h.1 9 (by decide)).2.2 z3) ?_
    refine ea_isub (pc := 50) dX1_sort_50 ?_
    obtain ⟨d4, h5, m6, q7, hs_h5, H⟩ := H
    refine ea_callV (pc := 51) (As := [vI ((ea_i h (b0 + 8) (Int32.toNatClampNeg ((((8 : Int32) * x2) + x3) + (1 : Int32)))) - (ea_i h (b0 + 9) (Int32.toNatClampNeg (((8 : Int32) * x2) + x3))))]) (st := []) dX1_sort_51 kX3_begin m6 q7 rfl (Nat.le_of_ble_eq_true rfl) ew_700 ew_701 ew_702 (ci := 3) rfl (by decide) (hs_h.1 16 (by decide)).1 (hs_h.1 16 (by decide)).2.1 ?_
    refine ea_iconst (pc := 54) dX1_sort_54 (v := 0) rfl ?_
    refine ea_istore (pc := 55) (lv' := [(0, vR (some (b0 + 32))), (1, vI x1), (2, vI x2), (4, vI 0)]) dX1_sort_55 (Nat.le_of_ble_eq_true rfl) [1, 2, 3, 0] rfl ?_
    exact H
  · have H := H.2 c8
    obtain ⟨rfl, rfl⟩ := H
    exact ea_return (pc := 15) dX1_sort_15 rfl
