/-! the reference, 3 -/
theorem shX12_product {b0 : Nat} {h : ea_H} (hs : ShM b0 h) : ShM b0 (wX12_product b0 h) := by
  unfold wX12_product
  cases K : qX12_product b0 h with
  | none => exact hs
  | some x => obtain ⟨x, y⟩ := x; unfold qX12_product at K; exact zMG0 b0 _ _ _ _ _ _ _ K hs
noncomputable def qX12_unit (b0 : Nat) (h : ea_H) : Option (Int32 × ea_H) := gMG0 b0 1000000000 40 3000 0 h
def okX12_unit (b0 : Nat) (h : ea_H) : Prop := ∃ x, qX12_unit b0 h = some x
noncomputable def vX12_unit (b0 : Nat) (h : ea_H) : Int32 := ((qX12_unit b0 h).getD (0, h)).1
noncomputable def wX12_unit (b0 : Nat) (h : ea_H) : ea_H := ((qX12_unit b0 h).getD (0, h)).2
theorem sX12_unit {d : Nat} {b0 : Nat} {h : ea_H} (hd : 46 ≤ d) (hs : ShM b0 h) (K : okX12_unit b0 h) : ea_Met mX12_unit d [vR (some (b0 + 0))] h (some (vI (vX12_unit b0 h))) (wX12_unit b0 h) := by
  obtain ⟨⟨x, y⟩, K⟩ := K
  unfold wX12_unit vX12_unit
  rw [K]
  unfold qX12_unit at K
  exact ea_enter rfl (Nat.le_of_ble_eq_true rfl) ((tMG0 b0 1000000000 40 3000 0 h x y K hs d h hd).2.2.2.2.2.2.2.2.1 rfl)
theorem shX12_unit {b0 : Nat} {h : ea_H} (hs : ShM b0 h) : ShM b0 (wX12_unit b0 h) := by
  unfold wX12_unit
  cases K : qX12_unit b0 h with
  | none => exact hs
  | some x => obtain ⟨x, y⟩ := x; unfold qX12_unit at K; exact zMG0 b0 _ _ _ _ _ _ _ K hs
noncomputable def gMG1 (b0 : Nat) : Nat → Nat → Nat → Int32 → ea_H → Option (Int32 × ea_H)
  | 0, _, _, _, _ => none
  | f + 1, dep, lbl, sx0, h =>
    if lbl = 1000 then (if (ea_i h (b0 + 0) 54) = (13 : Int32) then (gd ((okX12_opens b0 h)) (ea_let (wX12_opens b0 h) fun H10 => (if (vX12_opens b0 h) = (0 : Int32) then (some ((0 : Int32), H10)) else (gd (0 < dep) (Option.bind (gMG1 b0 f (dep - 1) 1000 0 H10) fun y11 => (if (y11.1) = (0 : Int32) then (some ((0 : Int32), (y11.2))) else (ea_let (ea_wi (y11.2) (b0 + 0) 60 ((ea_i (y11.2) (b0 + 0) 60) - (1 : Int32))) fun H14 => (gd ((okX12_lay b0 (15 : Int32) (0 : Int32) H14)) (ea_let (wX12_lay b0 (15 : Int32) (0 : Int32) H14) fun H17 => (some ((1 : Int32), H17))))))))))) else (gd ((okX12_sumOf b0 h)) (ea_let (wX12_sumOf b0 h) fun H3 => (if (vX12_sumOf b0 h) = (0 : Int32) then (some ((0 : Int32), H3)) else (if (ea_i H3 (b0 + 0) 54) = (60 : Int32) then (gMG1 b0 f dep 1096 (12 : Int32) H3) else (if (ea_i H3 (b0 + 0) 54) = (61 : Int32) then (gMG1 b0 f dep 1096 (13 : Int32) H3) else (if (ea_i H3 (b0 + 0) 54) = (62 : Int32) then (gMG1 b0 f dep 1096 (14 : Int32) H3) else (gMG1 b0 f dep 1096 ((-1) : Int32) H3)))))))) else
    if lbl = 1096 then (if sx0 = ((-1) : Int32) then (ea_let (wX12_bad b0 (1 : Int32) h) fun H33 => (some ((vX12_bad b0 (1 : Int32) h), H33))) else (gd ((okX12_next0 b0 h)) (ea_let (wX12_next0 b0 h) fun H23 => (gd ((okX12_sumOf b0 H23)) (ea_let (wX12_sumOf b0 H23) fun H26 => (if (vX12_sumOf b0 H23) = (0 : Int32) then (some ((0 : Int32), H26)) else (gd ((okX12_lay b0 (sx0 : Int32) (0 : Int32) H26)) (ea_let (wX12_lay b0 (sx0 : Int32) (0 : Int32) H26) fun H29 => (some ((1 : Int32), H29)))))))))) else none
theorem zMG1 (b0 : Nat) : ∀ (f dep lbl : Nat) (sx0 : Int32) (h : ea_H) (r : Int32) (h' : ea_H), gMG1 b0 f dep lbl sx0 h = some (r, h') → ShM b0 h → ShM b0 h' := by
  intro f
  induction f with
  | zero => intro dep lbl sx0 h r h' E; cases E
  | succ f ih =>
    intro dep lbl sx0 h r h' E hs
    unfold gMG1 at E
    by_cases el0 : lbl = 1000
    · have E := (if_pos el0).symm.trans E
      by_cases c20 : (ea_i h (b0 + 0) 54) = (13 : Int32)
      · have E := (if_pos c20).symm.trans E
        obtain ⟨z8, E⟩ := gd_some E
        obtain ⟨H10, eH10, E⟩ := let_some E
        have hsH10 : ShM b0 H10 := by rw [eH10]; exact (shX12_opens hs)
        by_cases c19 : (vX12_opens b0 h) = (0 : Int32)
        · have E := (if_pos c19).symm.trans E
          exact ea_shO E hsH10
        have E := (if_neg c19).symm.trans E
        obtain ⟨zd12, E⟩ := gd_some E
        obtain ⟨y11, Ey11, E⟩ := bd_some E
        have hsy11 : ShM b0 y11.2 := ih _ _ _ _ _ _ Ey11 hsH10
        by_cases c18 : (y11.1) = (0 : Int32)
        · have E := (if_pos c18).symm.trans E
          exact ea_shO E hsy11
        have E := (if_neg c18).symm.trans E
        obtain ⟨H14, eH14, E⟩ := let_some E
        have hsH14 : ShM b0 H14 := by rw [eH14]; exact (ShM_wi hsy11)
        obtain ⟨z15, E⟩ := gd_some E
        obtain ⟨H17, eH17, E⟩ := let_some E
        have hsH17 : ShM b0 H17 := by rw [eH17]; exact (shX12_lay hsH14)
        exact ea_shO E hsH17
      have E := (if_neg c20).symm.trans E
      obtain ⟨z1, E⟩ := gd_some E
      obtain ⟨H3, eH3, E⟩ := let_some E
      have hsH3 : ShM b0 H3 := by rw [eH3]; exact (shX12_sumOf hs)
      by_cases c7 : (vX12_sumOf b0 h) = (0 : Int32)
      · have E := (if_pos c7).symm.trans E
        exact ea_shO E hsH3
      have E := (if_neg c7).symm.trans E
      by_cases c6 : (ea_i H3 (b0 + 0) 54) = (60 : Int32)
      · have E := (if_pos c6).symm.trans E
        exact ih dep 1096 (12 : Int32) H3 _ _ E hsH3
      have E := (if_neg c6).symm.trans E
      by_cases c5 : (ea_i H3 (b0 + 0) 54) = (61 : Int32)
      · have E := (if_pos c5).symm.trans E
        exact ih dep 1096 (13 : Int32) H3 _ _ E hsH3
      have E := (if_neg c5).symm.trans E
      by_cases c4 : (ea_i H3 (b0 + 0) 54) = (62 : Int32)
      · have E := (if_pos c4).symm.trans E
        exact ih dep 1096 (14 : Int32) H3 _ _ E hsH3
      have E := (if_neg c4).symm.trans E
      exact ih dep 1096 ((-1) : Int32) H3 _ _ E hsH3
    have E := (if_neg el0).symm.trans E
    by_cases el1 : lbl = 1096
    · have E := (if_pos el1).symm.trans E
      by_cases c34 : sx0 = ((-1) : Int32)
      · have E := (if_pos c34).symm.trans E
        obtain ⟨H33, eH33, E⟩ := let_some E
        have hsH33 : ShM b0 H33 := by rw [eH33]; exact (shX12_bad hs)
        exact ea_shO E hsH33
      have E := (if_neg c34).symm.trans E
      obtain ⟨z21, E⟩ := gd_some E
      obtain ⟨H23, eH23, E⟩ := let_some E
      have hsH23 : ShM b0 H23 := by rw [eH23]; exact (shX12_next0 hs)
      obtain ⟨z24, E⟩ := gd_some E
      obtain ⟨H26, eH26, E⟩ := let_some E
      have hsH26 : ShM b0 H26 := by rw [eH26]; exact (shX12_sumOf hsH23)
      by_cases c30 : (vX12_sumOf b0 H23) = (0 : Int32)
      · have E := (if_pos c30).symm.trans E
        exact ea_shO E hsH26
      have E := (if_neg c30).symm.trans E
      obtain ⟨z27, E⟩ := gd_some E
      obtain ⟨H29, eH29, E⟩ := let_some E
      have hsH29 : ShM b0 H29 := by rw [eH29]; exact (shX12_lay hsH26)
      exact ea_shO E hsH29
    have E := (if_neg el1).symm.trans E
    cases E
theorem tMG1 (b0 : Nat) : ∀ (f dep lbl : Nat) (sx0 : Int32) (h : ea_H) (r : Int32) (h' : ea_H), gMG1 b0 f dep lbl sx0 h = some (r, h') → ShM b0 h → ∀ (d : Nat) (h0 : ea_H), 47 + dep ≤ d → (lbl = 1000 → ea_W mX12_one d h0 (some (vI r)) h' 0 [(0, vR (some (b0 + 0)))] [] h) ∧ (lbl = 1096 → ea_W mX12_one d h0 (some (vI r)) h' 96 [(0, vR (some (b0 + 0)))] [vI sx0] h) := by
  intro f
  induction f with
  | zero => intro dep lbl sx0 h r h' E; cases E
  | succ f ih =>
    intro dep lbl sx0 h r h' E hs d h0 hd
    unfold gMG1 at E
    refine ⟨?_, ?_⟩
    · intro el
      subst el
      have E := (if_pos rfl).symm.trans E
      refine ea_aload_n (pc := 0) dX12_one_0 rfl 0 rfl ?_
      refine ea_getI (pc := 1) dX12_one_1 ec_12 (k := 54) (Nat.le_of_ble_eq_true rfl) rfl (Or.inl ew_1399) (hs.1 0 (by decide)).1 (hs.1 0 (by decide)).2.1 ?_
      refine ea_bipush (pc := 4) dX12_one_4 (v := 13) rfl ?_
      refine ea_icmp_ne (pc := 6) (tgt := 44) dX12_one_6 rfl (fun c20 => ?_) (fun c20 => ?_)
      · have E := (if_neg c20).symm.trans E
        refine ea_aload_n (pc := 44) dX12_one_44 rfl 0 rfl ?_
        obtain ⟨z1, E⟩ := gd_some E
        refine ea_callV (pc := 45) (d' := d - 1) (As := []) (st := []) dX12_one_45 kX12_sumOf (sX12_sumOf (d := d - 1) (by omega) hs z1) (by omega) rfl (Nat.le_of_ble_eq_true rfl) ew_1926 ew_1928 ew_71 (ci := 12) rfl (by decide) (hs.1 0 (by decide)).1 (hs.1 0 (by decide)).2.1 ?_
        have hs2 : ShM b0 (wX12_sumOf b0 h) := shX12_sumOf hs
        obtain ⟨H3, eH3, E⟩ := let_some E
        refine ea_nm eH3 ?_
        have hsH3 : ShM b0 H3 := by rw [eH3]; exact hs2
        refine ea_if_ne (pc := 48) (tgt := 53) dX12_one_48 rfl (fun c7 => ?_) (fun c7 => ?_)
        · have E := (if_neg c7).symm.trans E
          refine ea_aload_n (pc := 53) dX12_one_53 rfl 0 rfl ?_
          refine ea_getI (pc := 54) dX12_one_54 ec_12 (k := 54) (Nat.le_of_ble_eq_true rfl) rfl (Or.inl ew_1399) (hsH3.1 0 (by decide)).1 (hsH3.1 0 (by decide)).2.1 ?_
          refine ea_bipush (pc := 57) dX12_one_57 (v := 60) rfl ?_
          refine ea_icmp_ne (pc := 59) (tgt := 67) dX12_one_59 rfl (fun c6 => ?_) (fun c6 => ?_)
          · have E := (if_neg c6).symm.trans E
            refine ea_aload_n (pc := 67) dX12_one_67 rfl 0 rfl ?_
            refine ea_getI (pc := 68) dX12_one_68 ec_12 (k := 54) (Nat.le_of_ble_eq_true rfl) rfl (Or.inl ew_1399) (hsH3.1 0 (by decide)).1 (hsH3.1 0 (by decide)).2.1 ?_
            refine ea_bipush (pc := 71) dX12_one_71 (v := 61) rfl ?_
            refine ea_icmp_ne (pc := 73) (tgt := 81) dX12_one_73 rfl (fun c5 => ?_) (fun c5 => ?_)
            · have E := (if_neg c5).symm.trans E
              refine ea_aload_n (pc := 81) dX12_one_81 rfl 0 rfl ?_
              refine ea_getI (pc := 82) dX12_one_82 ec_12 (k := 54) (Nat.le_of_ble_eq_true rfl) rfl (Or.inl ew_1399) (hsH3.1 0 (by decide)).1 (hsH3.1 0 (by decide)).2.1 ?_
              refine ea_bipush (pc := 85) dX12_one_85 (v := 62) rfl ?_
              refine ea_icmp_ne (pc := 87) (tgt := 95) dX12_one_87 rfl (fun c4 => ?_) (fun c4 => ?_)
              · have E := (if_neg c4).symm.trans E
                refine ea_iconst (pc := 95) dX12_one_95 (v := (-1)) rfl ?_
                exact ((ih dep 1096 ((-1) : Int32) H3 _ _ E hsH3 d h0 hd).2 rfl)
              · have E := (if_pos c4).symm.trans E
                refine ea_bipush (pc := 90) dX12_one_90 (v := 14) rfl ?_
                refine ea_goto (pc := 92) (tgt := 96) dX12_one_92 rfl ?_
                exact ((ih dep 1096 (14 : Int32) H3 _ _ E hsH3 d h0 hd).2 rfl)
            · have E := (if_pos c5).symm.trans E
              refine ea_bipush (pc := 76) dX12_one_76 (v := 13) rfl ?_
              refine ea_goto (pc := 78) (tgt := 96) dX12_one_78 rfl ?_
              exact ((ih dep 1096 (13 : Int32) H3 _ _ E hsH3 d h0 hd).2 rfl)
          · have E := (if_pos c6).symm.trans E
            refine ea_bipush (pc := 62) dX12_one_62 (v := 12) rfl ?_
            refine ea_goto (pc := 64) (tgt := 96) dX12_one_64 rfl ?_
            exact ((ih dep 1096 (12 : Int32) H3 _ _ E hsH3 d h0 hd).2 rfl)
        · have E := (if_pos c7).symm.trans E
          refine ea_iconst (pc := 51) dX12_one_51 (v := 0) rfl ?_
          exact ea_iretO (pc := 52) dX12_one_52 rfl (ea_bn (Or.inl rfl)) E
      · have E := (if_pos c20).symm.trans E
        refine ea_aload_n (pc := 9) dX12_one_9 rfl 0 rfl ?_
        obtain ⟨z8, E⟩ := gd_some E
        refine ea_callV (pc := 10) (d' := d - 1) (As := []) (st := []) dX12_one_10 kX12_opens (sX12_opens (d := d - 1) (by omega) hs z8) (by omega) rfl (Nat.le_of_ble_eq_true rfl) ew_1938 ew_1940 ew_74 (ci := 12) rfl (by decide) (hs.1 0 (by decide)).1 (hs.1 0 (by decide)).2.1 ?_
        have hs9 : ShM b0 (wX12_opens b0 h) := shX12_opens hs
        obtain ⟨H10, eH10, E⟩ := let_some E
        refine ea_nm eH10 ?_
        have hsH10 : ShM b0 H10 := by rw [eH10]; exact hs9
        refine ea_if_eq (pc := 13) (tgt := 23) dX12_one_13 rfl (fun c19 => ?_) (fun c19 => ?_)
        · have E := (if_pos c19).symm.trans E
          refine ea_iconst (pc := 23) dX12_one_23 (v := 0) rfl ?_
          exact ea_iretO (pc := 24) dX12_one_24 rfl (ea_bn (Or.inl rfl)) E
        · have E := (if_neg c19).symm.trans E
          refine ea_aload_n (pc := 16) dX12_one_16 rfl 0 rfl ?_
          obtain ⟨zd12, E⟩ := gd_some E
          obtain ⟨y11, Ey11, E⟩ := bd_some E
          have hsy11 : ShM b0 y11.2 := zMG1 b0 f _ _ _ _ _ _ Ey11 hsH10
          refine ea_callV (pc := 17) (d' := d - 1) (As := []) (st := []) dX12_one_17 kX12_one (ea_enter rfl (Nat.le_of_ble_eq_true rfl) ((ih (dep - 1) 1000 0 H10 _ _ Ey11 hsH10 (d - 1) H10 (by omega)).1 rfl)) (by omega) rfl (Nat.le_of_ble_eq_true rfl) ew_1958 ew_1960 ew_79 (ci := 12) rfl (by decide) (hsH10.1 0 (by decide)).1 (hsH10.1 0 (by decide)).2.1 ?_
          refine ea_if_ne (pc := 20) (tgt := 25) dX12_one_20 rfl (fun c18 => ?_) (fun c18 => ?_)
          · have E := (if_neg c18).symm.trans E
            refine ea_aload_n (pc := 25) dX12_one_25 rfl 0 rfl ?_
            refine ea_dup (pc := 26) dX12_one_26 rfl ?_
            refine ea_getI (pc := 27) dX12_one_27 ec_12 (k := 60) (Nat.le_of_ble_eq_true rfl) rfl (Or.inl ew_1405) (hsy11.1 0 (by decide)).1 (hsy11.1 0 (by decide)).2.1 ?_
            refine ea_iconst (pc := 30) dX12_one_30 (v := 1) rfl ?_
            refine ea_isub (pc := 31) dX12_one_31 ?_
            refine ea_putI (pc := 32) dX12_one_32 ec_12 (k := 60) (Nat.le_of_ble_eq_true rfl) rfl (Or.inl ⟨rfl, Or.inl ew_1405⟩) rfl rfl (hsy11.1 0 (by decide)).1 (hsy11.1 0 (by decide)).2.1 ?_
            have hs13 : ShM b0 (ea_wi (y11.2) (b0 + 0) 60 ((ea_i (y11.2) (b0 + 0) 60) - (1 : Int32))) := ShM_wi hsy11
            obtain ⟨H14, eH14, E⟩ := let_some E
            refine ea_nm eH14 ?_
            have hsH14 : ShM b0 H14 := by rw [eH14]; exact hs13
            refine ea_aload_n (pc := 35) dX12_one_35 rfl 0 rfl ?_
            refine ea_bipush (pc := 36) dX12_one_36 (v := 15) rfl ?_
            refine ea_iconst (pc := 38) dX12_one_38 (v := 0) rfl ?_
            obtain ⟨z15, E⟩ := gd_some E
            refine ea_callV (pc := 39) (d' := d - 1) (As := [vI 15, vI 0]) (st := []) dX12_one_39 kX12_lay (sX12_lay (d := d - 1) (by omega) hsH14 z15) (by omega) rfl (Nat.le_of_ble_eq_true rfl) ew_1946 ew_1948 ew_76 (ci := 12) rfl (by decide) (hsH14.1 0 (by decide)).1 (hsH14.1 0 (by decide)).2.1 ?_
            have hs16 : ShM b0 (wX12_lay b0 (15 : Int32) (0 : Int32) H14) := shX12_lay hsH14
            obtain ⟨H17, eH17, E⟩ := let_some E
            refine ea_nm eH17 ?_
            have hsH17 : ShM b0 H17 := by rw [eH17]; exact hs16
            refine ea_iconst (pc := 42) dX12_one_42 (v := 1) rfl ?_
            exact ea_iretO (pc := 43) dX12_one_43 rfl (ea_bn (Or.inr rfl)) E
          · have E := (if_pos c18).symm.trans E
            refine ea_iconst (pc := 23) dX12_one_23 (v := 0) rfl ?_
            exact ea_iretO (pc := 24) dX12_one_24 rfl (ea_bn (Or.inl rfl)) E
    intro el
    subst el
    have E := (if_neg (by decide)).symm.trans E
    have E := (if_pos rfl).symm.trans E
    refine ea_istore_n (pc := 96) (lv' := [(0, vR (some (b0 + 0))), (1, vI sx0)]) dX12_one_96 rfl (Nat.le_of_ble_eq_true rfl) [1, 0] rfl ?_
    refine ea_iload_n (pc := 97) dX12_one_97 rfl 1 rfl ?_
    refine ea_iconst (pc := 98) dX12_one_98 (v := (-1)) rfl ?_
    refine ea_icmp_ne (pc := 99) (tgt := 108) dX12_one_99 rfl (fun c34 => ?_) (fun c34 => ?_)
    · have E := (if_neg c34).symm.trans E
      refine ea_aload_n (pc := 108) dX12_one_108 rfl 0 rfl ?_
      obtain ⟨z21, E⟩ := gd_some E
      refine ea_callV (pc := 109) (d' := d - 1) (As := []) (st := []) dX12_one_109 kX12_next0 (sX12_next0 (d := d - 1) (by omega) hs z21) (by omega) rfl (Nat.le_of_ble_eq_true rfl) ew_1822 ew_1824 ew_63 (ci := 12) rfl (by decide) (hs.1 0 (by decide)).1 (hs.1 0 (by decide)).2.1 ?_
      have hs22 : ShM b0 (wX12_next0 b0 h) := shX12_next0 hs
      obtain ⟨H23, eH23, E⟩ := let_some E
      refine ea_nm eH23 ?_
      have hsH23 : ShM b0 H23 := by rw [eH23]; exact hs22
      refine ea_aload_n (pc := 112) dX12_one_112 rfl 0 rfl ?_
      obtain ⟨z24, E⟩ := gd_some E
      refine ea_callV (pc := 113) (d' := d - 1) (As := []) (st := []) dX12_one_113 kX12_sumOf (sX12_sumOf (d := d - 1) (by omega) hsH23 z24) (by omega) rfl (Nat.le_of_ble_eq_true rfl) ew_1926 ew_1928 ew_71 (ci := 12) rfl (by decide) (hsH23.1 0 (by decide)).1 (hsH23.1 0 (by decide)).2.1 ?_
      have hs25 : ShM b0 (wX12_sumOf b0 H23) := shX12_sumOf hsH23
      obtain ⟨H26, eH26, E⟩ := let_some E
      refine ea_nm eH26 ?_
      have hsH26 : ShM b0 H26 := by rw [eH26]; exact hs25
      refine ea_if_ne (pc := 116) (tgt := 121) dX12_one_116 rfl (fun c30 => ?_) (fun c30 => ?_)
      · have E := (if_neg c30).symm.trans E
        refine ea_aload_n (pc := 121) dX12_one_121 rfl 0 rfl ?_
        refine ea_iload_n (pc := 122) dX12_one_122 rfl 1 rfl ?_
        refine ea_iconst (pc := 123) dX12_one_123 (v := 0) rfl ?_
        obtain ⟨z27, E⟩ := gd_some E
        refine ea_callV (pc := 124) (d' := d - 1) (As := [vI sx0, vI 0]) (st := []) dX12_one_124 kX12_lay (sX12_lay (d := d - 1) (by omega) hsH26 z27) (by omega) rfl (Nat.le_of_ble_eq_true rfl) ew_1946 ew_1948 ew_76 (ci := 12) rfl (by decide) (hsH26.1 0 (by decide)).1 (hsH26.1 0 (by decide)).2.1 ?_
        have hs28 : ShM b0 (wX12_lay b0 (sx0 : Int32) (0 : Int32) H26) := shX12_lay hsH26
        obtain ⟨H29, eH29, E⟩ := let_some E
        refine ea_nm eH29 ?_
        have hsH29 : ShM b0 H29 := by rw [eH29]; exact hs28
        refine ea_iconst (pc := 127) dX12_one_127 (v := 1) rfl ?_
        exact ea_iretO (pc := 128) dX12_one_128 rfl (ea_bn (Or.inr rfl)) E
      · have E := (if_pos c30).symm.trans E
        refine ea_iconst (pc := 119) dX12_one_119 (v := 0) rfl ?_
        exact ea_iretO (pc := 120) dX12_one_120 rfl (ea_bn (Or.inl rfl)) E
    · have E := (if_pos c34).symm.trans E
      refine ea_aload_n (pc := 102) dX12_one_102 rfl 0 rfl ?_
      refine ea_iconst (pc := 103) dX12_one_103 (v := 1) rfl ?_
      refine ea_callV (pc := 104) (d' := d - 1) (As := [vI 1]) (st := []) dX12_one_104 kX12_bad (sX12_bad (d := d - 1) (by omega) hs) (by omega) rfl (Nat.le_of_ble_eq_true rfl) ew_1914 ew_1916 ew_68 (ci := 12) rfl (by decide) (hs.1 0 (by decide)).1 (hs.1 0 (by decide)).2.1 ?_
      have hs32 : ShM b0 (wX12_bad b0 (1 : Int32) h) := shX12_bad hs
      obtain ⟨H33, eH33, E⟩ := let_some E
      refine ea_nm eH33 ?_
      have hsH33 : ShM b0 H33 := by rw [eH33]; exact hs32
      exact ea_iretO (pc := 107) dX12_one_107 rfl (ea_bn (bo_vX12_bad _ _ _)) E
noncomputable def qX12_one (b0 : Nat) (h : ea_H) : Option (Int32 × ea_H) := gMG1 b0 1000000000 40 1000 0 h
def okX12_one (b0 : Nat) (h : ea_H) : Prop := ∃ x, qX12_one b0 h = some x
noncomputable def vX12_one (b0 : Nat) (h : ea_H) : Int32 := ((qX12_one b0 h).getD (0, h)).1
noncomputable def wX12_one (b0 : Nat) (h : ea_H) : ea_H := ((qX12_one b0 h).getD (0, h)).2
theorem sX12_one {d : Nat} {b0 : Nat} {h : ea_H} (hd : 87 ≤ d) (hs : ShM b0 h) (K : okX12_one b0 h) : ea_Met mX12_one d [vR (some (b0 + 0))] h (some (vI (vX12_one b0 h))) (wX12_one b0 h) := by
  obtain ⟨⟨x, y⟩, K⟩ := K
  unfold wX12_one vX12_one
  rw [K]
  unfold qX12_one at K
  exact ea_enter rfl (Nat.le_of_ble_eq_true rfl) ((tMG1 b0 1000000000 40 1000 0 h x y K hs d h hd).1 rfl)
theorem shX12_one {b0 : Nat} {h : ea_H} (hs : ShM b0 h) : ShM b0 (wX12_one b0 h) := by
  unfold wX12_one
  cases K : qX12_one b0 h with
  | none => exact hs
  | some x => obtain ⟨x, y⟩ := x; unfold qX12_one at K; exact zMG1 b0 _ _ _ _ _ _ _ K hs
noncomputable def gX12_all (b0 : Nat) : Nat → Nat → ea_H → Option (Int32 × ea_H)
  | 0, _, _ => none
  | f + 1, lbl, h =>
    if lbl = 0 then (gd ((okX12_one b0 h)) (ea_let (wX12_one b0 h) fun H3 => (if (vX12_one b0 h) = (0 : Int32) then (some ((0 : Int32), H3)) else (gX12_all b0 f 9  H3)))) else
    if lbl = 9 then (if (ea_i h (b0 + 0) 54) = (12 : Int32) then (gd ((okX12_next0 b0 h)) (ea_let (wX12_next0 b0 h) fun H7 => (gd ((okX12_one b0 H7)) (ea_let (wX12_one b0 H7) fun H10 => (if (vX12_one b0 H7) = (0 : Int32) then (some ((0 : Int32), H10)) else (gd ((okX12_lay b0 (16 : Int32) (0 : Int32) H10)) (ea_let (wX12_lay b0 (16 : Int32) (0 : Int32) H10) fun H13 => (gX12_all b0 f 9  H13)))))))) else (some ((1 : Int32), h))) else none
theorem tX12_all {d : Nat} {b0 : Nat} {h0 : ea_H} (hd : 88 ≤ d) : ∀ (f lbl : Nat) (h : ea_H) (r : Int32) (h' : ea_H), gX12_all b0 f lbl  h = some (r, h') → ShM b0 h → (lbl = 0 → ea_W mX12_all d h0 (some (vI r)) h' 0 [(0, vR (some (b0 + 0)))] [] h) ∧ (lbl = 9 → ea_W mX12_all d h0 (some (vI r)) h' 9 [(0, vR (some (b0 + 0)))] [] h) := by
  intro f
  induction f with
  | zero => intro lbl  h r h' E; cases E
  | succ f ih =>
    intro lbl  h r h' E hs
    unfold gX12_all at E
    refine ⟨?_, ?_⟩
    · intro el
      subst el
      have E := (if_pos rfl).symm.trans E
      refine ea_aload_n (pc := 0) dX12_all_0 rfl 0 rfl ?_
      obtain ⟨z1, E⟩ := gd_some E
      refine ea_callV (pc := 1) (d' := d - 1) (As := []) (st := []) dX12_all_1 kX12_one (sX12_one (d := d - 1) (by omega) hs z1) (by omega) rfl (Nat.le_of_ble_eq_true rfl) ew_1958 ew_1960 ew_79 (ci := 12) rfl (by decide) (hs.1 0 (by decide)).1 (hs.1 0 (by decide)).2.1 ?_
      have hs2 : ShM b0 (wX12_one b0 h) := shX12_one hs
      obtain ⟨H3, eH3, E⟩ := let_some E
      refine ea_nm eH3 ?_
      have hsH3 : ShM b0 H3 := by rw [eH3]; exact hs2
      refine ea_if_ne (pc := 4) (tgt := 9) dX12_all_4 rfl (fun c4 => ?_) (fun c4 => ?_)
      · have E := (if_neg c4).symm.trans E
        exact ((ih 9  H3 _ _ E hsH3).2 rfl)
      · have E := (if_pos c4).symm.trans E
        refine ea_iconst (pc := 7) dX12_all_7 (v := 0) rfl ?_
        exact ea_iretO (pc := 8) dX12_all_8 rfl (ea_bn (Or.inl rfl)) E
    intro el
    subst el
    have E := (if_neg (by decide)).symm.trans E
    have E := (if_pos rfl).symm.trans E
    refine ea_aload_n (pc := 9) dX12_all_9 rfl 0 rfl ?_
    refine ea_getI (pc := 10) dX12_all_10 ec_12 (k := 54) (Nat.le_of_ble_eq_true rfl) rfl (Or.inl ew_1399) (hs.1 0 (by decide)).1 (hs.1 0 (by decide)).2.1 ?_
    refine ea_bipush (pc := 13) dX12_all_13 (v := 12) rfl ?_
    refine ea_icmp_ne (pc := 15) (tgt := 41) dX12_all_15 rfl (fun c15 => ?_) (fun c15 => ?_)
    · have E := (if_neg c15).symm.trans E
      refine ea_iconst (pc := 41) dX12_all_41 (v := 1) rfl ?_
      exact ea_iretO (pc := 42) dX12_all_42 rfl (ea_bn (Or.inr rfl)) E
    · have E := (if_pos c15).symm.trans E
      refine ea_aload_n (pc := 18) dX12_all_18 rfl 0 rfl ?_
      obtain ⟨z5, E⟩ := gd_some E
      refine ea_callV (pc := 19) (d' := d - 1) (As := []) (st := []) dX12_all_19 kX12_next0 (sX12_next0 (d := d - 1) (by omega) hs z5) (by omega) rfl (Nat.le_of_ble_eq_true rfl) ew_1822 ew_1824 ew_63 (ci := 12) rfl (by decide) (hs.1 0 (by decide)).1 (hs.1 0 (by decide)).2.1 ?_
      have hs6 : ShM b0 (wX12_next0 b0 h) := shX12_next0 hs
      obtain ⟨H7, eH7, E⟩ := let_some E
      refine ea_nm eH7 ?_
      have hsH7 : ShM b0 H7 := by rw [eH7]; exact hs6
      refine ea_aload_n (pc := 22) dX12_all_22 rfl 0 rfl ?_
      obtain ⟨z8, E⟩ := gd_some E
      refine ea_callV (pc := 23) (d' := d - 1) (As := []) (st := []) dX12_all_23 kX12_one (sX12_one (d := d - 1) (by omega) hsH7 z8) (by omega) rfl (Nat.le_of_ble_eq_true rfl) ew_1958 ew_1960 ew_79 (ci := 12) rfl (by decide) (hsH7.1 0 (by decide)).1 (hsH7.1 0 (by decide)).2.1 ?_
      have hs9 : ShM b0 (wX12_one b0 H7) := shX12_one hsH7
      obtain ⟨H10, eH10, E⟩ := let_some E
      refine ea_nm eH10 ?_
      have hsH10 : ShM b0 H10 := by rw [eH10]; exact hs9
      refine ea_if_ne (pc := 26) (tgt := 31) dX12_all_26 rfl (fun c14 => ?_) (fun c14 => ?_)
      · have E := (if_neg c14).symm.trans E
        refine ea_aload_n (pc := 31) dX12_all_31 rfl 0 rfl ?_
        refine ea_bipush (pc := 32) dX12_all_32 (v := 16) rfl ?_
        refine ea_iconst (pc := 34) dX12_all_34 (v := 0) rfl ?_
        obtain ⟨z11, E⟩ := gd_some E
        refine ea_callV (pc := 35) (d' := d - 1) (As := [vI 16, vI 0]) (st := []) dX12_all_35 kX12_lay (sX12_lay (d := d - 1) (by omega) hsH10 z11) (by omega) rfl (Nat.le_of_ble_eq_true rfl) ew_1946 ew_1948 ew_76 (ci := 12) rfl (by decide) (hsH10.1 0 (by decide)).1 (hsH10.1 0 (by decide)).2.1 ?_
        have hs12 : ShM b0 (wX12_lay b0 (16 : Int32) (0 : Int32) H10) := shX12_lay hsH10
        obtain ⟨H13, eH13, E⟩ := let_some E
        refine ea_nm eH13 ?_
        have hsH13 : ShM b0 H13 := by rw [eH13]; exact hs12
        refine ea_goto (pc := 38) (tgt := 9) dX12_all_38 rfl ?_
        exact ((ih 9  H13 _ _ E hsH13).2 rfl)
      · have E := (if_pos c14).symm.trans E
        refine ea_iconst (pc := 29) dX12_all_29 (v := 0) rfl ?_
        exact ea_iretO (pc := 30) dX12_all_30 rfl (ea_bn (Or.inl rfl)) E
noncomputable def qX12_all (b0 : Nat) (h : ea_H) : Option (Int32 × ea_H) := gX12_all b0 1000000000 0  h
def okX12_all (b0 : Nat) (h : ea_H) : Prop := ∃ x, qX12_all b0 h = some x
noncomputable def vX12_all (b0 : Nat) (h : ea_H) : Int32 := ((qX12_all b0 h).getD (0, h)).1
noncomputable def wX12_all (b0 : Nat) (h : ea_H) : ea_H := ((qX12_all b0 h).getD (0, h)).2
theorem sX12_all {d : Nat} {b0 : Nat} {h : ea_H} (hd : 88 ≤ d) (hs : ShM b0 h) (K : okX12_all b0 h) : ea_Met mX12_all d [vR (some (b0 + 0))] h (some (vI (vX12_all b0 h))) (wX12_all b0 h) := by
  obtain ⟨⟨x, y⟩, K⟩ := K
  unfold wX12_all vX12_all
  rw [K]
  unfold qX12_all at K
  exact ea_enter rfl (Nat.le_of_ble_eq_true rfl) ((tX12_all hd 1000000000 0  h x y K hs).1 rfl)
theorem zX12_all {b0 : Nat} : ∀ (f lbl : Nat) (h : ea_H) (r : Int32) (h' : ea_H), gX12_all b0 f lbl  h = some (r, h') → ShM b0 h → ShM b0 h' := by
  intro f
  induction f with
  | zero => intro lbl  h r h' E; cases E
  | succ f ih =>
    intro lbl  h r h' E hs
    unfold gX12_all at E
    by_cases el0 : lbl = 0
    · have E := (if_pos el0).symm.trans E
      obtain ⟨z1, E⟩ := gd_some E
      obtain ⟨H3, eH3, E⟩ := let_some E
      have hsH3 : ShM b0 H3 := by rw [eH3]; exact (shX12_one hs)
      by_cases c4 : (vX12_one b0 h) = (0 : Int32)
      · have E := (if_pos c4).symm.trans E
        exact ea_shO E hsH3
      have E := (if_neg c4).symm.trans E
      exact ih 9  H3 _ _ E hsH3
    have E := (if_neg el0).symm.trans E
    by_cases el1 : lbl = 9
    · have E := (if_pos el1).symm.trans E
      by_cases c15 : (ea_i h (b0 + 0) 54) = (12 : Int32)
      · have E := (if_pos c15).symm.trans E
        obtain ⟨z5, E⟩ := gd_some E
        obtain ⟨H7, eH7, E⟩ := let_some E
        have hsH7 : ShM b0 H7 := by rw [eH7]; exact (shX12_next0 hs)
        obtain ⟨z8, E⟩ := gd_some E
        obtain ⟨H10, eH10, E⟩ := let_some E
        have hsH10 : ShM b0 H10 := by rw [eH10]; exact (shX12_one hsH7)
        by_cases c14 : (vX12_one b0 H7) = (0 : Int32)
        · have E := (if_pos c14).symm.trans E
          exact ea_shO E hsH10
        have E := (if_neg c14).symm.trans E
        obtain ⟨z11, E⟩ := gd_some E
        obtain ⟨H13, eH13, E⟩ := let_some E
        have hsH13 : ShM b0 H13 := by rw [eH13]; exact (shX12_lay hsH10)
        exact ih 9  H13 _ _ E hsH13
      have E := (if_neg c15).symm.trans E
      exact ea_shO E hs
    have E := (if_neg el1).symm.trans E
    cases E
theorem shX12_all {b0 : Nat} {h : ea_H} (hs : ShM b0 h) : ShM b0 (wX12_all b0 h) := by
  unfold wX12_all
  cases K : qX12_all b0 h with
  | none => exact hs
  | some x => obtain ⟨x, y⟩ := x; unfold qX12_all at K; exact zX12_all _ _  _ _ _ K hs
noncomputable def gX12_any (b0 : Nat) : Nat → Nat → ea_H → Option (Int32 × ea_H)
  | 0, _, _ => none
  | f + 1, lbl, h =>
    if lbl = 0 then (gd ((okX12_all b0 h)) (ea_let (wX12_all b0 h) fun H3 => (if (vX12_all b0 h) = (0 : Int32) then (some ((0 : Int32), H3)) else (gX12_any b0 f 9  H3)))) else
    if lbl = 9 then (if (ea_i h (b0 + 0) 54) = (11 : Int32) then (gd ((okX12_next0 b0 h)) (ea_let (wX12_next0 b0 h) fun H7 => (gd ((okX12_all b0 H7)) (ea_let (wX12_all b0 H7) fun H10 => (if (vX12_all b0 H7) = (0 : Int32) then (some ((0 : Int32), H10)) else (gd ((okX12_lay b0 (17 : Int32) (0 : Int32) H10)) (ea_let (wX12_lay b0 (17 : Int32) (0 : Int32) H10) fun H13 => (gX12_any b0 f 9  H13)))))))) else (some ((1 : Int32), h))) else none
theorem tX12_any {d : Nat} {b0 : Nat} {h0 : ea_H} (hd : 89 ≤ d) : ∀ (f lbl : Nat) (h : ea_H) (r : Int32) (h' : ea_H), gX12_any b0 f lbl  h = some (r, h') → ShM b0 h → (lbl = 0 → ea_W mX12_any d h0 (some (vI r)) h' 0 [(0, vR (some (b0 + 0)))] [] h) ∧ (lbl = 9 → ea_W mX12_any d h0 (some (vI r)) h' 9 [(0, vR (some (b0 + 0)))] [] h) := by
  intro f
  induction f with
  | zero => intro lbl  h r h' E; cases E
  | succ f ih =>
    intro lbl  h r h' E hs
    unfold gX12_any at E
    refine ⟨?_, ?_⟩
    · intro el
      subst el
      have E := (if_pos rfl).symm.trans E
      refine ea_aload_n (pc := 0) dX12_any_0 rfl 0 rfl ?_
      obtain ⟨z1, E⟩ := gd_some E
      refine ea_callV (pc := 1) (d' := d - 1) (As := []) (st := []) dX12_any_1 kX12_all (sX12_all (d := d - 1) (by omega) hs z1) (by omega) rfl (Nat.le_of_ble_eq_true rfl) ew_1954 ew_1956 ew_78 (ci := 12) rfl (by decide) (hs.1 0 (by decide)).1 (hs.1 0 (by decide)).2.1 ?_
      have hs2 : ShM b0 (wX12_all b0 h) := shX12_all hs
      obtain ⟨H3, eH3, E⟩ := let_some E
      refine ea_nm eH3 ?_
      have hsH3 : ShM b0 H3 := by rw [eH3]; exact hs2
      refine ea_if_ne (pc := 4) (tgt := 9) dX12_any_4 rfl (fun c4 => ?_) (fun c4 => ?_)
      · have E := (if_neg c4).symm.trans E
        exact ((ih 9  H3 _ _ E hsH3).2 rfl)
      · have E := (if_pos c4).symm.trans E
        refine ea_iconst (pc := 7) dX12_any_7 (v := 0) rfl ?_
        exact ea_iretO (pc := 8) dX12_any_8 rfl (ea_bn (Or.inl rfl)) E
    intro el
    subst el
    have E := (if_neg (by decide)).symm.trans E
    have E := (if_pos rfl).symm.trans E
    refine ea_aload_n (pc := 9) dX12_any_9 rfl 0 rfl ?_
    refine ea_getI (pc := 10) dX12_any_10 ec_12 (k := 54) (Nat.le_of_ble_eq_true rfl) rfl (Or.inl ew_1399) (hs.1 0 (by decide)).1 (hs.1 0 (by decide)).2.1 ?_
    refine ea_bipush (pc := 13) dX12_any_13 (v := 11) rfl ?_
    refine ea_icmp_ne (pc := 15) (tgt := 41) dX12_any_15 rfl (fun c15 => ?_) (fun c15 => ?_)
    · have E := (if_neg c15).symm.trans E
      refine ea_iconst (pc := 41) dX12_any_41 (v := 1) rfl ?_
      exact ea_iretO (pc := 42) dX12_any_42 rfl (ea_bn (Or.inr rfl)) E
    · have E := (if_pos c15).symm.trans E
      refine ea_aload_n (pc := 18) dX12_any_18 rfl 0 rfl ?_
      obtain ⟨z5, E⟩ := gd_some E
      refine ea_callV (pc := 19) (d' := d - 1) (As := []) (st := []) dX12_any_19 kX12_next0 (sX12_next0 (d := d - 1) (by omega) hs z5) (by omega) rfl (Nat.le_of_ble_eq_true rfl) ew_1822 ew_1824 ew_63 (ci := 12) rfl (by decide) (hs.1 0 (by decide)).1 (hs.1 0 (by decide)).2.1 ?_
      have hs6 : ShM b0 (wX12_next0 b0 h) := shX12_next0 hs
      obtain ⟨H7, eH7, E⟩ := let_some E
      refine ea_nm eH7 ?_
      have hsH7 : ShM b0 H7 := by rw [eH7]; exact hs6
      refine ea_aload_n (pc := 22) dX12_any_22 rfl 0 rfl ?_
      obtain ⟨z8, E⟩ := gd_some E
      refine ea_callV (pc := 23) (d' := d - 1) (As := []) (st := []) dX12_any_23 kX12_all (sX12_all (d := d - 1) (by omega) hsH7 z8) (by omega) rfl (Nat.le_of_ble_eq_true rfl) ew_1954 ew_1956 ew_78 (ci := 12) rfl (by decide) (hsH7.1 0 (by decide)).1 (hsH7.1 0 (by decide)).2.1 ?_
      have hs9 : ShM b0 (wX12_all b0 H7) := shX12_all hsH7
      obtain ⟨H10, eH10, E⟩ := let_some E
      refine ea_nm eH10 ?_
      have hsH10 : ShM b0 H10 := by rw [eH10]; exact hs9
      refine ea_if_ne (pc := 26) (tgt := 31) dX12_any_26 rfl (fun c14 => ?_) (fun c14 => ?_)
      · have E := (if_neg c14).symm.trans E
        refine ea_aload_n (pc := 31) dX12_any_31 rfl 0 rfl ?_
        refine ea_bipush (pc := 32) dX12_any_32 (v := 17) rfl ?_
        refine ea_iconst (pc := 34) dX12_any_34 (v := 0) rfl ?_
        obtain ⟨z11, E⟩ := gd_some E
        refine ea_callV (pc := 35) (d' := d - 1) (As := [vI 17, vI 0]) (st := []) dX12_any_35 kX12_lay (sX12_lay (d := d - 1) (by omega) hsH10 z11) (by omega) rfl (Nat.le_of_ble_eq_true rfl) ew_1946 ew_1948 ew_76 (ci := 12) rfl (by decide) (hsH10.1 0 (by decide)).1 (hsH10.1 0 (by decide)).2.1 ?_
        have hs12 : ShM b0 (wX12_lay b0 (17 : Int32) (0 : Int32) H10) := shX12_lay hsH10
        obtain ⟨H13, eH13, E⟩ := let_some E
        refine ea_nm eH13 ?_
        have hsH13 : ShM b0 H13 := by rw [eH13]; exact hs12
        refine ea_goto (pc := 38) (tgt := 9) dX12_any_38 rfl ?_
        exact ((ih 9  H13 _ _ E hsH13).2 rfl)
      · have E := (if_pos c14).symm.trans E
        refine ea_iconst (pc := 29) dX12_any_29 (v := 0) rfl ?_
        exact ea_iretO (pc := 30) dX12_any_30 rfl (ea_bn (Or.inl rfl)) E
noncomputable def qX12_any (b0 : Nat) (h : ea_H) : Option (Int32 × ea_H) := gX12_any b0 1000000000 0  h
def okX12_any (b0 : Nat) (h : ea_H) : Prop := ∃ x, qX12_any b0 h = some x
noncomputable def vX12_any (b0 : Nat) (h : ea_H) : Int32 := ((qX12_any b0 h).getD (0, h)).1
noncomputable def wX12_any (b0 : Nat) (h : ea_H) : ea_H := ((qX12_any b0 h).getD (0, h)).2
theorem sX12_any {d : Nat} {b0 : Nat} {h : ea_H} (hd : 89 ≤ d) (hs : ShM b0 h) (K : okX12_any b0 h) : ea_Met mX12_any d [vR (some (b0 + 0))] h (some (vI (vX12_any b0 h))) (wX12_any b0 h) := by
  obtain ⟨⟨x, y⟩, K⟩ := K
  unfold wX12_any vX12_any
  rw [K]
  unfold qX12_any at K
  exact ea_enter rfl (Nat.le_of_ble_eq_true rfl) ((tX12_any hd 1000000000 0  h x y K hs).1 rfl)
theorem zX12_any {b0 : Nat} : ∀ (f lbl : Nat) (h : ea_H) (r : Int32) (h' : ea_H), gX12_any b0 f lbl  h = some (r, h') → ShM b0 h → ShM b0 h' := by
  intro f
  induction f with
  | zero => intro lbl  h r h' E; cases E
  | succ f ih =>
    intro lbl  h r h' E hs
    unfold gX12_any at E
    by_cases el0 : lbl = 0
    · have E := (if_pos el0).symm.trans E
      obtain ⟨z1, E⟩ := gd_some E
      obtain ⟨H3, eH3, E⟩ := let_some E
      have hsH3 : ShM b0 H3 := by rw [eH3]; exact (shX12_all hs)
      by_cases c4 : (vX12_all b0 h) = (0 : Int32)
      · have E := (if_pos c4).symm.trans E
        exact ea_shO E hsH3
      have E := (if_neg c4).symm.trans E
      exact ih 9  H3 _ _ E hsH3
    have E := (if_neg el0).symm.trans E
    by_cases el1 : lbl = 9
    · have E := (if_pos el1).symm.trans E
      by_cases c15 : (ea_i h (b0 + 0) 54) = (11 : Int32)
      · have E := (if_pos c15).symm.trans E
        obtain ⟨z5, E⟩ := gd_some E
        obtain ⟨H7, eH7, E⟩ := let_some E
        have hsH7 : ShM b0 H7 := by rw [eH7]; exact (shX12_next0 hs)
        obtain ⟨z8, E⟩ := gd_some E
        obtain ⟨H10, eH10, E⟩ := let_some E
        have hsH10 : ShM b0 H10 := by rw [eH10]; exact (shX12_all hsH7)
        by_cases c14 : (vX12_all b0 H7) = (0 : Int32)
        · have E := (if_pos c14).symm.trans E
          exact ea_shO E hsH10
        have E := (if_neg c14).symm.trans E
        obtain ⟨z11, E⟩ := gd_some E
        obtain ⟨H13, eH13, E⟩ := let_some E
        have hsH13 : ShM b0 H13 := by rw [eH13]; exact (shX12_lay hsH10)
        exact ih 9  H13 _ _ E hsH13
      have E := (if_neg c15).symm.trans E
      exact ea_shO E hs
    have E := (if_neg el1).symm.trans E
    cases E
theorem shX12_any {b0 : Nat} {h : ea_H} (hs : ShM b0 h) : ShM b0 (wX12_any b0 h) := by
  unfold wX12_any
  cases K : qX12_any b0 h with
  | none => exact hs
  | some x => obtain ⟨x, y⟩ := x; unfold qX12_any at K; exact zX12_any _ _  _ _ _ K hs
noncomputable def gX12_aCharge (b0 : Nat) : Nat → Nat → ea_H → Option (Int32 × ea_H)
  | 0, _, _ => none
  | f + 1, lbl, h =>
    (gd (vp_in (ea_i h (b0 + 0) 44) 25) (ea_let (ea_wi h (b0 + 33) (Int32.toNatClampNeg (ea_i h (b0 + 0) 44)) (ea_i h (b0 + 0) 45)) fun H3 => (gd ((okX12_sumOf b0 H3)) (ea_let (wX12_sumOf b0 H3) fun H6 => (if (vX12_sumOf b0 H3) = (0 : Int32) then (some ((0 : Int32), H6)) else (gd (vp_in (ea_i H6 (b0 + 0) 44) 24) (ea_let (ea_wi H6 (b0 + 34) (Int32.toNatClampNeg (ea_i H6 (b0 + 0) 44)) (ea_i H6 (b0 + 0) 45)) fun H9 => (if (ea_i H9 (b0 + 0) 54) = (10 : Int32) then (gd ((okX12_next0 b0 H9)) (ea_let (wX12_next0 b0 H9) fun H14 => (gd ((okX12_any b0 H14)) (ea_let (wX12_any b0 H14) fun H17 => (if (vX12_any b0 H14) = (0 : Int32) then (some ((0 : Int32), H17)) else (ea_let (ea_wi H17 (b0 + 0) 44 ((ea_i H17 (b0 + 0) 44) + (1 : Int32))) fun H19 => (some ((1 : Int32), H19)))))))) else (ea_let (ea_wi H9 (b0 + 0) 44 ((ea_i H9 (b0 + 0) 44) + (1 : Int32))) fun H11 => (some ((1 : Int32), H11)))))))))))
theorem tX12_aCharge {d : Nat} {b0 : Nat} {h0 : ea_H} (hd : 90 ≤ d) : ∀ (f lbl : Nat) (h : ea_H) (r : Int32) (h' : ea_H), gX12_aCharge b0 f lbl  h = some (r, h') → ShM b0 h → (lbl = 0 → ea_W mX12_aCharge d h0 (some (vI r)) h' 0 [(0, vR (some (b0 + 0)))] [] h) := by
  intro f
  induction f with
  | zero => intro lbl  h r h' E; cases E
  | succ f ih =>
    intro lbl  h r h' E hs
    unfold gX12_aCharge at E
    intro el
    subst el
    refine ea_aload_n (pc := 0) dX12_aCharge_0 rfl 0 rfl ?_
    refine ea_getR (pc := 1) dX12_aCharge_1 ec_12 (k := 38) (Nat.le_of_ble_eq_true rfl) rfl (Or.inl ew_1383) (hs.1 0 (by decide)).1 (hs.1 0 (by decide)).2.1 (hs.2 0 38 rfl) ?_
    refine ea_aload_n (pc := 4) dX12_aCharge_4 rfl 0 rfl ?_
    refine ea_getI (pc := 5) dX12_aCharge_5 ec_12 (k := 44) (Nat.le_of_ble_eq_true rfl) rfl (Or.inl ew_1389) (hs.1 0 (by decide)).1 (hs.1 0 (by decide)).2.1 ?_
    refine ea_aload_n (pc := 8) dX12_aCharge_8 rfl 0 rfl ?_
    refine ea_getI (pc := 9) dX12_aCharge_9 ec_12 (k := 45) (Nat.le_of_ble_eq_true rfl) rfl (Or.inl ew_1390) (hs.1 0 (by decide)).1 (hs.1 0 (by decide)).2.1 ?_
    obtain ⟨z1, E⟩ := gd_some E
    refine ea_iast (pc := 12) dX12_aCharge_12 (hs.1 33 (by decide)).1 (hs.1 33 (by decide)).2.1 (ea_vpl (hs.1 33 (by decide)).2.2 z1) ?_
    have hs2 : ShM b0 (ea_wi h (b0 + 33) (Int32.toNatClampNeg (ea_i h (b0 + 0) 44)) (ea_i h (b0 + 0) 45)) := ShM_wi hs
    obtain ⟨H3, eH3, E⟩ := let_some E
    refine ea_nm eH3 ?_
    have hsH3 : ShM b0 H3 := by rw [eH3]; exact hs2
    refine ea_aload_n (pc := 13) dX12_aCharge_13 rfl 0 rfl ?_
    obtain ⟨z4, E⟩ := gd_some E
    refine ea_callV (pc := 14) (d' := d - 1) (As := []) (st := []) dX12_aCharge_14 kX12_sumOf (sX12_sumOf (d := d - 1) (by omega) hsH3 z4) (by omega) rfl (Nat.le_of_ble_eq_true rfl) ew_1926 ew_1928 ew_71 (ci := 12) rfl (by decide) (hsH3.1 0 (by decide)).1 (hsH3.1 0 (by decide)).2.1 ?_
    have hs5 : ShM b0 (wX12_sumOf b0 H3) := shX12_sumOf hsH3
    obtain ⟨H6, eH6, E⟩ := let_some E
    refine ea_nm eH6 ?_
    have hsH6 : ShM b0 H6 := by rw [eH6]; exact hs5
    refine ea_if_ne (pc := 17) (tgt := 22) dX12_aCharge_17 rfl (fun c22 => ?_) (fun c22 => ?_)
    · have E := (if_neg c22).symm.trans E
      refine ea_aload_n (pc := 22) dX12_aCharge_22 rfl 0 rfl ?_
      refine ea_getR (pc := 23) dX12_aCharge_23 ec_12 (k := 39) (Nat.le_of_ble_eq_true rfl) rfl (Or.inl ew_1384) (hsH6.1 0 (by decide)).1 (hsH6.1 0 (by decide)).2.1 (hsH6.2 0 39 rfl) ?_
      refine ea_aload_n (pc := 26) dX12_aCharge_26 rfl 0 rfl ?_
      refine ea_getI (pc := 27) dX12_aCharge_27 ec_12 (k := 44) (Nat.le_of_ble_eq_true rfl) rfl (Or.inl ew_1389) (hsH6.1 0 (by decide)).1 (hsH6.1 0 (by decide)).2.1 ?_
      refine ea_aload_n (pc := 30) dX12_aCharge_30 rfl 0 rfl ?_
      refine ea_getI (pc := 31) dX12_aCharge_31 ec_12 (k := 45) (Nat.le_of_ble_eq_true rfl) rfl (Or.inl ew_1390) (hsH6.1 0 (by decide)).1 (hsH6.1 0 (by decide)).2.1 ?_
      obtain ⟨z7, E⟩ := gd_some E
      refine ea_iast (pc := 34) dX12_aCharge_34 (hsH6.1 34 (by decide)).1 (hsH6.1 34 (by decide)).2.1 (ea_vpl (hsH6.1 34 (by decide)).2.2 z7) ?_
      have hs8 : ShM b0 (ea_wi H6 (b0 + 34) (Int32.toNatClampNeg (ea_i H6 (b0 + 0) 44)) (ea_i H6 (b0 + 0) 45)) := ShM_wi hsH6
      obtain ⟨H9, eH9, E⟩ := let_some E
      refine ea_nm eH9 ?_
      have hsH9 : ShM b0 H9 := by rw [eH9]; exact hs8
      refine ea_aload_n (pc := 35) dX12_aCharge_35 rfl 0 rfl ?_
      refine ea_getI (pc := 36) dX12_aCharge_36 ec_12 (k := 54) (Nat.le_of_ble_eq_true rfl) rfl (Or.inl ew_1399) (hsH9.1 0 (by decide)).1 (hsH9.1 0 (by decide)).2.1 ?_
      refine ea_bipush (pc := 39) dX12_aCharge_39 (v := 10) rfl ?_
      refine ea_icmp_ne (pc := 41) (tgt := 57) dX12_aCharge_41 rfl (fun c21 => ?_) (fun c21 => ?_)
      · have E := (if_neg c21).symm.trans E
        refine ea_aload_n (pc := 57) dX12_aCharge_57 rfl 0 rfl ?_
        refine ea_dup (pc := 58) dX12_aCharge_58 rfl ?_
        refine ea_getI (pc := 59) dX12_aCharge_59 ec_12 (k := 44) (Nat.le_of_ble_eq_true rfl) rfl (Or.inl ew_1389) (hsH9.1 0 (by decide)).1 (hsH9.1 0 (by decide)).2.1 ?_
        refine ea_iconst (pc := 62) dX12_aCharge_62 (v := 1) rfl ?_
        refine ea_iadd (pc := 63) dX12_aCharge_63 ?_
        refine ea_putI (pc := 64) dX12_aCharge_64 ec_12 (k := 44) (Nat.le_of_ble_eq_true rfl) rfl (Or.inl ⟨rfl, Or.inl ew_1389⟩) rfl rfl (hsH9.1 0 (by decide)).1 (hsH9.1 0 (by decide)).2.1 ?_
        have hs10 : ShM b0 (ea_wi H9 (b0 + 0) 44 ((ea_i H9 (b0 + 0) 44) + (1 : Int32))) := ShM_wi hsH9
        obtain ⟨H11, eH11, E⟩ := let_some E
        refine ea_nm eH11 ?_
        have hsH11 : ShM b0 H11 := by rw [eH11]; exact hs10
        refine ea_iconst (pc := 67) dX12_aCharge_67 (v := 1) rfl ?_
        exact ea_iretO (pc := 68) dX12_aCharge_68 rfl (ea_bn (Or.inr rfl)) E
      · have E := (if_pos c21).symm.trans E
        refine ea_aload_n (pc := 44) dX12_aCharge_44 rfl 0 rfl ?_
        obtain ⟨z12, E⟩ := gd_some E
        refine ea_callV (pc := 45) (d' := d - 1) (As := []) (st := []) dX12_aCharge_45 kX12_next0 (sX12_next0 (d := d - 1) (by omega) hsH9 z12) (by omega) rfl (Nat.le_of_ble_eq_true rfl) ew_1822 ew_1824 ew_63 (ci := 12) rfl (by decide) (hsH9.1 0 (by decide)).1 (hsH9.1 0 (by decide)).2.1 ?_
        have hs13 : ShM b0 (wX12_next0 b0 H9) := shX12_next0 hsH9
        obtain ⟨H14, eH14, E⟩ := let_some E
        refine ea_nm eH14 ?_
        have hsH14 : ShM b0 H14 := by rw [eH14]; exact hs13
        refine ea_aload_n (pc := 48) dX12_aCharge_48 rfl 0 rfl ?_
        obtain ⟨z15, E⟩ := gd_some E
        refine ea_callV (pc := 49) (d' := d - 1) (As := []) (st := []) dX12_aCharge_49 kX12_any (sX12_any (d := d - 1) (by omega) hsH14 z15) (by omega) rfl (Nat.le_of_ble_eq_true rfl) ew_1950 ew_1952 ew_77 (ci := 12) rfl (by decide) (hsH14.1 0 (by decide)).1 (hsH14.1 0 (by decide)).2.1 ?_
        have hs16 : ShM b0 (wX12_any b0 H14) := shX12_any hsH14
        obtain ⟨H17, eH17, E⟩ := let_some E
        refine ea_nm eH17 ?_
        have hsH17 : ShM b0 H17 := by rw [eH17]; exact hs16
        refine ea_if_ne (pc := 52) (tgt := 57) dX12_aCharge_52 rfl (fun c20 => ?_) (fun c20 => ?_)
        · have E := (if_neg c20).symm.trans E
          refine ea_aload_n (pc := 57) dX12_aCharge_57 rfl 0 rfl ?_
          refine ea_dup (pc := 58) dX12_aCharge_58 rfl ?_
          refine ea_getI (pc := 59) dX12_aCharge_59 ec_12 (k := 44) (Nat.le_of_ble_eq_true rfl) rfl (Or.inl ew_1389) (hsH17.1 0 (by decide)).1 (hsH17.1 0 (by decide)).2.1 ?_
          refine ea_iconst (pc := 62) dX12_aCharge_62 (v := 1) rfl ?_
          refine ea_iadd (pc := 63) dX12_aCharge_63 ?_
          refine ea_putI (pc := 64) dX12_aCharge_64 ec_12 (k := 44) (Nat.le_of_ble_eq_true rfl) rfl (Or.inl ⟨rfl, Or.inl ew_1389⟩) rfl rfl (hsH17.1 0 (by decide)).1 (hsH17.1 0 (by decide)).2.1 ?_
          have hs18 : ShM b0 (ea_wi H17 (b0 + 0) 44 ((ea_i H17 (b0 + 0) 44) + (1 : Int32))) := ShM_wi hsH17
          obtain ⟨H19, eH19, E⟩ := let_some E
          refine ea_nm eH19 ?_
          have hsH19 : ShM b0 H19 := by rw [eH19]; exact hs18
          refine ea_iconst (pc := 67) dX12_aCharge_67 (v := 1) rfl ?_
          exact ea_iretO (pc := 68) dX12_aCharge_68 rfl (ea_bn (Or.inr rfl)) E
        · have E := (if_pos c20).symm.trans E
          refine ea_iconst (pc := 55) dX12_aCharge_55 (v := 0) rfl ?_
          exact ea_iretO (pc := 56) dX12_aCharge_56 rfl (ea_bn (Or.inl rfl)) E
    · have E := (if_pos c22).symm.trans E
      refine ea_iconst (pc := 20) dX12_aCharge_20 (v := 0) rfl ?_
      exact ea_iretO (pc := 21) dX12_aCharge_21 rfl (ea_bn (Or.inl rfl)) E
noncomputable def qX12_aCharge (b0 : Nat) (h : ea_H) : Option (Int32 × ea_H) := gX12_aCharge b0 1000000000 0  h
def okX12_aCharge (b0 : Nat) (h : ea_H) : Prop := ∃ x, qX12_aCharge b0 h = some x
noncomputable def vX12_aCharge (b0 : Nat) (h : ea_H) : Int32 := ((qX12_aCharge b0 h).getD (0, h)).1
noncomputable def wX12_aCharge (b0 : Nat) (h : ea_H) : ea_H := ((qX12_aCharge b0 h).getD (0, h)).2
theorem sX12_aCharge {d : Nat} {b0 : Nat} {h : ea_H} (hd : 90 ≤ d) (hs : ShM b0 h) (K : okX12_aCharge b0 h) : ea_Met mX12_aCharge d [vR (some (b0 + 0))] h (some (vI (vX12_aCharge b0 h))) (wX12_aCharge b0 h) := by
  obtain ⟨⟨x, y⟩, K⟩ := K
  unfold wX12_aCharge vX12_aCharge
  rw [K]
  unfold qX12_aCharge at K
  exact ea_enter rfl (Nat.le_of_ble_eq_true rfl) ((tX12_aCharge hd 1000000000 0  h x y K hs) rfl)
theorem zX12_aCharge {b0 : Nat} : ∀ (f lbl : Nat) (h : ea_H) (r : Int32) (h' : ea_H), gX12_aCharge b0 f lbl  h = some (r, h') → ShM b0 h → ShM b0 h' := by
  intro f
  induction f with
  | zero => intro lbl  h r h' E; cases E
  | succ f ih =>
    intro lbl  h r h' E hs
    unfold gX12_aCharge at E
    obtain ⟨z1, E⟩ := gd_some E
    obtain ⟨H3, eH3, E⟩ := let_some E
    have hsH3 : ShM b0 H3 := by rw [eH3]; exact (ShM_wi hs)
    obtain ⟨z4, E⟩ := gd_some E
    obtain ⟨H6, eH6, E⟩ := let_some E
    have hsH6 : ShM b0 H6 := by rw [eH6]; exact (shX12_sumOf hsH3)
    by_cases c22 : (vX12_sumOf b0 H3) = (0 : Int32)
    · have E := (if_pos c22).symm.trans E
      exact ea_shO E hsH6
    have E := (if_neg c22).symm.trans E
    obtain ⟨z7, E⟩ := gd_some E
    obtain ⟨H9, eH9, E⟩ := let_some E
    have hsH9 : ShM b0 H9 := by rw [eH9]; exact (ShM_wi hsH6)
    by_cases c21 : (ea_i H9 (b0 + 0) 54) = (10 : Int32)
    · have E := (if_pos c21).symm.trans E
      obtain ⟨z12, E⟩ := gd_some E
      obtain ⟨H14, eH14, E⟩ := let_some E
      have hsH14 : ShM b0 H14 := by rw [eH14]; exact (shX12_next0 hsH9)
      obtain ⟨z15, E⟩ := gd_some E
      obtain ⟨H17, eH17, E⟩ := let_some E
      have hsH17 : ShM b0 H17 := by rw [eH17]; exact (shX12_any hsH14)
      by_cases c20 : (vX12_any b0 H14) = (0 : Int32)
      · have E := (if_pos c20).symm.trans E
        exact ea_shO E hsH17
      have E := (if_neg c20).symm.trans E
      obtain ⟨H19, eH19, E⟩ := let_some E
      have hsH19 : ShM b0 H19 := by rw [eH19]; exact (ShM_wi hsH17)
      exact ea_shO E hsH19
    have E := (if_neg c21).symm.trans E
    obtain ⟨H11, eH11, E⟩ := let_some E
    have hsH11 : ShM b0 H11 := by rw [eH11]; exact (ShM_wi hsH9)
    exact ea_shO E hsH11
theorem shX12_aCharge {b0 : Nat} {h : ea_H} (hs : ShM b0 h) : ShM b0 (wX12_aCharge b0 h) := by
  unfold wX12_aCharge
  cases K : qX12_aCharge b0 h with
  | none => exact hs
  | some x => obtain ⟨x, y⟩ := x; unfold qX12_aCharge at K; exact zX12_aCharge _ _  _ _ _ K hs
noncomputable def gX12_inner (b0 : Nat) : Nat → Nat → Int32 → Int32 → ea_H → Option (Int32 × ea_H)
  | 0, _, _, _, _ => none
  | f + 1, lbl, sx0, x1, h =>
    if lbl = 0 then (if x1 = (3 : Int32) then (gd ((okX12_aCharge b0 h)) (ea_let (wX12_aCharge b0 h) fun H4 => (gd ((vX12_aCharge b0 h) = 0 ∨ (vX12_aCharge b0 h) = 1) ((some ((vX12_aCharge b0 h), H4)))))) else (if x1 = (5 : Int32) then (gX12_inner b0 f 24 (99 : Int32) (x1 : Int32) h) else (gX12_inner b0 f 24 (9999 : Int32) (x1 : Int32) h))) else
    if lbl = 24 then (gd ((okX12_aNumber b0 (sx0 : Int32) h)) (ea_let (wX12_aNumber b0 (sx0 : Int32) h) fun H9 => (if (vX12_aNumber b0 (sx0 : Int32) h) = (0 : Int32) then (some ((0 : Int32), H9)) else (if x1 = (4 : Int32) then (gd ((okX12_need b0 (9 : Int32) H9)) (ea_let (wX12_need b0 (9 : Int32) H9) fun H12 => (if (vX12_need b0 (9 : Int32) H9) = (0 : Int32) then (some ((0 : Int32), H12)) else (gd ((okX12_aNumber b0 (1439 : Int32) H12)) (ea_let (wX12_aNumber b0 (1439 : Int32) H12) fun H15 => (if (vX12_aNumber b0 (1439 : Int32) H12) = (0 : Int32) then (some ((0 : Int32), H15)) else (ea_let (ea_wi H15 (b0 + 0) 46 (ea_i H9 (b0 + 0) 61)) fun H17 => (ea_let (ea_wi H17 (b0 + 0) 47 (ea_i H17 (b0 + 0) 61)) fun H19 => (gX12_inner b0 f 76 0 (x1 : Int32) H19))))))))) else (gX12_inner b0 f 76 0 (x1 : Int32) H9))))) else
    if lbl = 76 then (if x1 = (5 : Int32) then (ea_let (ea_wi h (b0 + 0) 48 (ea_i h (b0 + 0) 61)) fun H25 => (gX12_inner b0 f 89 0 (x1 : Int32) H25)) else (gX12_inner b0 f 89 0 (x1 : Int32) h)) else
    if lbl = 89 then (if x1 = (6 : Int32) then (ea_let (ea_wi h (b0 + 0) 49 (ea_i h (b0 + 0) 61)) fun H28 => (gX12_inner b0 f 103 0 (x1 : Int32) H28)) else (gX12_inner b0 f 103 0 (x1 : Int32) h)) else
    if lbl = 103 then (if x1 = (7 : Int32) then (ea_let (ea_wi h (b0 + 0) 50 (ea_i h (b0 + 0) 61)) fun H31 => (gX12_inner b0 f 117 0 (x1 : Int32) H31)) else (gX12_inner b0 f 117 0 (x1 : Int32) h)) else
    if lbl = 117 then (if x1 = (8 : Int32) then (ea_let (ea_wi h (b0 + 0) 51 (ea_i h (b0 + 0) 61)) fun H34 => (some ((1 : Int32), H34))) else (some ((1 : Int32), h))) else none
theorem tX12_inner {d : Nat} {b0 : Nat} {h0 : ea_H} (hd : 91 ≤ d) : ∀ (f lbl : Nat) (sx0 : Int32) (x1 : Int32) (h : ea_H) (r : Int32) (h' : ea_H), gX12_inner b0 f lbl sx0 x1 h = some (r, h') → ShM b0 h → (lbl = 0 → ea_W mX12_inner d h0 (some (vI r)) h' 0 [(0, vR (some (b0 + 0))), (1, vI x1)] [] h) ∧ (lbl = 24 → ea_W mX12_inner d h0 (some (vI r)) h' 24 [(0, vR (some (b0 + 0))), (1, vI x1)] [vI sx0, vR (some (b0 + 0))] h) ∧ (lbl = 76 → ea_W mX12_inner d h0 (some (vI r)) h' 76 [(0, vR (some (b0 + 0))), (1, vI x1)] [] h) ∧ (lbl = 89 → ea_W mX12_inner d h0 (some (vI r)) h' 89 [(0, vR (some (b0 + 0))), (1, vI x1)] [] h) ∧ (lbl = 103 → ea_W mX12_inner d h0 (some (vI r)) h' 103 [(0, vR (some (b0 + 0))), (1, vI x1)] [] h) ∧ (lbl = 117 → ea_W mX12_inner d h0 (some (vI r)) h' 117 [(0, vR (some (b0 + 0))), (1, vI x1)] [] h) := by
  intro f
  induction f with
  | zero => intro lbl sx0 x1 h r h' E; cases E
  | succ f ih =>
    intro lbl sx0 x1 h r h' E hs
    unfold gX12_inner at E
    refine ⟨?_, ?_⟩
    · intro el
      subst el
      have E := (if_pos rfl).symm.trans E
      refine ea_iload_n (pc := 0) dX12_inner_0 rfl 1 rfl ?_
      refine ea_iconst (pc := 1) dX12_inner_1 (v := 3) rfl ?_
      refine ea_icmp_ne (pc := 2) (tgt := 10) dX12_inner_2 rfl (fun c6 => ?_) (fun c6 => ?_)
      · have E := (if_neg c6).symm.trans E
        refine ea_aload_n (pc := 10) dX12_inner_10 rfl 0 rfl ?_
        refine ea_iload_n (pc := 11) dX12_inner_11 rfl 1 rfl ?_
        refine ea_iconst (pc := 12) dX12_inner_12 (v := 5) rfl ?_
        refine ea_icmp_ne (pc := 13) (tgt := 21) dX12_inner_13 rfl (fun c1 => ?_) (fun c1 => ?_)
        · have E := (if_neg c1).symm.trans E
          refine ea_sipush (pc := 21) dX12_inner_21 (v := 9999) rfl ?_
          exact ((ih 24 (9999 : Int32) (x1 : Int32) h _ _ E hs).2.1 rfl)
        · have E := (if_pos c1).symm.trans E
          refine ea_bipush (pc := 16) dX12_inner_16 (v := 99) rfl ?_
          refine ea_goto (pc := 18) (tgt := 24) dX12_inner_18 rfl ?_
          exact ((ih 24 (99 : Int32) (x1 : Int32) h _ _ E hs).2.1 rfl)
      · have E := (if_pos c6).symm.trans E
        refine ea_aload_n (pc := 5) dX12_inner_5 rfl 0 rfl ?_
        obtain ⟨z2, E⟩ := gd_some E
        refine ea_callV (pc := 6) (d' := d - 1) (As := []) (st := []) dX12_inner_6 kX12_aCharge (sX12_aCharge (d := d - 1) (by omega) hs z2) (by omega) rfl (Nat.le_of_ble_eq_true rfl) ew_1922 ew_1924 ew_70 (ci := 12) rfl (by decide) (hs.1 0 (by decide)).1 (hs.1 0 (by decide)).2.1 ?_
        have hs3 : ShM b0 (wX12_aCharge b0 h) := shX12_aCharge hs
        obtain ⟨H4, eH4, E⟩ := let_some E
        refine ea_nm eH4 ?_
        have hsH4 : ShM b0 H4 := by rw [eH4]; exact hs3
        obtain ⟨z5, E⟩ := gd_some E
        exact ea_iretO (pc := 9) dX12_inner_9 rfl (ea_bn z5) E
    refine ⟨?_, ?_⟩
    · intro el
      subst el
      have E := (if_neg (by decide)).symm.trans E
      have E := (if_pos rfl).symm.trans E
      obtain ⟨z7, E⟩ := gd_some E
      refine ea_callV (pc := 24) (d' := d - 1) (As := [vI sx0]) (st := []) dX12_inner_24 kX12_aNumber (sX12_aNumber (d := d - 1) (by omega) hs z7) (by omega) rfl (Nat.le_of_ble_eq_true rfl) ew_1962 ew_1964 ew_80 (ci := 12) rfl (by decide) (hs.1 0 (by decide)).1 (hs.1 0 (by decide)).2.1 ?_
      have hs8 : ShM b0 (wX12_aNumber b0 (sx0 : Int32) h) := shX12_aNumber hs
      obtain ⟨H9, eH9, E⟩ := let_some E
      refine ea_nm eH9 ?_
      have hsH9 : ShM b0 H9 := by rw [eH9]; exact hs8
      refine ea_if_ne (pc := 27) (tgt := 32) dX12_inner_27 rfl (fun c23 => ?_) (fun c23 => ?_)
      · have E := (if_neg c23).symm.trans E
        refine ea_iload_n (pc := 32) dX12_inner_32 rfl 1 rfl ?_
        refine ea_iconst (pc := 33) dX12_inner_33 (v := 4) rfl ?_
        refine ea_icmp_ne (pc := 34) (tgt := 76) dX12_inner_34 rfl (fun c22 => ?_) (fun c22 => ?_)
        · have E := (if_neg c22).symm.trans E
          exact ((ih 76 0 (x1 : Int32) H9 _ _ E hsH9).2.2.1 rfl)
        · have E := (if_pos c22).symm.trans E
          refine ea_aload_n (pc := 37) dX12_inner_37 rfl 0 rfl ?_
          refine ea_getI (pc := 38) dX12_inner_38 ec_12 (k := 61) (Nat.le_of_ble_eq_true rfl) rfl (Or.inl ew_1406) (hsH9.1 0 (by decide)).1 (hsH9.1 0 (by decide)).2.1 ?_
          refine ea_istore_n (pc := 41) (lv' := [(0, vR (some (b0 + 0))), (1, vI x1), (2, vI (ea_i H9 (b0 + 0) 61))]) dX12_inner_41 rfl (Nat.le_of_ble_eq_true rfl) [1, 2, 0] rfl ?_
          refine ea_aload_n (pc := 42) dX12_inner_42 rfl 0 rfl ?_
          refine ea_bipush (pc := 43) dX12_inner_43 (v := 9) rfl ?_
          obtain ⟨z10, E⟩ := gd_some E
          refine ea_callV (pc := 45) (d' := d - 1) (As := [vI 9]) (st := []) dX12_inner_45 kX12_need (sX12_need (d := d - 1) (by omega) hsH9 z10) (by omega) rfl (Nat.le_of_ble_eq_true rfl) ew_1942 ew_1944 ew_75 (ci := 12) rfl (by decide) (hsH9.1 0 (by decide)).1 (hsH9.1 0 (by decide)).2.1 ?_
          have hs11 : ShM b0 (wX12_need b0 (9 : Int32) H9) := shX12_need hsH9
          obtain ⟨H12, eH12, E⟩ := let_some E
          refine ea_nm eH12 ?_
          have hsH12 : ShM b0 H12 := by rw [eH12]; exact hs11
          refine ea_if_eq (pc := 48) (tgt := 61) dX12_inner_48 rfl (fun c21 => ?_) (fun c21 => ?_)
          · have E := (if_pos c21).symm.trans E
            refine ea_iconst (pc := 61) dX12_inner_61 (v := 0) rfl ?_
            exact ea_iretO (pc := 62) dX12_inner_62 rfl (ea_bn (Or.inl rfl)) E
          · have E := (if_neg c21).symm.trans E
            refine ea_aload_n (pc := 51) dX12_inner_51 rfl 0 rfl ?_
            refine ea_sipush (pc := 52) dX12_inner_52 (v := 1439) rfl ?_
            obtain ⟨z13, E⟩ := gd_some E
            refine ea_callV (pc := 55) (d' := d - 1) (As := [vI 1439]) (st := []) dX12_inner_55 kX12_aNumber (sX12_aNumber (d := d - 1) (by omega) hsH12 z13) (by omega) rfl (Nat.le_of_ble_eq_true rfl) ew_1962 ew_1964 ew_80 (ci := 12) rfl (by decide) (hsH12.1 0 (by decide)).1 (hsH12.1 0 (by decide)).2.1 ?_
            have hs14 : ShM b0 (wX12_aNumber b0 (1439 : Int32) H12) := shX12_aNumber hsH12
            obtain ⟨H15, eH15, E⟩ := let_some E
            refine ea_nm eH15 ?_
            have hsH15 : ShM b0 H15 := by rw [eH15]; exact hs14
            refine ea_if_ne (pc := 58) (tgt := 63) dX12_inner_58 rfl (fun c20 => ?_) (fun c20 => ?_)
            · have E := (if_neg c20).symm.trans E
              refine ea_aload_n (pc := 63) dX12_inner_63 rfl 0 rfl ?_
              refine ea_iload_n (pc := 64) dX12_inner_64 rfl 2 rfl ?_
              refine ea_putI (pc := 65) dX12_inner_65 ec_12 (k := 46) (Nat.le_of_ble_eq_true rfl) rfl (Or.inl ⟨rfl, Or.inl ew_1391⟩) rfl rfl (hsH15.1 0 (by decide)).1 (hsH15.1 0 (by decide)).2.1 ?_
              have hs16 : ShM b0 (ea_wi H15 (b0 + 0) 46 (ea_i H9 (b0 + 0) 61)) := ShM_wi hsH15
              obtain ⟨H17, eH17, E⟩ := let_some E
              refine ea_nm eH17 ?_
              have hsH17 : ShM b0 H17 := by rw [eH17]; exact hs16
              refine ea_aload_n (pc := 68) dX12_inner_68 rfl 0 rfl ?_
              refine ea_aload_n (pc := 69) dX12_inner_69 rfl 0 rfl ?_
              refine ea_getI (pc := 70) dX12_inner_70 ec_12 (k := 61) (Nat.le_of_ble_eq_true rfl) rfl (Or.inl ew_1406) (hsH17.1 0 (by decide)).1 (hsH17.1 0 (by decide)).2.1 ?_
              refine ea_putI (pc := 73) dX12_inner_73 ec_12 (k := 47) (Nat.le_of_ble_eq_true rfl) rfl (Or.inl ⟨rfl, Or.inl ew_1392⟩) rfl rfl (hsH17.1 0 (by decide)).1 (hsH17.1 0 (by decide)).2.1 ?_
              have hs18 : ShM b0 (ea_wi H17 (b0 + 0) 47 (ea_i H17 (b0 + 0) 61)) := ShM_wi hsH17
              obtain ⟨H19, eH19, E⟩ := let_some E
              refine ea_nm eH19 ?_
              have hsH19 : ShM b0 H19 := by rw [eH19]; exact hs18
              exact (ea_fewer [0, 1] rfl ((ih 76 0 (x1 : Int32) H19 _ _ E hsH19).2.2.1 rfl))
            · have E := (if_pos c20).symm.trans E
              refine ea_iconst (pc := 61) dX12_inner_61 (v := 0) rfl ?_
              exact ea_iretO (pc := 62) dX12_inner_62 rfl (ea_bn (Or.inl rfl)) E
      · have E := (if_pos c23).symm.trans E
        refine ea_iconst (pc := 30) dX12_inner_30 (v := 0) rfl ?_
        exact ea_iretO (pc := 31) dX12_inner_31 rfl (ea_bn (Or.inl rfl)) E
    refine ⟨?_, ?_⟩
    · intro el
      subst el
      have E := (if_neg (by decide)).symm.trans E
      have E := (if_neg (by decide)).symm.trans E
      have E := (if_pos rfl).symm.trans E
      refine ea_iload_n (pc := 76) dX12_inner_76 rfl 1 rfl ?_
      refine ea_iconst (pc := 77) dX12_inner_77 (v := 5) rfl ?_
      refine ea_icmp_ne (pc := 78) (tgt := 89) dX12_inner_78 rfl (fun c26 => ?_) (fun c26 => ?_)
      · have E := (if_neg c26).symm.trans E
        exact ((ih 89 0 (x1 : Int32) h _ _ E hs).2.2.2.1 rfl)
      · have E := (if_pos c26).symm.trans E
        refine ea_aload_n (pc := 81) dX12_inner_81 rfl 0 rfl ?_
        refine ea_aload_n (pc := 82) dX12_inner_82 rfl 0 rfl ?_
        refine ea_getI (pc := 83) dX12_inner_83 ec_12 (k := 61) (Nat.le_of_ble_eq_true rfl) rfl (Or.inl ew_1406) (hs.1 0 (by decide)).1 (hs.1 0 (by decide)).2.1 ?_
        refine ea_putI (pc := 86) dX12_inner_86 ec_12 (k := 48) (Nat.le_of_ble_eq_true rfl) rfl (Or.inl ⟨rfl, Or.inl ew_1393⟩) rfl rfl (hs.1 0 (by decide)).1 (hs.1 0 (by decide)).2.1 ?_
        have hs24 : ShM b0 (ea_wi h (b0 + 0) 48 (ea_i h (b0 + 0) 61)) := ShM_wi hs
        obtain ⟨H25, eH25, E⟩ := let_some E
        refine ea_nm eH25 ?_
        have hsH25 : ShM b0 H25 := by rw [eH25]; exact hs24
        exact ((ih 89 0 (x1 : Int32) H25 _ _ E hsH25).2.2.2.1 rfl)
    refine ⟨?_, ?_⟩
    · intro el
      subst el
      have E := (if_neg (by decide)).symm.trans E
      have E := (if_neg (by decide)).symm.trans E
      have E := (if_neg (by decide)).symm.trans E
      have E := (if_pos rfl).symm.trans E
      refine ea_iload_n (pc := 89) dX12_inner_89 rfl 1 rfl ?_
      refine ea_bipush (pc := 90) dX12_inner_90 (v := 6) rfl ?_
      refine ea_icmp_ne (pc := 92) (tgt := 103) dX12_inner_92 rfl (fun c29 => ?_) (fun c29 => ?_)
      · have E := (if_neg c29).symm.trans E
        exact ((ih 103 0 (x1 : Int32) h _ _ E hs).2.2.2.2.1 rfl)
      · have E := (if_pos c29).symm.trans E
        refine ea_aload_n (pc := 95) dX12_inner_95 rfl 0 rfl ?_
        refine ea_aload_n (pc := 96) dX12_inner_96 rfl 0 rfl ?_
        refine ea_getI (pc := 97) dX12_inner_97 ec_12 (k := 61) (Nat.le_of_ble_eq_true rfl) rfl (Or.inl ew_1406) (hs.1 0 (by decide)).1 (hs.1 0 (by decide)).2.1 ?_
        refine ea_putI (pc := 100) dX12_inner_100 ec_12 (k := 49) (Nat.le_of_ble_eq_true rfl) rfl (Or.inl ⟨rfl, Or.inl ew_1394⟩) rfl rfl (hs.1 0 (by decide)).1 (hs.1 0 (by decide)).2.1 ?_
        have hs27 : ShM b0 (ea_wi h (b0 + 0) 49 (ea_i h (b0 + 0) 61)) := ShM_wi hs
        obtain ⟨H28, eH28, E⟩ := let_some E
        refine ea_nm eH28 ?_
        have hsH28 : ShM b0 H28 := by rw [eH28]; exact hs27
        exact ((ih 103 0 (x1 : Int32) H28 _ _ E hsH28).2.2.2.2.1 rfl)
    refine ⟨?_, ?_⟩
    · intro el
      subst el
      have E := (if_neg (by decide)).symm.trans E
      have E := (if_neg (by decide)).symm.trans E
      have E := (if_neg (by decide)).symm.trans E
      have E := (if_neg (by decide)).symm.trans E
      have E := (if_pos rfl).symm.trans E
      refine ea_iload_n (pc := 103) dX12_inner_103 rfl 1 rfl ?_
      refine ea_bipush (pc := 104) dX12_inner_104 (v := 7) rfl ?_
      refine ea_icmp_ne (pc := 106) (tgt := 117) dX12_inner_106 rfl (fun c32 => ?_) (fun c32 => ?_)
      · have E := (if_neg c32).symm.trans E
        exact ((ih 117 0 (x1 : Int32) h _ _ E hs).2.2.2.2.2 rfl)
      · have E := (if_pos c32).symm.trans E
        refine ea_aload_n (pc := 109) dX12_inner_109 rfl 0 rfl ?_
        refine ea_aload_n (pc := 110) dX12_inner_110 rfl 0 rfl ?_
        refine ea_getI (pc := 111) dX12_inner_111 ec_12 (k := 61) (Nat.le_of_ble_eq_true rfl) rfl (Or.inl ew_1406) (hs.1 0 (by decide)).1 (hs.1 0 (by decide)).2.1 ?_
        refine ea_putI (pc := 114) dX12_inner_114 ec_12 (k := 50) (Nat.le_of_ble_eq_true rfl) rfl (Or.inl ⟨rfl, Or.inl ew_1395⟩) rfl rfl (hs.1 0 (by decide)).1 (hs.1 0 (by decide)).2.1 ?_
        have hs30 : ShM b0 (ea_wi h (b0 + 0) 50 (ea_i h (b0 + 0) 61)) := ShM_wi hs
        obtain ⟨H31, eH31, E⟩ := let_some E
        refine ea_nm eH31 ?_
        have hsH31 : ShM b0 H31 := by rw [eH31]; exact hs30
        exact ((ih 117 0 (x1 : Int32) H31 _ _ E hsH31).2.2.2.2.2 rfl)
    intro el
    subst el
    have E := (if_neg (by decide)).symm.trans E
    have E := (if_neg (by decide)).symm.trans E
    have E := (if_neg (by decide)).symm.trans E
    have E := (if_neg (by decide)).symm.trans E
    have E := (if_neg (by decide)).symm.trans E
    have E := (if_pos rfl).symm.trans E
    refine ea_iload_n (pc := 117) dX12_inner_117 rfl 1 rfl ?_
    refine ea_bipush (pc := 118) dX12_inner_118 (v := 8) rfl ?_
    refine ea_icmp_ne (pc := 120) (tgt := 131) dX12_inner_120 rfl (fun c35 => ?_) (fun c35 => ?_)
    · have E := (if_neg c35).symm.trans E
      refine ea_iconst (pc := 131) dX12_inner_131 (v := 1) rfl ?_
      exact ea_iretO (pc := 132) dX12_inner_132 rfl (ea_bn (Or.inr rfl)) E
    · have E := (if_pos c35).symm.trans E
      refine ea_aload_n (pc := 123) dX12_inner_123 rfl 0 rfl ?_
      refine ea_aload_n (pc := 124) dX12_inner_124 rfl 0 rfl ?_
      refine ea_getI (pc := 125) dX12_inner_125 ec_12 (k := 61) (Nat.le_of_ble_eq_true rfl) rfl (Or.inl ew_1406) (hs.1 0 (by decide)).1 (hs.1 0 (by decide)).2.1 ?_
      refine ea_putI (pc := 128) dX12_inner_128 ec_12 (k := 51) (Nat.le_of_ble_eq_true rfl) rfl (Or.inl ⟨rfl, Or.inl ew_1396⟩) rfl rfl (hs.1 0 (by decide)).1 (hs.1 0 (by decide)).2.1 ?_
      have hs33 : ShM b0 (ea_wi h (b0 + 0) 51 (ea_i h (b0 + 0) 61)) := ShM_wi hs
      obtain ⟨H34, eH34, E⟩ := let_some E
      refine ea_nm eH34 ?_
      have hsH34 : ShM b0 H34 := by rw [eH34]; exact hs33
      refine ea_iconst (pc := 131) dX12_inner_131 (v := 1) rfl ?_
      exact ea_iretO (pc := 132) dX12_inner_132 rfl (ea_bn (Or.inr rfl)) E
noncomputable def qX12_inner (b0 : Nat) (x1 : Int32) (h : ea_H) : Option (Int32 × ea_H) := gX12_inner b0 1000000000 0 0 x1 h
def okX12_inner (b0 : Nat) (x1 : Int32) (h : ea_H) : Prop := ∃ x, qX12_inner b0 x1 h = some x
noncomputable def vX12_inner (b0 : Nat) (x1 : Int32) (h : ea_H) : Int32 := ((qX12_inner b0 x1 h).getD (0, h)).1
noncomputable def wX12_inner (b0 : Nat) (x1 : Int32) (h : ea_H) : ea_H := ((qX12_inner b0 x1 h).getD (0, h)).2
theorem sX12_inner {d : Nat} {b0 : Nat} {x1 : Int32} {h : ea_H} (hd : 91 ≤ d) (hs : ShM b0 h) (K : okX12_inner b0 x1 h) : ea_Met mX12_inner d [vR (some (b0 + 0)), vI x1] h (some (vI (vX12_inner b0 x1 h))) (wX12_inner b0 x1 h) := by
  obtain ⟨⟨x, y⟩, K⟩ := K
  unfold wX12_inner vX12_inner
  rw [K]
  unfold qX12_inner at K
  exact ea_enter rfl (Nat.le_of_ble_eq_true rfl) ((tX12_inner hd 1000000000 0 0 x1 h x y K hs).1 rfl)
theorem zX12_inner {b0 : Nat} : ∀ (f lbl : Nat) (sx0 : Int32) (x1 : Int32) (h : ea_H) (r : Int32) (h' : ea_H), gX12_inner b0 f lbl sx0 x1 h = some (r, h') → ShM b0 h → ShM b0 h' := by
  intro f
  induction f with
  | zero => intro lbl sx0 x1 h r h' E; cases E
  | succ f ih =>
    intro lbl sx0 x1 h r h' E hs
    unfold gX12_inner at E
    by_cases el0 : lbl = 0
    · have E := (if_pos el0).symm.trans E
      by_cases c6 : x1 = (3 : Int32)
      · have E := (if_pos c6).symm.trans E
        obtain ⟨z2, E⟩ := gd_some E
        obtain ⟨H4, eH4, E⟩ := let_some E
        have hsH4 : ShM b0 H4 := by rw [eH4]; exact (shX12_aCharge hs)
        obtain ⟨z5, E⟩ := gd_some E
        exact ea_shO E hsH4
      have E := (if_neg c6).symm.trans E
      by_cases c1 : x1 = (5 : Int32)
      · have E := (if_pos c1).symm.trans E
        exact ih 24 (99 : Int32) (x1 : Int32) h _ _ E hs
      have E := (if_neg c1).symm.trans E
      exact ih 24 (9999 : Int32) (x1 : Int32) h _ _ E hs
    have E := (if_neg el0).symm.trans E
    by_cases el1 : lbl = 24
    · have E := (if_pos el1).symm.trans E
      obtain ⟨z7, E⟩ := gd_some E
      obtain ⟨H9, eH9, E⟩ := let_some E
      have hsH9 : ShM b0 H9 := by rw [eH9]; exact (shX12_aNumber hs)
      by_cases c23 : (vX12_aNumber b0 (sx0 : Int32) h) = (0 : Int32)
      · have E := (if_pos c23).symm.trans E
        exact ea_shO E hsH9
      have E := (if_neg c23).symm.trans E
      by_cases c22 : x1 = (4 : Int32)
      · have E := (if_pos c22).symm.trans E
        obtain ⟨z10, E⟩ := gd_some E
        obtain ⟨H12, eH12, E⟩ := let_some E
        have hsH12 : ShM b0 H12 := by rw [eH12]; exact (shX12_need hsH9)
        by_cases c21 : (vX12_need b0 (9 : Int32) H9) = (0 : Int32)
        · have E := (if_pos c21).symm.trans E
          exact ea_shO E hsH12
        have E := (if_neg c21).symm.trans E
        obtain ⟨z13, E⟩ := gd_some E
        obtain ⟨H15, eH15, E⟩ := let_some E
        have hsH15 : ShM b0 H15 := by rw [eH15]; exact (shX12_aNumber hsH12)
        by_cases c20 : (vX12_aNumber b0 (1439 : Int32) H12) = (0 : Int32)
        · have E := (if_pos c20).symm.trans E
          exact ea_shO E hsH15
        have E := (if_neg c20).symm.trans E
        obtain ⟨H17, eH17, E⟩ := let_some E
        have hsH17 : ShM b0 H17 := by rw [eH17]; exact (ShM_wi hsH15)
        obtain ⟨H19, eH19, E⟩ := let_some E
        have hsH19 : ShM b0 H19 := by rw [eH19]; exact (ShM_wi hsH17)
        exact ih 76 0 (x1 : Int32) H19 _ _ E hsH19
      have E := (if_neg c22).symm.trans E
      exact ih 76 0 (x1 : Int32) H9 _ _ E hsH9
    have E := (if_neg el1).symm.trans E
    by_cases el2 : lbl = 76
    · have E := (if_pos el2).symm.trans E
      by_cases c26 : x1 = (5 : Int32)
      · have E := (if_pos c26).symm.trans E
        obtain ⟨H25, eH25, E⟩ := let_some E
        have hsH25 : ShM b0 H25 := by rw [eH25]; exact (ShM_wi hs)
        exact ih 89 0 (x1 : Int32) H25 _ _ E hsH25
      have E := (if_neg c26).symm.trans E
      exact ih 89 0 (x1 : Int32) h _ _ E hs
    have E := (if_neg el2).symm.trans E
    by_cases el3 : lbl = 89
    · have E := (if_pos el3).symm.trans E
      by_cases c29 : x1 = (6 : Int32)
      · have E := (if_pos c29).symm.trans E
        obtain ⟨H28, eH28, E⟩ := let_some E
        have hsH28 : ShM b0 H28 := by rw [eH28]; exact (ShM_wi hs)
        exact ih 103 0 (x1 : Int32) H28 _ _ E hsH28
      have E := (if_neg c29).symm.trans E
      exact ih 103 0 (x1 : Int32) h _ _ E hs
    have E := (if_neg el3).symm.trans E
    by_cases el4 : lbl = 103
    · have E := (if_pos el4).symm.trans E
      by_cases c32 : x1 = (7 : Int32)
      · have E := (if_pos c32).symm.trans E
        obtain ⟨H31, eH31, E⟩ := let_some E
        have hsH31 : ShM b0 H31 := by rw [eH31]; exact (ShM_wi hs)
        exact ih 117 0 (x1 : Int32) H31 _ _ E hsH31
      have E := (if_neg c32).symm.trans E
      exact ih 117 0 (x1 : Int32) h _ _ E hs
    have E := (if_neg el4).symm.trans E
    by_cases el5 : lbl = 117
    · have E := (if_pos el5).symm.trans E
      by_cases c35 : x1 = (8 : Int32)
      · have E := (if_pos c35).symm.trans E
        obtain ⟨H34, eH34, E⟩ := let_some E
        have hsH34 : ShM b0 H34 := by rw [eH34]; exact (ShM_wi hs)
        exact ea_shO E hsH34
      have E := (if_neg c35).symm.trans E
      exact ea_shO E hs
    have E := (if_neg el5).symm.trans E
    cases E
theorem shX12_inner {b0 : Nat} {x1 : Int32} {h : ea_H} (hs : ShM b0 h) : ShM b0 (wX12_inner b0 x1 h) := by
  unfold wX12_inner
  cases K : qX12_inner b0 x1 h with
  | none => exact hs
  | some x => obtain ⟨x, y⟩ := x; unfold qX12_inner at K; exact zX12_inner _ _ _ _ _ _ _ K hs
noncomputable def vX12_aLine (b0 : Nat) (h : ea_H) : Int32 := (if (vX12_isIn ((ea_i h (b0 + 0) 54) : Int32) (3 : Int32) (8 : Int32) h) = (0 : Int32) then (vX12_bad b0 (1 : Int32) h) else (if (ea_i h (b0 + 0) 43) = (24 : Int32) then (vX12_bad b0 (3 : Int32) h) else (if (vX12_inner b0 ((ea_i h (b0 + 0) 54) : Int32) (wX12_next0 b0 (ea_wi h (b0 + 0) 60 0))) = (0 : Int32) then (0 : Int32) else (vX12_need b0 (59 : Int32) (ea_wi (wX12_inner b0 ((ea_i h (b0 + 0) 54) : Int32) (wX12_next0 b0 (ea_wi h (b0 + 0) 60 0))) (b0 + 0) 43 ((ea_i (wX12_inner b0 ((ea_i h (b0 + 0) 54) : Int32) (wX12_next0 b0 (ea_wi h (b0 + 0) 60 0))) (b0 + 0) 43) + (1 : Int32)))))))
noncomputable def wX12_aLine (b0 : Nat) (h : ea_H) : ea_H := (if (vX12_isIn ((ea_i h (b0 + 0) 54) : Int32) (3 : Int32) (8 : Int32) h) = (0 : Int32) then (wX12_bad b0 (1 : Int32) h) else (if (ea_i h (b0 + 0) 43) = (24 : Int32) then (wX12_bad b0 (3 : Int32) h) else (if (vX12_inner b0 ((ea_i h (b0 + 0) 54) : Int32) (wX12_next0 b0 (ea_wi h (b0 + 0) 60 0))) = (0 : Int32) then (wX12_inner b0 ((ea_i h (b0 + 0) 54) : Int32) (wX12_next0 b0 (ea_wi h (b0 + 0) 60 0))) else (wX12_need b0 (59 : Int32) (ea_wi (wX12_inner b0 ((ea_i h (b0 + 0) 54) : Int32) (wX12_next0 b0 (ea_wi h (b0 + 0) 60 0))) (b0 + 0) 43 ((ea_i (wX12_inner b0 ((ea_i h (b0 + 0) 54) : Int32) (wX12_next0 b0 (ea_wi h (b0 + 0) 60 0))) (b0 + 0) 43) + (1 : Int32)))))))
def okX12_aLine (b0 : Nat) (h : ea_H) : Prop := ((vX12_isIn ((ea_i h (b0 + 0) 54) : Int32) (3 : Int32) (8 : Int32) h) = (0 : Int32) → True) ∧ (¬ (vX12_isIn ((ea_i h (b0 + 0) 54) : Int32) (3 : Int32) (8 : Int32) h) = (0 : Int32) → ((ea_i h (b0 + 0) 43) = (24 : Int32) → True) ∧ (¬ (ea_i h (b0 + 0) 43) = (24 : Int32) → (okX12_next0 b0 (ea_wi h (b0 + 0) 60 0)) ∧ ((okX12_inner b0 ((ea_i h (b0 + 0) 54) : Int32) (wX12_next0 b0 (ea_wi h (b0 + 0) 60 0))) ∧ (((vX12_inner b0 ((ea_i h (b0 + 0) 54) : Int32) (wX12_next0 b0 (ea_wi h (b0 + 0) 60 0))) = (0 : Int32) → True) ∧ (¬ (vX12_inner b0 ((ea_i h (b0 + 0) 54) : Int32) (wX12_next0 b0 (ea_wi h (b0 + 0) 60 0))) = (0 : Int32) → (okX12_need b0 (59 : Int32) (ea_wi (wX12_inner b0 ((ea_i h (b0 + 0) 54) : Int32) (wX12_next0 b0 (ea_wi h (b0 + 0) 60 0))) (b0 + 0) 43 ((ea_i (wX12_inner b0 ((ea_i h (b0 + 0) 54) : Int32) (wX12_next0 b0 (ea_wi h (b0 + 0) 60 0))) (b0 + 0) 43) + (1 : Int32)))))))))
theorem bo_vX12_aLine (b0 : Nat) (h : ea_H) : vX12_aLine b0 h = 0 ∨ vX12_aLine b0 h = 1 := (ea_itB (bo_vX12_bad _ _ _) (ea_itB (bo_vX12_bad _ _ _) (ea_itB (Or.inl rfl) (bo_vX12_need _ _ _))))
theorem shX12_aLine {b0 : Nat} {h : ea_H} (hs : ShM b0 h) : ShM b0 (wX12_aLine b0 h) := (ShM_it (shX12_bad hs) (ShM_it (shX12_bad hs) (ShM_it (shX12_inner (shX12_next0 (ShM_wi hs))) (shX12_need (ShM_wi (shX12_inner (shX12_next0 (ShM_wi hs))))))))
theorem sX12_aLine {d : Nat} {b0 : Nat} {h : ea_H} (hd : 92 ≤ d) (hs : ShM b0 h) (K : okX12_aLine b0 h) : ea_Met mX12_aLine d [vR (some (b0 + 0))] h (some (vI (vX12_aLine b0 h))) (wX12_aLine b0 h) := by
  obtain ⟨X, EX⟩ : ∃ z, z = vX12_aLine b0 h := ⟨_, rfl⟩
  rw [← EX]
  unfold vX12_aLine at EX
  obtain ⟨Y, EY⟩ : ∃ z, z = wX12_aLine b0 h := ⟨_, rfl⟩
  rw [← EY]
  unfold wX12_aLine at EY
  unfold okX12_aLine at K
  refine ea_enter rfl (Nat.le_of_ble_eq_true rfl) ?_
  refine ea_aload_n (pc := 0) dX12_aLine_0 rfl 0 rfl ?_
  refine ea_getI (pc := 1) dX12_aLine_1 ec_12 (k := 54) (Nat.le_of_ble_eq_true rfl) rfl (Or.inl ew_1399) (hs.1 0 (by decide)).1 (hs.1 0 (by decide)).2.1 ?_
  refine ea_iconst (pc := 4) dX12_aLine_4 (v := 3) rfl ?_
  refine ea_bipush (pc := 5) dX12_aLine_5 (v := 8) rfl ?_
  refine ea_callS (pc := 7) (d' := d - 1) (As := [vI (ea_i h (b0 + 0) 54), vI 3, vI 8]) (st := []) dX12_aLine_7 kX12_isIn (sX12_isIn (d := d - 1) (by omega)) (by omega) rfl (Nat.le_of_ble_eq_true rfl) ew_1712 ew_1713 ?_
  refine ea_if_ne (pc := 10) (tgt := 19) dX12_aLine_10 rfl (fun c16 => ?_) (fun c16 => ?_)
  · have EX := EX.trans (if_neg c16)
    have EY := EY.trans (if_neg c16)
    have K := K.2 c16
    refine ea_aload_n (pc := 19) dX12_aLine_19 rfl 0 rfl ?_
    refine ea_getI (pc := 20) dX12_aLine_20 ec_12 (k := 43) (Nat.le_of_ble_eq_true rfl) rfl (Or.inl ew_1388) (hs.1 0 (by decide)).1 (hs.1 0 (by decide)).2.1 ?_
    refine ea_bipush (pc := 23) dX12_aLine_23 (v := 24) rfl ?_
    refine ea_icmp_ne (pc := 25) (tgt := 34) dX12_aLine_25 rfl (fun c13 => ?_) (fun c13 => ?_)
    · have EX := EX.trans (if_neg c13)
      have EY := EY.trans (if_neg c13)
      have K := K.2 c13
      refine ea_aload_n (pc := 34) dX12_aLine_34 rfl 0 rfl ?_
      refine ea_getI (pc := 35) dX12_aLine_35 ec_12 (k := 54) (Nat.le_of_ble_eq_true rfl) rfl (Or.inl ew_1399) (hs.1 0 (by decide)).1 (hs.1 0 (by decide)).2.1 ?_
      refine ea_istore_n (pc := 38) (lv' := [(0, vR (some (b0 + 0))), (1, vI (ea_i h (b0 + 0) 54))]) dX12_aLine_38 rfl (Nat.le_of_ble_eq_true rfl) [1, 0] rfl ?_
      refine ea_aload_n (pc := 39) dX12_aLine_39 rfl 0 rfl ?_
      refine ea_iconst (pc := 40) dX12_aLine_40 (v := 0) rfl ?_
      refine ea_putI (pc := 41) dX12_aLine_41 ec_12 (k := 60) (Nat.le_of_ble_eq_true rfl) rfl (Or.inl ⟨rfl, Or.inl ew_1405⟩) rfl rfl (hs.1 0 (by decide)).1 (hs.1 0 (by decide)).2.1 ?_
      have hs2 : ShM b0 (ea_wi h (b0 + 0) 60 0) := ShM_wi hs
      refine ea_aload_n (pc := 44) dX12_aLine_44 rfl 0 rfl ?_
      obtain ⟨z3, K⟩ := K
      refine ea_callV (pc := 45) (d' := d - 1) (As := []) (st := []) dX12_aLine_45 kX12_next0 (sX12_next0 (d := d - 1) (by omega) hs2 z3) (by omega) rfl (Nat.le_of_ble_eq_true rfl) ew_1822 ew_1824 ew_63 (ci := 12) rfl (by decide) (hs2.1 0 (by decide)).1 (hs2.1 0 (by decide)).2.1 ?_
      have hs4 : ShM b0 (wX12_next0 b0 (ea_wi h (b0 + 0) 60 0)) := shX12_next0 hs2
      refine ea_aload_n (pc := 48) dX12_aLine_48 rfl 0 rfl ?_
      refine ea_iload_n (pc := 49) dX12_aLine_49 rfl 1 rfl ?_
      obtain ⟨z5, K⟩ := K
      refine ea_callV (pc := 50) (d' := d - 1) (As := [vI (ea_i h (b0 + 0) 54)]) (st := []) dX12_aLine_50 kX12_inner (sX12_inner (d := d - 1) (by omega) hs4 z5) (by omega) rfl (Nat.le_of_ble_eq_true rfl) ew_1918 ew_1920 ew_69 (ci := 12) rfl (by decide) (hs4.1 0 (by decide)).1 (hs4.1 0 (by decide)).2.1 ?_
      have hs6 : ShM b0 (wX12_inner b0 ((ea_i h (b0 + 0) 54) : Int32) (wX12_next0 b0 (ea_wi h (b0 + 0) 60 0))) := shX12_inner hs4
      refine ea_if_ne (pc := 53) (tgt := 58) dX12_aLine_53 rfl (fun c10 => ?_) (fun c10 => ?_)
      · have EX := EX.trans (if_neg c10)
        have EY := EY.trans (if_neg c10)
        have K := K.2 c10
        refine ea_aload_n (pc := 58) dX12_aLine_58 rfl 0 rfl ?_
        refine ea_dup (pc := 59) dX12_aLine_59 rfl ?_
        refine ea_getI (pc := 60) dX12_aLine_60 ec_12 (k := 43) (Nat.le_of_ble_eq_true rfl) rfl (Or.inl ew_1388) (hs6.1 0 (by decide)).1 (hs6.1 0 (by decide)).2.1 ?_
        refine ea_iconst (pc := 63) dX12_aLine_63 (v := 1) rfl ?_
        refine ea_iadd (pc := 64) dX12_aLine_64 ?_
        refine ea_putI (pc := 65) dX12_aLine_65 ec_12 (k := 43) (Nat.le_of_ble_eq_true rfl) rfl (Or.inl ⟨rfl, Or.inl ew_1388⟩) rfl rfl (hs6.1 0 (by decide)).1 (hs6.1 0 (by decide)).2.1 ?_
        have hs7 : ShM b0 (ea_wi (wX12_inner b0 ((ea_i h (b0 + 0) 54) : Int32) (wX12_next0 b0 (ea_wi h (b0 + 0) 60 0))) (b0 + 0) 43 ((ea_i (wX12_inner b0 ((ea_i h (b0 + 0) 54) : Int32) (wX12_next0 b0 (ea_wi h (b0 + 0) 60 0))) (b0 + 0) 43) + (1 : Int32))) := ShM_wi hs6
        refine ea_aload_n (pc := 68) dX12_aLine_68 rfl 0 rfl ?_
        refine ea_bipush (pc := 69) dX12_aLine_69 (v := 59) rfl ?_
        have z8 := K
        refine ea_callV (pc := 71) (d' := d - 1) (As := [vI 59]) (st := []) dX12_aLine_71 kX12_need (sX12_need (d := d - 1) (by omega) hs7 z8) (by omega) rfl (Nat.le_of_ble_eq_true rfl) ew_1942 ew_1944 ew_75 (ci := 12) rfl (by decide) (hs7.1 0 (by decide)).1 (hs7.1 0 (by decide)).2.1 ?_
        have hs9 : ShM b0 (wX12_need b0 (59 : Int32) (ea_wi (wX12_inner b0 ((ea_i h (b0 + 0) 54) : Int32) (wX12_next0 b0 (ea_wi h (b0 + 0) 60 0))) (b0 + 0) 43 ((ea_i (wX12_inner b0 ((ea_i h (b0 + 0) 54) : Int32) (wX12_next0 b0 (ea_wi h (b0 + 0) 60 0))) (b0 + 0) 43) + (1 : Int32)))) := shX12_need hs7
        exact ea_iretE (pc := 74) dX12_aLine_74 rfl (ea_bn (bo_vX12_need ..)) EX EY
      · have EX := EX.trans (if_pos c10)
        have EY := EY.trans (if_pos c10)
        refine ea_iconst (pc := 56) dX12_aLine_56 (v := 0) rfl ?_
        exact ea_iretE (pc := 57) dX12_aLine_57 rfl (ea_bn (Or.inl rfl)) EX EY
    · have EX := EX.trans (if_pos c13)
      have EY := EY.trans (if_pos c13)
      refine ea_aload_n (pc := 28) dX12_aLine_28 rfl 0 rfl ?_
      refine ea_iconst (pc := 29) dX12_aLine_29 (v := 3) rfl ?_
      refine ea_callV (pc := 30) (d' := d - 1) (As := [vI 3]) (st := []) dX12_aLine_30 kX12_bad (sX12_bad (d := d - 1) (by omega) hs) (by omega) rfl (Nat.le_of_ble_eq_true rfl) ew_1914 ew_1916 ew_68 (ci := 12) rfl (by decide) (hs.1 0 (by decide)).1 (hs.1 0 (by decide)).2.1 ?_
      have hs12 : ShM b0 (wX12_bad b0 (3 : Int32) h) := shX12_bad hs
      exact ea_iretE (pc := 33) dX12_aLine_33 rfl (ea_bn (bo_vX12_bad ..)) EX EY
  · have EX := EX.trans (if_pos c16)
    have EY := EY.trans (if_pos c16)
    refine ea_aload_n (pc := 13) dX12_aLine_13 rfl 0 rfl ?_
    refine ea_iconst (pc := 14) dX12_aLine_14 (v := 1) rfl ?_
    refine ea_callV (pc := 15) (d' := d - 1) (As := [vI 1]) (st := []) dX12_aLine_15 kX12_bad (sX12_bad (d := d - 1) (by omega) hs) (by omega) rfl (Nat.le_of_ble_eq_true rfl) ew_1914 ew_1916 ew_68 (ci := 12) rfl (by decide) (hs.1 0 (by decide)).1 (hs.1 0 (by decide)).2.1 ?_
    have hs15 : ShM b0 (wX12_bad b0 (1 : Int32) h) := shX12_bad hs
    exact ea_iretE (pc := 18) dX12_aLine_18 rfl (ea_bn (bo_vX12_bad ..)) EX EY
noncomputable def gX12_act (b0 : Nat) : Nat → Nat → Int32 → Int32 → Int32 → Int32 → Int32 → ea_H → Option (Int32 × ea_H)
  | 0, _, _, _, _, _, _, _ => none
  | f + 1, lbl, sx0, x1, x2, x3, x4, h =>
    if lbl = 0 then (ea_let (ea_wi h (b0 + 0) 59 0) fun H2 => (ea_let (ea_wi H2 (b0 + 0) 62 (-1)) fun H4 => (if (vX12_isDay (x1 : Int32) H4) = (0 : Int32) then (ea_let (ea_wi H4 (b0 + 0) 52 0) fun H7 => (some (((-1) : Int32), H7))) else (if (ea_i H4 (b0 + 0) 25) = (6 : Int32) then (ea_let (ea_wi H4 (b0 + 0) 52 0) fun H9 => (some (((-1) : Int32), H9))) else (if (ea_i H4 (b0 + 0) 25) ≤ (0 : Int32) then (gX12_act b0 f 55 0 (x1 : Int32) 0 0 0 H4) else (gd (vp_in ((ea_i H4 (b0 + 0) 25) - (1 : Int32)) 6) (if (ea_i H4 (b0 + 21) (Int32.toNatClampNeg ((ea_i H4 (b0 + 0) 25) - (1 : Int32)))) ≤ x1 then (gX12_act b0 f 55 0 (x1 : Int32) 0 0 0 H4) else (ea_let (ea_wi H4 (b0 + 0) 52 0) fun H12 => (some (((-1) : Int32), H12)))))))))) else
    if lbl = 55 then (ea_let (ea_wi h (b0 + 0) 57 0) fun H18 => (ea_let (ea_wi H18 (b0 + 0) 53 0) fun H20 => (ea_let (ea_wi H20 (b0 + 0) 43 0) fun H22 => (ea_let (ea_wi H22 (b0 + 0) 44 0) fun H24 => (ea_let (ea_wi H24 (b0 + 0) 45 0) fun H26 => (ea_let (ea_wi H26 (b0 + 0) 46 0) fun H28 => (ea_let (ea_wi H28 (b0 + 0) 47 1439) fun H30 => (ea_let (ea_wi H30 (b0 + 0) 48 0) fun H32 => (ea_let (ea_wi H32 (b0 + 0) 49 0) fun H34 => (ea_let (ea_wi H34 (b0 + 0) 50 0) fun H36 => (ea_let (ea_wi H36 (b0 + 0) 51 3) fun H38 => (gd ((okX12_next0 b0 H38)) (ea_let (wX12_next0 b0 H38) fun H41 => (gX12_act b0 f 118 0 (x1 : Int32) (1 : Int32) 0 0 H41)))))))))))))) else
    if lbl = 118 then (if x2 = (0 : Int32) then (gX12_act b0 f 137 0 (x1 : Int32) (x2 : Int32) 0 0 h) else (if (ea_i h (b0 + 0) 54) = (0 : Int32) then (gX12_act b0 f 137 0 (x1 : Int32) (x2 : Int32) 0 0 h) else (gd ((okX12_aLine b0 h)) (ea_let (wX12_aLine b0 h) fun H44 => (gX12_act b0 f 118 0 (x1 : Int32) ((vX12_aLine b0 h) : Int32) 0 0 H44))))) else
    if lbl = 137 then (ea_let (ea_wi h (b0 + 0) 52 0) fun H48 => (ea_let (ea_wi H48 (b0 + 0) 59 (ea_i H48 (b0 + 0) 57)) fun H50 => (if x2 = (0 : Int32) then (gX12_act b0 f 163 ((ea_i H50 (b0 + 0) 58) : Int32) (x1 : Int32) (x2 : Int32) 0 0 H50) else (gX12_act b0 f 163 ((-1) : Int32) (x1 : Int32) (x2 : Int32) 0 0 H50)))) else
    if lbl = 163 then (ea_let (ea_wi h (b0 + 0) 62 sx0) fun H53 => (if x2 = (0 : Int32) then (some (((-1) : Int32), H53)) else (ea_let (ea_wi H53 (b0 + 0) 25 ((ea_i H53 (b0 + 0) 25) + (1 : Int32))) fun H55 => (gd (vp_in (ea_i H53 (b0 + 0) 25) 6) (ea_let (ea_wi H55 (b0 + 21) (Int32.toNatClampNeg (ea_i H53 (b0 + 0) 25)) x1) fun H58 => (gd (vp_in (ea_i H53 (b0 + 0) 25) 6) (ea_let (ea_wi H58 (b0 + 22) (Int32.toNatClampNeg (ea_i H53 (b0 + 0) 25)) (ea_i H58 (b0 + 0) 43)) fun H61 => (gd (vp_in (ea_i H53 (b0 + 0) 25) 6) (ea_let (ea_wi H61 (b0 + 23) (Int32.toNatClampNeg (ea_i H53 (b0 + 0) 25)) (ea_i H61 (b0 + 0) 46)) fun H64 => (gd (vp_in (ea_i H53 (b0 + 0) 25) 6) (ea_let (ea_wi H64 (b0 + 24) (Int32.toNatClampNeg (ea_i H53 (b0 + 0) 25)) (ea_i H64 (b0 + 0) 47)) fun H67 => (gd (vp_in (ea_i H53 (b0 + 0) 25) 6) (ea_let (ea_wi H67 (b0 + 25) (Int32.toNatClampNeg (ea_i H53 (b0 + 0) 25)) (ea_i H67 (b0 + 0) 48)) fun H70 => (gd (vp_in (ea_i H53 (b0 + 0) 25) 6) (ea_let (ea_wi H70 (b0 + 26) (Int32.toNatClampNeg (ea_i H53 (b0 + 0) 25)) (ea_i H70 (b0 + 0) 49)) fun H73 => (gd (vp_in (ea_i H53 (b0 + 0) 25) 6) (ea_let (ea_wi H73 (b0 + 27) (Int32.toNatClampNeg (ea_i H53 (b0 + 0) 25)) (ea_i H73 (b0 + 0) 50)) fun H76 => (gd (vp_in (ea_i H53 (b0 + 0) 25) 6) (ea_let (ea_wi H76 (b0 + 28) (Int32.toNatClampNeg (ea_i H53 (b0 + 0) 25)) (ea_i H76 (b0 + 0) 51)) fun H79 => (gd (vp_in (ea_i H53 (b0 + 0) 25) 6) (ea_let (ea_wi H79 (b0 + 29) (Int32.toNatClampNeg (ea_i H53 (b0 + 0) 25)) (ea_i H79 (b0 + 0) 44)) fun H82 => (gX12_act b0 f 277 0 0 0 ((ea_i H53 (b0 + 0) 25) : Int32) (0 : Int32) H82)))))))))))))))))))))) else
    if lbl = 277 then (if (ea_i h (b0 + 0) 44) ≤ x4 then (gd (vp_in (((25 : Int32) * x3) + (ea_i h (b0 + 0) 44)) 150) (ea_let (ea_wi h (b0 + 30) (Int32.toNatClampNeg (((25 : Int32) * x3) + (ea_i h (b0 + 0) 44))) (ea_i h (b0 + 0) 45)) fun H86 => (gX12_act b0 f 351 0 0 0 (x3 : Int32) (0 : Int32) H86))) else (gd (vp_in x4 25) (gd (vp_in (((25 : Int32) * x3) + x4) 150) (ea_let (ea_wi h (b0 + 30) (Int32.toNatClampNeg (((25 : Int32) * x3) + x4)) (ea_i h (b0 + 33) (Int32.toNatClampNeg x4))) fun H90 => (gd (vp_in x4 24) (gd (vp_in (((24 : Int32) * x3) + x4) 144) (ea_let (ea_wi H90 (b0 + 31) (Int32.toNatClampNeg (((24 : Int32) * x3) + x4)) (ea_i H90 (b0 + 34) (Int32.toNatClampNeg x4))) fun H94 => (gX12_act b0 f 277 0 0 0 (x3 : Int32) ((x4 + (1 : Int32)) : Int32) H94)))))))) else
    if lbl = 351 then (if ((2 : Int32) * (ea_i h (b0 + 0) 45)) ≤ x4 then (some (x3, h)) else (gd (vp_in x4 1220) (gd (vp_in (((1220 : Int32) * x3) + x4) 7320) (ea_let (ea_wi h (b0 + 32) (Int32.toNatClampNeg (((1220 : Int32) * x3) + x4)) (ea_i h (b0 + 35) (Int32.toNatClampNeg x4))) fun H99 => (gX12_act b0 f 351 0 0 0 (x3 : Int32) ((x4 + (1 : Int32)) : Int32) H99))))) else none
theorem tX12_act {d : Nat} {b0 : Nat} {h0 : ea_H} (hd : 93 ≤ d) : ∀ (f lbl : Nat) (sx0 : Int32) (x1 : Int32) (x2 : Int32) (x3 : Int32) (x4 : Int32) (h : ea_H) (r : Int32) (h' : ea_H), gX12_act b0 f lbl sx0 x1 x2 x3 x4 h = some (r, h') → ShM b0 h → (lbl = 0 → ea_W mX12_act d h0 (some (vI r)) h' 0 [(0, vR (some (b0 + 0))), (1, vI x1)] [] h) ∧ (lbl = 55 → ea_W mX12_act d h0 (some (vI r)) h' 55 [(0, vR (some (b0 + 0))), (1, vI x1)] [] h) ∧ (lbl = 118 → ea_W mX12_act d h0 (some (vI r)) h' 118 [(0, vR (some (b0 + 0))), (1, vI x1), (2, vI x2)] [] h) ∧ (lbl = 137 → ea_W mX12_act d h0 (some (vI r)) h' 137 [(0, vR (some (b0 + 0))), (1, vI x1), (2, vI x2)] [] h) ∧ (lbl = 163 → ea_W mX12_act d h0 (some (vI r)) h' 163 [(0, vR (some (b0 + 0))), (1, vI x1), (2, vI x2)] [vI sx0, vR (some (b0 + 0))] h) ∧ (lbl = 277 → ea_W mX12_act d h0 (some (vI r)) h' 277 [(0, vR (some (b0 + 0))), (3, vI x3), (4, vI x4)] [] h) ∧ (lbl = 351 → ea_W mX12_act d h0 (some (vI r)) h' 351 [(0, vR (some (b0 + 0))), (3, vI x3), (4, vI x4)] [] h) := by
  intro f
  induction f with
  | zero => intro lbl sx0 x1 x2 x3 x4 h r h' E; cases E
  | succ f ih =>
    intro lbl sx0 x1 x2 x3 x4 h r h' E hs
    unfold gX12_act at E
    refine ⟨?_, ?_⟩
    · intro el
      subst el
      have E := (if_pos rfl).symm.trans E
      refine ea_aload_n (pc := 0) dX12_act_0 rfl 0 rfl ?_
      refine ea_iconst (pc := 1) dX12_act_1 (v := 0) rfl ?_
      refine ea_putI (pc := 2) dX12_act_2 ec_12 (k := 59) (Nat.le_of_ble_eq_true rfl) rfl (Or.inl ⟨rfl, Or.inl ew_1404⟩) rfl rfl (hs.1 0 (by decide)).1 (hs.1 0 (by decide)).2.1 ?_
      have hs1 : ShM b0 (ea_wi h (b0 + 0) 59 0) := ShM_wi hs
      obtain ⟨H2, eH2, E⟩ := let_some E
      refine ea_nm eH2 ?_
      have hsH2 : ShM b0 H2 := by rw [eH2]; exact hs1
      refine ea_aload_n (pc := 5) dX12_act_5 rfl 0 rfl ?_
      refine ea_iconst (pc := 6) dX12_act_6 (v := (-1)) rfl ?_
      refine ea_putI (pc := 7) dX12_act_7 ec_12 (k := 62) (Nat.le_of_ble_eq_true rfl) rfl (Or.inl ⟨rfl, Or.inl ew_1407⟩) rfl rfl (hsH2.1 0 (by decide)).1 (hsH2.1 0 (by decide)).2.1 ?_
      have hs3 : ShM b0 (ea_wi H2 (b0 + 0) 62 (-1)) := ShM_wi hsH2
      obtain ⟨H4, eH4, E⟩ := let_some E
      refine ea_nm eH4 ?_
      have hsH4 : ShM b0 H4 := by rw [eH4]; exact hs3
      refine ea_iload_n (pc := 10) dX12_act_10 rfl 1 rfl ?_
      refine ea_callS (pc := 11) (d' := d - 1) (As := [vI x1]) (st := []) dX12_act_11 kX12_isDay (sX12_isDay (d := d - 1) (by omega)) (by omega) rfl (Nat.le_of_ble_eq_true rfl) ew_1752 ew_1753 ?_
      refine ea_if_eq (pc := 14) (tgt := 48) dX12_act_14 rfl (fun c16 => ?_) (fun c16 => ?_)
      · have E := (if_pos c16).symm.trans E
        refine ea_aload_n (pc := 48) dX12_act_48 rfl 0 rfl ?_
        refine ea_iconst (pc := 49) dX12_act_49 (v := 0) rfl ?_
        refine ea_putI (pc := 50) dX12_act_50 ec_12 (k := 52) (Nat.le_of_ble_eq_true rfl) rfl (Or.inl ⟨rfl, Or.inl ew_1397⟩) rfl rfl (hsH4.1 0 (by decide)).1 (hsH4.1 0 (by decide)).2.1 ?_
        have hs6 : ShM b0 (ea_wi H4 (b0 + 0) 52 0) := ShM_wi hsH4
        obtain ⟨H7, eH7, E⟩ := let_some E
        refine ea_nm eH7 ?_
        have hsH7 : ShM b0 H7 := by rw [eH7]; exact hs6
        refine ea_iconst (pc := 53) dX12_act_53 (v := (-1)) rfl ?_
        exact ea_iretO (pc := 54) dX12_act_54 rfl rfl E
      · have E := (if_neg c16).symm.trans E
        refine ea_aload_n (pc := 17) dX12_act_17 rfl 0 rfl ?_
        refine ea_getI (pc := 18) dX12_act_18 ec_12 (k := 25) (Nat.le_of_ble_eq_true rfl) rfl (Or.inl ew_1370) (hsH4.1 0 (by decide)).1 (hsH4.1 0 (by decide)).2.1 ?_
        refine ea_bipush (pc := 21) dX12_act_21 (v := 6) rfl ?_
        refine ea_icmp_eq (pc := 23) (tgt := 48) dX12_act_23 rfl (fun c15 => ?_) (fun c15 => ?_)
        · have E := (if_pos c15).symm.trans E
          refine ea_aload_n (pc := 48) dX12_act_48 rfl 0 rfl ?_
          refine ea_iconst (pc := 49) dX12_act_49 (v := 0) rfl ?_
          refine ea_putI (pc := 50) dX12_act_50 ec_12 (k := 52) (Nat.le_of_ble_eq_true rfl) rfl (Or.inl ⟨rfl, Or.inl ew_1397⟩) rfl rfl (hsH4.1 0 (by decide)).1 (hsH4.1 0 (by decide)).2.1 ?_
          have hs8 : ShM b0 (ea_wi H4 (b0 + 0) 52 0) := ShM_wi hsH4
          obtain ⟨H9, eH9, E⟩ := let_some E
          refine ea_nm eH9 ?_
          have hsH9 : ShM b0 H9 := by rw [eH9]; exact hs8
          refine ea_iconst (pc := 53) dX12_act_53 (v := (-1)) rfl ?_
          exact ea_iretO (pc := 54) dX12_act_54 rfl rfl E
        · have E := (if_neg c15).symm.trans E
          refine ea_aload_n (pc := 26) dX12_act_26 rfl 0 rfl ?_
          refine ea_getI (pc := 27) dX12_act_27 ec_12 (k := 25) (Nat.le_of_ble_eq_true rfl) rfl (Or.inl ew_1370) (hsH4.1 0 (by decide)).1 (hsH4.1 0 (by decide)).2.1 ?_
          refine ea_if_le (pc := 30) (tgt := 55) dX12_act_30 rfl (fun c14 => ?_) (fun c14 => ?_)
          · have E := (if_pos c14).symm.trans E
            exact ((ih 55 0 (x1 : Int32) 0 0 0 H4 _ _ E hsH4).2.1 rfl)
          · have E := (if_neg c14).symm.trans E
            refine ea_iload_n (pc := 33) dX12_act_33 rfl 1 rfl ?_
            refine ea_aload_n (pc := 34) dX12_act_34 rfl 0 rfl ?_
            refine ea_getR (pc := 35) dX12_act_35 ec_12 (k := 26) (Nat.le_of_ble_eq_true rfl) rfl (Or.inl ew_1371) (hsH4.1 0 (by decide)).1 (hsH4.1 0 (by decide)).2.1 (hsH4.2 0 26 rfl) ?_
            refine ea_aload_n (pc := 38) dX12_act_38 rfl 0 rfl ?_
            refine ea_getI (pc := 39) dX12_act_39 ec_12 (k := 25) (Nat.le_of_ble_eq_true rfl) rfl (Or.inl ew_1370) (hsH4.1 0 (by decide)).1 (hsH4.1 0 (by decide)).2.1 ?_
            refine ea_iconst (pc := 42) dX12_act_42 (v := 1) rfl ?_
            refine ea_isub (pc := 43) dX12_act_43 ?_
            obtain ⟨z10, E⟩ := gd_some E
            refine ea_iald (pc := 44) dX12_act_44 (hsH4.1 21 (by decide)).1 (hsH4.1 21 (by decide)).2.1 (ea_vpl (hsH4.1 21 (by decide)).2.2 z10) ?_
            refine ea_icmp_ge (pc := 45) (tgt := 55) dX12_act_45 rfl (fun c13 => ?_) (fun c13 => ?_)
            · have E := (if_pos c13).symm.trans E
              exact ((ih 55 0 (x1 : Int32) 0 0 0 H4 _ _ E hsH4).2.1 rfl)
            · have E := (if_neg c13).symm.trans E
              refine ea_aload_n (pc := 48) dX12_act_48 rfl 0 rfl ?_
              refine ea_iconst (pc := 49) dX12_act_49 (v := 0) rfl ?_
              refine ea_putI (pc := 50) dX12_act_50 ec_12 (k := 52) (Nat.le_of_ble_eq_true rfl) rfl (Or.inl ⟨rfl, Or.inl ew_1397⟩) rfl rfl (hsH4.1 0 (by decide)).1 (hsH4.1 0 (by decide)).2.1 ?_
              have hs11 : ShM b0 (ea_wi H4 (b0 + 0) 52 0) := ShM_wi hsH4
              obtain ⟨H12, eH12, E⟩ := let_some E
              refine ea_nm eH12 ?_
              have hsH12 : ShM b0 H12 := by rw [eH12]; exact hs11
              refine ea_iconst (pc := 53) dX12_act_53 (v := (-1)) rfl ?_
              exact ea_iretO (pc := 54) dX12_act_54 rfl rfl E
    refine ⟨?_, ?_⟩
    · intro el
      subst el
      have E := (if_neg (by decide)).symm.trans E
      have E := (if_pos rfl).symm.trans E
      refine ea_aload_n (pc := 55) dX12_act_55 rfl 0 rfl ?_
      refine ea_iconst (pc := 56) dX12_act_56 (v := 0) rfl ?_
      refine ea_putI (pc := 57) dX12_act_57 ec_12 (k := 57) (Nat.le_of_ble_eq_true rfl) rfl (Or.inl ⟨rfl, Or.inl ew_1402⟩) rfl rfl (hs.1 0 (by decide)).1 (hs.1 0 (by decide)).2.1 ?_
      have hs17 : ShM b0 (ea_wi h (b0 + 0) 57 0) := ShM_wi hs
      obtain ⟨H18, eH18, E⟩ := let_some E
      refine ea_nm eH18 ?_
      have hsH18 : ShM b0 H18 := by rw [eH18]; exact hs17
      refine ea_aload_n (pc := 60) dX12_act_60 rfl 0 rfl ?_
      refine ea_iconst (pc := 61) dX12_act_61 (v := 0) rfl ?_
      refine ea_putI (pc := 62) dX12_act_62 ec_12 (k := 53) (Nat.le_of_ble_eq_true rfl) rfl (Or.inl ⟨rfl, Or.inl ew_1398⟩) rfl rfl (hsH18.1 0 (by decide)).1 (hsH18.1 0 (by decide)).2.1 ?_
      have hs19 : ShM b0 (ea_wi H18 (b0 + 0) 53 0) := ShM_wi hsH18
      obtain ⟨H20, eH20, E⟩ := let_some E
      refine ea_nm eH20 ?_
      have hsH20 : ShM b0 H20 := by rw [eH20]; exact hs19
      refine ea_aload_n (pc := 65) dX12_act_65 rfl 0 rfl ?_
      refine ea_iconst (pc := 66) dX12_act_66 (v := 0) rfl ?_
      refine ea_putI (pc := 67) dX12_act_67 ec_12 (k := 43) (Nat.le_of_ble_eq_true rfl) rfl (Or.inl ⟨rfl, Or.inl ew_1388⟩) rfl rfl (hsH20.1 0 (by decide)).1 (hsH20.1 0 (by decide)).2.1 ?_
      have hs21 : ShM b0 (ea_wi H20 (b0 + 0) 43 0) := ShM_wi hsH20
      obtain ⟨H22, eH22, E⟩ := let_some E
      refine ea_nm eH22 ?_
      have hsH22 : ShM b0 H22 := by rw [eH22]; exact hs21
      refine ea_aload_n (pc := 70) dX12_act_70 rfl 0 rfl ?_
      refine ea_iconst (pc := 71) dX12_act_71 (v := 0) rfl ?_
      refine ea_putI (pc := 72) dX12_act_72 ec_12 (k := 44) (Nat.le_of_ble_eq_true rfl) rfl (Or.inl ⟨rfl, Or.inl ew_1389⟩) rfl rfl (hsH22.1 0 (by decide)).1 (hsH22.1 0 (by decide)).2.1 ?_
      have hs23 : ShM b0 (ea_wi H22 (b0 + 0) 44 0) := ShM_wi hsH22
      obtain ⟨H24, eH24, E⟩ := let_some E
      refine ea_nm eH24 ?_
      have hsH24 : ShM b0 H24 := by rw [eH24]; exact hs23
      refine ea_aload_n (pc := 75) dX12_act_75 rfl 0 rfl ?_
      refine ea_iconst (pc := 76) dX12_act_76 (v := 0) rfl ?_
      refine ea_putI (pc := 77) dX12_act_77 ec_12 (k := 45) (Nat.le_of_ble_eq_true rfl) rfl (Or.inl ⟨rfl, Or.inl ew_1390⟩) rfl rfl (hsH24.1 0 (by decide)).1 (hsH24.1 0 (by decide)).2.1 ?_
      have hs25 : ShM b0 (ea_wi H24 (b0 + 0) 45 0) := ShM_wi hsH24
      obtain ⟨H26, eH26, E⟩ := let_some E
      refine ea_nm eH26 ?_
      have hsH26 : ShM b0 H26 := by rw [eH26]; exact hs25
      refine ea_aload_n (pc := 80) dX12_act_80 rfl 0 rfl ?_
      refine ea_iconst (pc := 81) dX12_act_81 (v := 0) rfl ?_
      refine ea_putI (pc := 82) dX12_act_82 ec_12 (k := 46) (Nat.le_of_ble_eq_true rfl) rfl (Or.inl ⟨rfl, Or.inl ew_1391⟩) rfl rfl (hsH26.1 0 (by decide)).1 (hsH26.1 0 (by decide)).2.1 ?_
      have hs27 : ShM b0 (ea_wi H26 (b0 + 0) 46 0) := ShM_wi hsH26
      obtain ⟨H28, eH28, E⟩ := let_some E
      refine ea_nm eH28 ?_
      have hsH28 : ShM b0 H28 := by rw [eH28]; exact hs27
      refine ea_aload_n (pc := 85) dX12_act_85 rfl 0 rfl ?_
      refine ea_sipush (pc := 86) dX12_act_86 (v := 1439) rfl ?_
      refine ea_putI (pc := 89) dX12_act_89 ec_12 (k := 47) (Nat.le_of_ble_eq_true rfl) rfl (Or.inl ⟨rfl, Or.inl ew_1392⟩) rfl rfl (hsH28.1 0 (by decide)).1 (hsH28.1 0 (by decide)).2.1 ?_
      have hs29 : ShM b0 (ea_wi H28 (b0 + 0) 47 1439) := ShM_wi hsH28
      obtain ⟨H30, eH30, E⟩ := let_some E
      refine ea_nm eH30 ?_
      have hsH30 : ShM b0 H30 := by rw [eH30]; exact hs29
      refine ea_aload_n (pc := 92) dX12_act_92 rfl 0 rfl ?_
      refine ea_iconst (pc := 93) dX12_act_93 (v := 0) rfl ?_
      refine ea_putI (pc := 94) dX12_act_94 ec_12 (k := 48) (Nat.le_of_ble_eq_true rfl) rfl (Or.inl ⟨rfl, Or.inl ew_1393⟩) rfl rfl (hsH30.1 0 (by decide)).1 (hsH30.1 0 (by decide)).2.1 ?_
      have hs31 : ShM b0 (ea_wi H30 (b0 + 0) 48 0) := ShM_wi hsH30
      obtain ⟨H32, eH32, E⟩ := let_some E
      refine ea_nm eH32 ?_
      have hsH32 : ShM b0 H32 := by rw [eH32]; exact hs31
      refine ea_aload_n (pc := 97) dX12_act_97 rfl 0 rfl ?_
      refine ea_iconst (pc := 98) dX12_act_98 (v := 0) rfl ?_
      refine ea_putI (pc := 99) dX12_act_99 ec_12 (k := 49) (Nat.le_of_ble_eq_true rfl) rfl (Or.inl ⟨rfl, Or.inl ew_1394⟩) rfl rfl (hsH32.1 0 (by decide)).1 (hsH32.1 0 (by decide)).2.1 ?_
      have hs33 : ShM b0 (ea_wi H32 (b0 + 0) 49 0) := ShM_wi hsH32
      obtain ⟨H34, eH34, E⟩ := let_some E
      refine ea_nm eH34 ?_
      have hsH34 : ShM b0 H34 := by rw [eH34]; exact hs33
      refine ea_aload_n (pc := 102) dX12_act_102 rfl 0 rfl ?_
      refine ea_iconst (pc := 103) dX12_act_103 (v := 0) rfl ?_
      refine ea_putI (pc := 104) dX12_act_104 ec_12 (k := 50) (Nat.le_of_ble_eq_true rfl) rfl (Or.inl ⟨rfl, Or.inl ew_1395⟩) rfl rfl (hsH34.1 0 (by decide)).1 (hsH34.1 0 (by decide)).2.1 ?_
      have hs35 : ShM b0 (ea_wi H34 (b0 + 0) 50 0) := ShM_wi hsH34
      obtain ⟨H36, eH36, E⟩ := let_some E
      refine ea_nm eH36 ?_
      have hsH36 : ShM b0 H36 := by rw [eH36]; exact hs35
      refine ea_aload_n (pc := 107) dX12_act_107 rfl 0 rfl ?_
      refine ea_iconst (pc := 108) dX12_act_108 (v := 3) rfl ?_
      refine ea_putI (pc := 109) dX12_act_109 ec_12 (k := 51) (Nat.le_of_ble_eq_true rfl) rfl (Or.inl ⟨rfl, Or.inl ew_1396⟩) rfl rfl (hsH36.1 0 (by decide)).1 (hsH36.1 0 (by decide)).2.1 ?_
      have hs37 : ShM b0 (ea_wi H36 (b0 + 0) 51 3) := ShM_wi hsH36
      obtain ⟨H38, eH38, E⟩ := let_some E
      refine ea_nm eH38 ?_
      have hsH38 : ShM b0 H38 := by rw [eH38]; exact hs37
      refine ea_aload_n (pc := 112) dX12_act_112 rfl 0 rfl ?_
      obtain ⟨z39, E⟩ := gd_some E
      refine ea_callV (pc := 113) (d' := d - 1) (As := []) (st := []) dX12_act_113 kX12_next0 (sX12_next0 (d := d - 1) (by omega) hsH38 z39) (by omega) rfl (Nat.le_of_ble_eq_true rfl) ew_1822 ew_1824 ew_63 (ci := 12) rfl (by decide) (hsH38.1 0 (by decide)).1 (hsH38.1 0 (by decide)).2.1 ?_
      have hs40 : ShM b0 (wX12_next0 b0 H38) := shX12_next0 hsH38
      obtain ⟨H41, eH41, E⟩ := let_some E
      refine ea_nm eH41 ?_
      have hsH41 : ShM b0 H41 := by rw [eH41]; exact hs40
      refine ea_iconst (pc := 116) dX12_act_116 (v := 1) rfl ?_
      refine ea_istore_n (pc := 117) (lv' := [(0, vR (some (b0 + 0))), (1, vI x1), (2, vI 1)]) dX12_act_117 rfl (Nat.le_of_ble_eq_true rfl) [1, 2, 0] rfl ?_
      exact ((ih 118 0 (x1 : Int32) (1 : Int32) 0 0 H41 _ _ E hsH41).2.2.1 rfl)
    refine ⟨?_, ?_⟩
    · intro el
      subst el
      have E := (if_neg (by decide)).symm.trans E
      have E := (if_neg (by decide)).symm.trans E
      have E := (if_pos rfl).symm.trans E
      refine ea_iload_n (pc := 118) dX12_act_118 rfl 2 rfl ?_
      refine ea_if_eq (pc := 119) (tgt := 137) dX12_act_119 rfl (fun c46 => ?_) (fun c46 => ?_)
      · have E := (if_pos c46).symm.trans E
        exact ((ih 137 0 (x1 : Int32) (x2 : Int32) 0 0 h _ _ E hs).2.2.2.1 rfl)
      · have E := (if_neg c46).symm.trans E
        refine ea_aload_n (pc := 122) dX12_act_122 rfl 0 rfl ?_
        refine ea_getI (pc := 123) dX12_act_123 ec_12 (k := 54) (Nat.le_of_ble_eq_true rfl) rfl (Or.inl ew_1399) (hs.1 0 (by decide)).1 (hs.1 0 (by decide)).2.1 ?_
        refine ea_if_eq (pc := 126) (tgt := 137) dX12_act_126 rfl (fun c45 => ?_) (fun c45 => ?_)
        · have E := (if_pos c45).symm.trans E
          exact ((ih 137 0 (x1 : Int32) (x2 : Int32) 0 0 h _ _ E hs).2.2.2.1 rfl)
        · have E := (if_neg c45).symm.trans E
          refine ea_aload_n (pc := 129) dX12_act_129 rfl 0 rfl ?_
          obtain ⟨z42, E⟩ := gd_some E
          refine ea_callV (pc := 130) (d' := d - 1) (As := []) (st := []) dX12_act_130 kX12_aLine (sX12_aLine (d := d - 1) (by omega) hs z42) (by omega) rfl (Nat.le_of_ble_eq_true rfl) ew_1910 ew_1912 ew_67 (ci := 12) rfl (by decide) (hs.1 0 (by decide)).1 (hs.1 0 (by decide)).2.1 ?_
          have hs43 : ShM b0 (wX12_aLine b0 h) := shX12_aLine hs
          obtain ⟨H44, eH44, E⟩ := let_some E
          refine ea_nm eH44 ?_
          have hsH44 : ShM b0 H44 := by rw [eH44]; exact hs43
          refine ea_istore_n (pc := 133) (lv' := [(0, vR (some (b0 + 0))), (1, vI x1), (2, vI (vX12_aLine b0 h))]) dX12_act_133 rfl (Nat.le_of_ble_eq_true rfl) [1, 2, 0] rfl ?_
          refine ea_goto (pc := 134) (tgt := 118) dX12_act_134 rfl ?_
          exact ((ih 118 0 (x1 : Int32) ((vX12_aLine b0 h) : Int32) 0 0 H44 _ _ E hsH44).2.2.1 rfl)
    refine ⟨?_, ?_⟩
    · intro el
      subst el
      have E := (if_neg (by decide)).symm.trans E
      have E := (if_neg (by decide)).symm.trans E
      have E := (if_neg (by decide)).symm.trans E
      have E := (if_pos rfl).symm.trans E
      refine ea_aload_n (pc := 137) dX12_act_137 rfl 0 rfl ?_
      refine ea_iconst (pc := 138) dX12_act_138 (v := 0) rfl ?_
      refine ea_putI (pc := 139) dX12_act_139 ec_12 (k := 52) (Nat.le_of_ble_eq_true rfl) rfl (Or.inl ⟨rfl, Or.inl ew_1397⟩) rfl rfl (hs.1 0 (by decide)).1 (hs.1 0 (by decide)).2.1 ?_
      have hs47 : ShM b0 (ea_wi h (b0 + 0) 52 0) := ShM_wi hs
      obtain ⟨H48, eH48, E⟩ := let_some E
      refine ea_nm eH48 ?_
      have hsH48 : ShM b0 H48 := by rw [eH48]; exact hs47
      refine ea_aload_n (pc := 142) dX12_act_142 rfl 0 rfl ?_
      refine ea_aload_n (pc := 143) dX12_act_143 rfl 0 rfl ?_
      refine ea_getI (pc := 144) dX12_act_144 ec_12 (k := 57) (Nat.le_of_ble_eq_true rfl) rfl (Or.inl ew_1402) (hsH48.1 0 (by decide)).1 (hsH48.1 0 (by decide)).2.1 ?_
      refine ea_putI (pc := 147) dX12_act_147 ec_12 (k := 59) (Nat.le_of_ble_eq_true rfl) rfl (Or.inl ⟨rfl, Or.inl ew_1404⟩) rfl rfl (hsH48.1 0 (by decide)).1 (hsH48.1 0 (by decide)).2.1 ?_
      have hs49 : ShM b0 (ea_wi H48 (b0 + 0) 59 (ea_i H48 (b0 + 0) 57)) := ShM_wi hsH48
      obtain ⟨H50, eH50, E⟩ := let_some E
      refine ea_nm eH50 ?_
      have hsH50 : ShM b0 H50 := by rw [eH50]; exact hs49
      refine ea_aload_n (pc := 150) dX12_act_150 rfl 0 rfl ?_
      refine ea_iload_n (pc := 151) dX12_act_151 rfl 2 rfl ?_
      refine ea_if_eq (pc := 152) (tgt := 159) dX12_act_152 rfl (fun c51 => ?_) (fun c51 => ?_)
      · have E := (if_pos c51).symm.trans E
        refine ea_aload_n (pc := 159) dX12_act_159 rfl 0 rfl ?_
        refine ea_getI (pc := 160) dX12_act_160 ec_12 (k := 58) (Nat.le_of_ble_eq_true rfl) rfl (Or.inl ew_1403) (hsH50.1 0 (by decide)).1 (hsH50.1 0 (by decide)).2.1 ?_
        exact ((ih 163 ((ea_i H50 (b0 + 0) 58) : Int32) (x1 : Int32) (x2 : Int32) 0 0 H50 _ _ E hsH50).2.2.2.2.1 rfl)
      · have E := (if_neg c51).symm.trans E
        refine ea_iconst (pc := 155) dX12_act_155 (v := (-1)) rfl ?_
        refine ea_goto (pc := 156) (tgt := 163) dX12_act_156 rfl ?_
        exact ((ih 163 ((-1) : Int32) (x1 : Int32) (x2 : Int32) 0 0 H50 _ _ E hsH50).2.2.2.2.1 rfl)
    refine ⟨?_, ?_⟩
    · intro el
      subst el
      have E := (if_neg (by decide)).symm.trans E
      have E := (if_neg (by decide)).symm.trans E
      have E := (if_neg (by decide)).symm.trans E
      have E := (if_neg (by decide)).symm.trans E
      have E := (if_pos rfl).symm.trans E
      refine ea_putI (pc := 163) dX12_act_163 ec_12 (k := 62) (Nat.le_of_ble_eq_true rfl) rfl (Or.inl ⟨rfl, Or.inl ew_1407⟩) rfl rfl (hs.1 0 (by decide)).1 (hs.1 0 (by decide)).2.1 ?_
      have hs52 : ShM b0 (ea_wi h (b0 + 0) 62 sx0) := ShM_wi hs
      obtain ⟨H53, eH53, E⟩ := let_some E
      refine ea_nm eH53 ?_
      have hsH53 : ShM b0 H53 := by rw [eH53]; exact hs52
      refine ea_iload_n (pc := 166) dX12_act_166 rfl 2 rfl ?_
      refine ea_if_ne (pc := 167) (tgt := 172) dX12_act_167 rfl (fun c83 => ?_) (fun c83 => ?_)
      · have E := (if_neg c83).symm.trans E
        refine ea_aload_n (pc := 172) dX12_act_172 rfl 0 rfl ?_
        refine ea_getI (pc := 173) dX12_act_173 ec_12 (k := 25) (Nat.le_of_ble_eq_true rfl) rfl (Or.inl ew_1370) (hsH53.1 0 (by decide)).1 (hsH53.1 0 (by decide)).2.1 ?_
        refine ea_istore_n (pc := 176) (lv' := [(0, vR (some (b0 + 0))), (1, vI x1), (3, vI (ea_i H53 (b0 + 0) 25))]) dX12_act_176 rfl (Nat.le_of_ble_eq_true rfl) [1, 2, 0] rfl ?_
        refine ea_aload_n (pc := 177) dX12_act_177 rfl 0 rfl ?_
        refine ea_dup (pc := 178) dX12_act_178 rfl ?_
        refine ea_getI (pc := 179) dX12_act_179 ec_12 (k := 25) (Nat.le_of_ble_eq_true rfl) rfl (Or.inl ew_1370) (hsH53.1 0 (by decide)).1 (hsH53.1 0 (by decide)).2.1 ?_
        refine ea_iconst (pc := 182) dX12_act_182 (v := 1) rfl ?_
        refine ea_iadd (pc := 183) dX12_act_183 ?_
        refine ea_putI (pc := 184) dX12_act_184 ec_12 (k := 25) (Nat.le_of_ble_eq_true rfl) rfl (Or.inl ⟨rfl, Or.inl ew_1370⟩) rfl rfl (hsH53.1 0 (by decide)).1 (hsH53.1 0 (by decide)).2.1 ?_
        have hs54 : ShM b0 (ea_wi H53 (b0 + 0) 25 ((ea_i H53 (b0 + 0) 25) + (1 : Int32))) := ShM_wi hsH53
        obtain ⟨H55, eH55, E⟩ := let_some E
        refine ea_nm eH55 ?_
        have hsH55 : ShM b0 H55 := by rw [eH55]; exact hs54
        refine ea_aload_n (pc := 187) dX12_act_187 rfl 0 rfl ?_
        refine ea_getR (pc := 188) dX12_act_188 ec_12 (k := 26) (Nat.le_of_ble_eq_true rfl) rfl (Or.inl ew_1371) (hsH55.1 0 (by decide)).1 (hsH55.1 0 (by decide)).2.1 (hsH55.2 0 26 rfl) ?_
        refine ea_iload_n (pc := 191) dX12_act_191 rfl 2 rfl ?_
        refine ea_iload_n (pc := 192) dX12_act_192 rfl 1 rfl ?_
        obtain ⟨z56, E⟩ := gd_some E
        refine ea_iast (pc := 193) dX12_act_193 (hsH55.1 21 (by decide)).1 (hsH55.1 21 (by decide)).2.1 (ea_vpl (hsH55.1 21 (by decide)).2.2 z56) ?_
        have hs57 : ShM b0 (ea_wi H55 (b0 + 21) (Int32.toNatClampNeg (ea_i H53 (b0 + 0) 25)) x1) := ShM_wi hsH55
        obtain ⟨H58, eH58, E⟩ := let_some E
        refine ea_nm eH58 ?_
        have hsH58 : ShM b0 H58 := by rw [eH58]; exact hs57
        refine ea_aload_n (pc := 194) dX12_act_194 rfl 0 rfl ?_
        refine ea_getR (pc := 195) dX12_act_195 ec_12 (k := 27) (Nat.le_of_ble_eq_true rfl) rfl (Or.inl ew_1372) (hsH58.1 0 (by decide)).1 (hsH58.1 0 (by decide)).2.1 (hsH58.2 0 27 rfl) ?_
        refine ea_iload_n (pc := 198) dX12_act_198 rfl 2 rfl ?_
        refine ea_aload_n (pc := 199) dX12_act_199 rfl 0 rfl ?_
        refine ea_getI (pc := 200) dX12_act_200 ec_12 (k := 43) (Nat.le_of_ble_eq_true rfl) rfl (Or.inl ew_1388) (hsH58.1 0 (by decide)).1 (hsH58.1 0 (by decide)).2.1 ?_
        obtain ⟨z59, E⟩ := gd_some E
        refine ea_iast (pc := 203) dX12_act_203 (hsH58.1 22 (by decide)).1 (hsH58.1 22 (by decide)).2.1 (ea_vpl (hsH58.1 22 (by decide)).2.2 z59) ?_
        have hs60 : ShM b0 (ea_wi H58 (b0 + 22) (Int32.toNatClampNeg (ea_i H53 (b0 + 0) 25)) (ea_i H58 (b0 + 0) 43)) := ShM_wi hsH58
        obtain ⟨H61, eH61, E⟩ := let_some E
        refine ea_nm eH61 ?_
        have hsH61 : ShM b0 H61 := by rw [eH61]; exact hs60
        refine ea_aload_n (pc := 204) dX12_act_204 rfl 0 rfl ?_
        refine ea_getR (pc := 205) dX12_act_205 ec_12 (k := 28) (Nat.le_of_ble_eq_true rfl) rfl (Or.inl ew_1373) (hsH61.1 0 (by decide)).1 (hsH61.1 0 (by decide)).2.1 (hsH61.2 0 28 rfl) ?_
        refine ea_iload_n (pc := 208) dX12_act_208 rfl 2 rfl ?_
        refine ea_aload_n (pc := 209) dX12_act_209 rfl 0 rfl ?_
        refine ea_getI (pc := 210) dX12_act_210 ec_12 (k := 46) (Nat.le_of_ble_eq_true rfl) rfl (Or.inl ew_1391) (hsH61.1 0 (by decide)).1 (hsH61.1 0 (by decide)).2.1 ?_
        obtain ⟨z62, E⟩ := gd_some E
        refine ea_iast (pc := 213) dX12_act_213 (hsH61.1 23 (by decide)).1 (hsH61.1 23 (by decide)).2.1 (ea_vpl (hsH61.1 23 (by decide)).2.2 z62) ?_
        have hs63 : ShM b0 (ea_wi H61 (b0 + 23) (Int32.toNatClampNeg (ea_i H53 (b0 + 0) 25)) (ea_i H61 (b0 + 0) 46)) := ShM_wi hsH61
        obtain ⟨H64, eH64, E⟩ := let_some E
        refine ea_nm eH64 ?_
        have hsH64 : ShM b0 H64 := by rw [eH64]; exact hs63
        refine ea_aload_n (pc := 214) dX12_act_214 rfl 0 rfl ?_
        refine ea_getR (pc := 215) dX12_act_215 ec_12 (k := 29) (Nat.le_of_ble_eq_true rfl) rfl (Or.inl ew_1374) (hsH64.1 0 (by decide)).1 (hsH64.1 0 (by decide)).2.1 (hsH64.2 0 29 rfl) ?_
        refine ea_iload_n (pc := 218) dX12_act_218 rfl 2 rfl ?_
        refine ea_aload_n (pc := 219) dX12_act_219 rfl 0 rfl ?_
        refine ea_getI (pc := 220) dX12_act_220 ec_12 (k := 47) (Nat.le_of_ble_eq_true rfl) rfl (Or.inl ew_1392) (hsH64.1 0 (by decide)).1 (hsH64.1 0 (by decide)).2.1 ?_
        obtain ⟨z65, E⟩ := gd_some E
        refine ea_iast (pc := 223) dX12_act_223 (hsH64.1 24 (by decide)).1 (hsH64.1 24 (by decide)).2.1 (ea_vpl (hsH64.1 24 (by decide)).2.2 z65) ?_
        have hs66 : ShM b0 (ea_wi H64 (b0 + 24) (Int32.toNatClampNeg (ea_i H53 (b0 + 0) 25)) (ea_i H64 (b0 + 0) 47)) := ShM_wi hsH64
        obtain ⟨H67, eH67, E⟩ := let_some E
        refine ea_nm eH67 ?_
        have hsH67 : ShM b0 H67 := by rw [eH67]; exact hs66
        refine ea_aload_n (pc := 224) dX12_act_224 rfl 0 rfl ?_
        refine ea_getR (pc := 225) dX12_act_225 ec_12 (k := 30) (Nat.le_of_ble_eq_true rfl) rfl (Or.inl ew_1375) (hsH67.1 0 (by decide)).1 (hsH67.1 0 (by decide)).2.1 (hsH67.2 0 30 rfl) ?_
        refine ea_iload_n (pc := 228) dX12_act_228 rfl 2 rfl ?_
        refine ea_aload_n (pc := 229) dX12_act_229 rfl 0 rfl ?_
        refine ea_getI (pc := 230) dX12_act_230 ec_12 (k := 48) (Nat.le_of_ble_eq_true rfl) rfl (Or.inl ew_1393) (hsH67.1 0 (by decide)).1 (hsH67.1 0 (by decide)).2.1 ?_
        obtain ⟨z68, E⟩ := gd_some E
        refine ea_iast (pc := 233) dX12_act_233 (hsH67.1 25 (by decide)).1 (hsH67.1 25 (by decide)).2.1 (ea_vpl (hsH67.1 25 (by decide)).2.2 z68) ?_
        have hs69 : ShM b0 (ea_wi H67 (b0 + 25) (Int32.toNatClampNeg (ea_i H53 (b0 + 0) 25)) (ea_i H67 (b0 + 0) 48)) := ShM_wi hsH67
        obtain ⟨H70, eH70, E⟩ := let_some E
        refine ea_nm eH70 ?_
        have hsH70 : ShM b0 H70 := by rw [eH70]; exact hs69
        refine ea_aload_n (pc := 234) dX12_act_234 rfl 0 rfl ?_
        refine ea_getR (pc := 235) dX12_act_235 ec_12 (k := 31) (Nat.le_of_ble_eq_true rfl) rfl (Or.inl ew_1376) (hsH70.1 0 (by decide)).1 (hsH70.1 0 (by decide)).2.1 (hsH70.2 0 31 rfl) ?_
        refine ea_iload_n (pc := 238) dX12_act_238 rfl 2 rfl ?_
        refine ea_aload_n (pc := 239) dX12_act_239 rfl 0 rfl ?_
        refine ea_getI (pc := 240) dX12_act_240 ec_12 (k := 49) (Nat.le_of_ble_eq_true rfl) rfl (Or.inl ew_1394) (hsH70.1 0 (by decide)).1 (hsH70.1 0 (by decide)).2.1 ?_
        obtain ⟨z71, E⟩ := gd_some E
        refine ea_iast (pc := 243) dX12_act_243 (hsH70.1 26 (by decide)).1 (hsH70.1 26 (by decide)).2.1 (ea_vpl (hsH70.1 26 (by decide)).2.2 z71) ?_
        have hs72 : ShM b0 (ea_wi H70 (b0 + 26) (Int32.toNatClampNeg (ea_i H53 (b0 + 0) 25)) (ea_i H70 (b0 + 0) 49)) := ShM_wi hsH70
        obtain ⟨H73, eH73, E⟩ := let_some E
        refine ea_nm eH73 ?_
        have hsH73 : ShM b0 H73 := by rw [eH73]; exact hs72
        refine ea_aload_n (pc := 244) dX12_act_244 rfl 0 rfl ?_
        refine ea_getR (pc := 245) dX12_act_245 ec_12 (k := 32) (Nat.le_of_ble_eq_true rfl) rfl (Or.inl ew_1377) (hsH73.1 0 (by decide)).1 (hsH73.1 0 (by decide)).2.1 (hsH73.2 0 32 rfl) ?_
        refine ea_iload_n (pc := 248) dX12_act_248 rfl 2 rfl ?_
        refine ea_aload_n (pc := 249) dX12_act_249 rfl 0 rfl ?_
        refine ea_getI (pc := 250) dX12_act_250 ec_12 (k := 50) (Nat.le_of_ble_eq_true rfl) rfl (Or.inl ew_1395) (hsH73.1 0 (by decide)).1 (hsH73.1 0 (by decide)).2.1 ?_
        obtain ⟨z74, E⟩ := gd_some E
        refine ea_iast (pc := 253) dX12_act_253 (hsH73.1 27 (by decide)).1 (hsH73.1 27 (by decide)).2.1 (ea_vpl (hsH73.1 27 (by decide)).2.2 z74) ?_
        have hs75 : ShM b0 (ea_wi H73 (b0 + 27) (Int32.toNatClampNeg (ea_i H53 (b0 + 0) 25)) (ea_i H73 (b0 + 0) 50)) := ShM_wi hsH73
        obtain ⟨H76, eH76, E⟩ := let_some E
        refine ea_nm eH76 ?_
        have hsH76 : ShM b0 H76 := by rw [eH76]; exact hs75
        refine ea_aload_n (pc := 254) dX12_act_254 rfl 0 rfl ?_
        refine ea_getR (pc := 255) dX12_act_255 ec_12 (k := 33) (Nat.le_of_ble_eq_true rfl) rfl (Or.inl ew_1378) (hsH76.1 0 (by decide)).1 (hsH76.1 0 (by decide)).2.1 (hsH76.2 0 33 rfl) ?_
        refine ea_iload_n (pc := 258) dX12_act_258 rfl 2 rfl ?_
        refine ea_aload_n (pc := 259) dX12_act_259 rfl 0 rfl ?_
        refine ea_getI (pc := 260) dX12_act_260 ec_12 (k := 51) (Nat.le_of_ble_eq_true rfl) rfl (Or.inl ew_1396) (hsH76.1 0 (by decide)).1 (hsH76.1 0 (by decide)).2.1 ?_
        obtain ⟨z77, E⟩ := gd_some E
        refine ea_iast (pc := 263) dX12_act_263 (hsH76.1 28 (by decide)).1 (hsH76.1 28 (by decide)).2.1 (ea_vpl (hsH76.1 28 (by decide)).2.2 z77) ?_
        have hs78 : ShM b0 (ea_wi H76 (b0 + 28) (Int32.toNatClampNeg (ea_i H53 (b0 + 0) 25)) (ea_i H76 (b0 + 0) 51)) := ShM_wi hsH76
        obtain ⟨H79, eH79, E⟩ := let_some E
        refine ea_nm eH79 ?_
        have hsH79 : ShM b0 H79 := by rw [eH79]; exact hs78
        refine ea_aload_n (pc := 264) dX12_act_264 rfl 0 rfl ?_
        refine ea_getR (pc := 265) dX12_act_265 ec_12 (k := 34) (Nat.le_of_ble_eq_true rfl) rfl (Or.inl ew_1379) (hsH79.1 0 (by decide)).1 (hsH79.1 0 (by decide)).2.1 (hsH79.2 0 34 rfl) ?_
        refine ea_iload_n (pc := 268) dX12_act_268 rfl 2 rfl ?_
        refine ea_aload_n (pc := 269) dX12_act_269 rfl 0 rfl ?_
        refine ea_getI (pc := 270) dX12_act_270 ec_12 (k := 44) (Nat.le_of_ble_eq_true rfl) rfl (Or.inl ew_1389) (hsH79.1 0 (by decide)).1 (hsH79.1 0 (by decide)).2.1 ?_
        obtain ⟨z80, E⟩ := gd_some E
        refine ea_iast (pc := 273) dX12_act_273 (hsH79.1 29 (by decide)).1 (hsH79.1 29 (by decide)).2.1 (ea_vpl (hsH79.1 29 (by decide)).2.2 z80) ?_
        have hs81 : ShM b0 (ea_wi H79 (b0 + 29) (Int32.toNatClampNeg (ea_i H53 (b0 + 0) 25)) (ea_i H79 (b0 + 0) 44)) := ShM_wi hsH79
        obtain ⟨H82, eH82, E⟩ := let_some E
        refine ea_nm eH82 ?_
        have hsH82 : ShM b0 H82 := by rw [eH82]; exact hs81
        refine ea_iconst (pc := 274) dX12_act_274 (v := 0) rfl ?_
        refine ea_istore (pc := 275) (lv' := [(0, vR (some (b0 + 0))), (3, vI (ea_i H53 (b0 + 0) 25)), (4, vI 0)]) dX12_act_275 (Nat.le_of_ble_eq_true rfl) [1, 3, 0] rfl ?_
        exact ((ih 277 0 0 0 ((ea_i H53 (b0 + 0) 25) : Int32) (0 : Int32) H82 _ _ E hsH82).2.2.2.2.2.1 rfl)
      · have E := (if_pos c83).symm.trans E
        refine ea_iconst (pc := 170) dX12_act_170 (v := (-1)) rfl ?_
        exact ea_iretO (pc := 171) dX12_act_171 rfl rfl E
    refine ⟨?_, ?_⟩
    · intro el
      subst el
      have E := (if_neg (by decide)).symm.trans E
      have E := (if_neg (by decide)).symm.trans E
      have E := (if_neg (by decide)).symm.trans E
      have E := (if_neg (by decide)).symm.trans E
      have E := (if_neg (by decide)).symm.trans E
      have E := (if_pos rfl).symm.trans E
      refine ea_iload (pc := 277) dX12_act_277 2 rfl ?_
      refine ea_aload_n (pc := 279) dX12_act_279 rfl 0 rfl ?_
      refine ea_getI (pc := 280) dX12_act_280 ec_12 (k := 44) (Nat.le_of_ble_eq_true rfl) rfl (Or.inl ew_1389) (hs.1 0 (by decide)).1 (hs.1 0 (by decide)).2.1 ?_
      refine ea_icmp_ge (pc := 283) (tgt := 330) dX12_act_283 rfl (fun c95 => ?_) (fun c95 => ?_)
      · have E := (if_pos c95).symm.trans E
        refine ea_aload_n (pc := 330) dX12_act_330 rfl 0 rfl ?_
        refine ea_getR (pc := 331) dX12_act_331 ec_12 (k := 35) (Nat.le_of_ble_eq_true rfl) rfl (Or.inl ew_1380) (hs.1 0 (by decide)).1 (hs.1 0 (by decide)).2.1 (hs.2 0 35 rfl) ?_
        refine ea_bipush (pc := 334) dX12_act_334 (v := 25) rfl ?_
        refine ea_iload_n (pc := 336) dX12_act_336 rfl 1 rfl ?_
        refine ea_imul (pc := 337) dX12_act_337 ?_
        refine ea_aload_n (pc := 338) dX12_act_338 rfl 0 rfl ?_
        refine ea_getI (pc := 339) dX12_act_339 ec_12 (k := 44) (Nat.le_of_ble_eq_true rfl) rfl (Or.inl ew_1389) (hs.1 0 (by decide)).1 (hs.1 0 (by decide)).2.1 ?_
        refine ea_iadd (pc := 342) dX12_act_342 ?_
        refine ea_aload_n (pc := 343) dX12_act_343 rfl 0 rfl ?_
        refine ea_getI (pc := 344) dX12_act_344 ec_12 (k := 45) (Nat.le_of_ble_eq_true rfl) rfl (Or.inl ew_1390) (hs.1 0 (by decide)).1 (hs.1 0 (by decide)).2.1 ?_
        obtain ⟨z84, E⟩ := gd_some E
        refine ea_iast (pc := 347) dX12_act_347 (hs.1 30 (by decide)).1 (hs.1 30 (by decide)).2.1 (ea_vpl (hs.1 30 (by decide)).2.2 z84) ?_
        have hs85 : ShM b0 (ea_wi h (b0 + 30) (Int32.toNatClampNeg (((25 : Int32) * x3) + (ea_i h (b0 + 0) 44))) (ea_i h (b0 + 0) 45)) := ShM_wi hs
        obtain ⟨H86, eH86, E⟩ := let_some E
        refine ea_nm eH86 ?_
        have hsH86 : ShM b0 H86 := by rw [eH86]; exact hs85
        refine ea_iconst (pc := 348) dX12_act_348 (v := 0) rfl ?_
        refine ea_istore (pc := 349) (lv' := [(0, vR (some (b0 + 0))), (3, vI x3), (4, vI 0)]) dX12_act_349 (Nat.le_of_ble_eq_true rfl) [1, 2, 0] rfl ?_
        exact ((ih 351 0 0 0 (x3 : Int32) (0 : Int32) H86 _ _ E hsH86).2.2.2.2.2.2 rfl)
      · have E := (if_neg c95).symm.trans E
        refine ea_aload_n (pc := 286) dX12_act_286 rfl 0 rfl ?_
        refine ea_getR (pc := 287) dX12_act_287 ec_12 (k := 35) (Nat.le_of_ble_eq_true rfl) rfl (Or.inl ew_1380) (hs.1 0 (by decide)).1 (hs.1 0 (by decide)).2.1 (hs.2 0 35 rfl) ?_
        refine ea_bipush (pc := 290) dX12_act_290 (v := 25) rfl ?_
        refine ea_iload_n (pc := 292) dX12_act_292 rfl 1 rfl ?_
        refine ea_imul (pc := 293) dX12_act_293 ?_
        refine ea_iload (pc := 294) dX12_act_294 2 rfl ?_
        refine ea_iadd (pc := 296) dX12_act_296 ?_
        refine ea_aload_n (pc := 297) dX12_act_297 rfl 0 rfl ?_
        refine ea_getR (pc := 298) dX12_act_298 ec_12 (k := 38) (Nat.le_of_ble_eq_true rfl) rfl (Or.inl ew_1383) (hs.1 0 (by decide)).1 (hs.1 0 (by decide)).2.1 (hs.2 0 38 rfl) ?_
        refine ea_iload (pc := 301) dX12_act_301 2 rfl ?_
        obtain ⟨z87, E⟩ := gd_some E
        refine ea_iald (pc := 303) dX12_act_303 (hs.1 33 (by decide)).1 (hs.1 33 (by decide)).2.1 (ea_vpl (hs.1 33 (by decide)).2.2 z87) ?_
        obtain ⟨z88, E⟩ := gd_some E
        refine ea_iast (pc := 304) dX12_act_304 (hs.1 30 (by decide)).1 (hs.1 30 (by decide)).2.1 (ea_vpl (hs.1 30 (by decide)).2.2 z88) ?_
        have hs89 : ShM b0 (ea_wi h (b0 + 30) (Int32.toNatClampNeg (((25 : Int32) * x3) + x4)) (ea_i h (b0 + 33) (Int32.toNatClampNeg x4))) := ShM_wi hs
        obtain ⟨H90, eH90, E⟩ := let_some E
        refine ea_nm eH90 ?_
        have hsH90 : ShM b0 H90 := by rw [eH90]; exact hs89
        refine ea_aload_n (pc := 305) dX12_act_305 rfl 0 rfl ?_
        refine ea_getR (pc := 306) dX12_act_306 ec_12 (k := 36) (Nat.le_of_ble_eq_true rfl) rfl (Or.inl ew_1381) (hsH90.1 0 (by decide)).1 (hsH90.1 0 (by decide)).2.1 (hsH90.2 0 36 rfl) ?_
        refine ea_bipush (pc := 309) dX12_act_309 (v := 24) rfl ?_
        refine ea_iload_n (pc := 311) dX12_act_311 rfl 1 rfl ?_
        refine ea_imul (pc := 312) dX12_act_312 ?_
        refine ea_iload (pc := 313) dX12_act_313 2 rfl ?_
        refine ea_iadd (pc := 315) dX12_act_315 ?_
        refine ea_aload_n (pc := 316) dX12_act_316 rfl 0 rfl ?_
        refine ea_getR (pc := 317) dX12_act_317 ec_12 (k := 39) (Nat.le_of_ble_eq_true rfl) rfl (Or.inl ew_1384) (hsH90.1 0 (by decide)).1 (hsH90.1 0 (by decide)).2.1 (hsH90.2 0 39 rfl) ?_
        refine ea_iload (pc := 320) dX12_act_320 2 rfl ?_
        obtain ⟨z91, E⟩ := gd_some E
        refine ea_iald (pc := 322) dX12_act_322 (hsH90.1 34 (by decide)).1 (hsH90.1 34 (by decide)).2.1 (ea_vpl (hsH90.1 34 (by decide)).2.2 z91) ?_
        obtain ⟨z92, E⟩ := gd_some E
        refine ea_iast (pc := 323) dX12_act_323 (hsH90.1 31 (by decide)).1 (hsH90.1 31 (by decide)).2.1 (ea_vpl (hsH90.1 31 (by decide)).2.2 z92) ?_
        have hs93 : ShM b0 (ea_wi H90 (b0 + 31) (Int32.toNatClampNeg (((24 : Int32) * x3) + x4)) (ea_i H90 (b0 + 34) (Int32.toNatClampNeg x4))) := ShM_wi hsH90
        obtain ⟨H94, eH94, E⟩ := let_some E
        refine ea_nm eH94 ?_
        have hsH94 : ShM b0 H94 := by rw [eH94]; exact hs93
        refine ea_iinc (pc := 324) (v := 1) (lv' := [(0, vR (some (b0 + 0))), (3, vI x3), (4, vI (x4 + (1 : Int32)))]) dX12_act_324 2 rfl rfl (Nat.le_of_ble_eq_true rfl) [1, 2, 0] rfl ?_
        refine ea_goto (pc := 327) (tgt := 277) dX12_act_327 rfl ?_
        exact ((ih 277 0 0 0 (x3 : Int32) ((x4 + (1 : Int32)) : Int32) H94 _ _ E hsH94).2.2.2.2.2.1 rfl)
    intro el
    subst el
    have E := (if_neg (by decide)).symm.trans E
    have E := (if_neg (by decide)).symm.trans E
    have E := (if_neg (by decide)).symm.trans E
    have E := (if_neg (by decide)).symm.trans E
    have E := (if_neg (by decide)).symm.trans E
    have E := (if_neg (by decide)).symm.trans E
    have E := (if_pos rfl).symm.trans E
    refine ea_iload (pc := 351) dX12_act_351 2 rfl ?_
    refine ea_iconst (pc := 353) dX12_act_353 (v := 2) rfl ?_
    refine ea_aload_n (pc := 354) dX12_act_354 rfl 0 rfl ?_
    refine ea_getI (pc := 355) dX12_act_355 ec_12 (k := 45) (Nat.le_of_ble_eq_true rfl) rfl (Or.inl ew_1390) (hs.1 0 (by decide)).1 (hs.1 0 (by decide)).2.1 ?_
    refine ea_imul (pc := 358) dX12_act_358 ?_
    refine ea_icmp_ge (pc := 359) (tgt := 388) dX12_act_359 rfl (fun c100 => ?_) (fun c100 => ?_)
    · have E := (if_pos c100).symm.trans E
      refine ea_iload_n (pc := 388) dX12_act_388 rfl 1 rfl ?_
      exact ea_iretO (pc := 389) dX12_act_389 rfl rfl E
    · have E := (if_neg c100).symm.trans E
      refine ea_aload_n (pc := 362) dX12_act_362 rfl 0 rfl ?_
      refine ea_getR (pc := 363) dX12_act_363 ec_12 (k := 37) (Nat.le_of_ble_eq_true rfl) rfl (Or.inl ew_1382) (hs.1 0 (by decide)).1 (hs.1 0 (by decide)).2.1 (hs.2 0 37 rfl) ?_
      refine ea_sipush (pc := 366) dX12_act_366 (v := 1220) rfl ?_
      refine ea_iload_n (pc := 369) dX12_act_369 rfl 1 rfl ?_
      refine ea_imul (pc := 370) dX12_act_370 ?_
      refine ea_iload (pc := 371) dX12_act_371 2 rfl ?_
      refine ea_iadd (pc := 373) dX12_act_373 ?_
      refine ea_aload_n (pc := 374) dX12_act_374 rfl 0 rfl ?_
      refine ea_getR (pc := 375) dX12_act_375 ec_12 (k := 40) (Nat.le_of_ble_eq_true rfl) rfl (Or.inl ew_1385) (hs.1 0 (by decide)).1 (hs.1 0 (by decide)).2.1 (hs.2 0 40 rfl) ?_
      refine ea_iload (pc := 378) dX12_act_378 2 rfl ?_
      obtain ⟨z96, E⟩ := gd_some E
      refine ea_iald (pc := 380) dX12_act_380 (hs.1 35 (by decide)).1 (hs.1 35 (by decide)).2.1 (ea_vpl (hs.1 35 (by decide)).2.2 z96) ?_
      obtain ⟨z97, E⟩ := gd_some E
      refine ea_iast (pc := 381) dX12_act_381 (hs.1 32 (by decide)).1 (hs.1 32 (by decide)).2.1 (ea_vpl (hs.1 32 (by decide)).2.2 z97) ?_
      have hs98 : ShM b0 (ea_wi h (b0 + 32) (Int32.toNatClampNeg (((1220 : Int32) * x3) + x4)) (ea_i h (b0 + 35) (Int32.toNatClampNeg x4))) := ShM_wi hs
      obtain ⟨H99, eH99, E⟩ := let_some E
      refine ea_nm eH99 ?_
      have hsH99 : ShM b0 H99 := by rw [eH99]; exact hs98
      refine ea_iinc (pc := 382) (v := 1) (lv' := [(0, vR (some (b0 + 0))), (3, vI x3), (4, vI (x4 + (1 : Int32)))]) dX12_act_382 2 rfl rfl (Nat.le_of_ble_eq_true rfl) [1, 2, 0] rfl ?_
      refine ea_goto (pc := 385) (tgt := 351) dX12_act_385 rfl ?_
      exact ((ih 351 0 0 0 (x3 : Int32) ((x4 + (1 : Int32)) : Int32) H99 _ _ E hsH99).2.2.2.2.2.2 rfl)
noncomputable def qX12_act (b0 : Nat) (x1 : Int32) (h : ea_H) : Option (Int32 × ea_H) := gX12_act b0 1000000000 0 0 x1 0 0 0 h
def okX12_act (b0 : Nat) (x1 : Int32) (h : ea_H) : Prop := ∃ x, qX12_act b0 x1 h = some x
noncomputable def vX12_act (b0 : Nat) (x1 : Int32) (h : ea_H) : Int32 := ((qX12_act b0 x1 h).getD (0, h)).1
noncomputable def wX12_act (b0 : Nat) (x1 : Int32) (h : ea_H) : ea_H := ((qX12_act b0 x1 h).getD (0, h)).2
theorem sX12_act {d : Nat} {b0 : Nat} {x1 : Int32} {h : ea_H} (hd : 93 ≤ d) (hs : ShM b0 h) (K : okX12_act b0 x1 h) : ea_Met mX12_act d [vR (some (b0 + 0)), vI x1] h (some (vI (vX12_act b0 x1 h))) (wX12_act b0 x1 h) := by
  obtain ⟨⟨x, y⟩, K⟩ := K
  unfold wX12_act vX12_act
  rw [K]
  unfold qX12_act at K
  exact ea_enter rfl (Nat.le_of_ble_eq_true rfl) ((tX12_act hd 1000000000 0 0 x1 0 0 0 h x y K hs).1 rfl)
theorem zX12_act {b0 : Nat} : ∀ (f lbl : Nat) (sx0 : Int32) (x1 : Int32) (x2 : Int32) (x3 : Int32) (x4 : Int32) (h : ea_H) (r : Int32) (h' : ea_H), gX12_act b0 f lbl sx0 x1 x2 x3 x4 h = some (r, h') → ShM b0 h → ShM b0 h' := by
  intro f
  induction f with
  | zero => intro lbl sx0 x1 x2 x3 x4 h r h' E; cases E
  | succ f ih =>
    intro lbl sx0 x1 x2 x3 x4 h r h' E hs
    unfold gX12_act at E
    by_cases el0 : lbl = 0
    · have E := (if_pos el0).symm.trans E
      obtain ⟨H2, eH2, E⟩ := let_some E
      have hsH2 : ShM b0 H2 := by rw [eH2]; exact (ShM_wi hs)
      obtain ⟨H4, eH4, E⟩ := let_some E
      have hsH4 : ShM b0 H4 := by rw [eH4]; exact (ShM_wi hsH2)
      by_cases c16 : (vX12_isDay (x1 : Int32) H4) = (0 : Int32)
      · have E := (if_pos c16).symm.trans E
        obtain ⟨H7, eH7, E⟩ := let_some E
        have hsH7 : ShM b0 H7 := by rw [eH7]; exact (ShM_wi hsH4)
        exact ea_shO E hsH7
      have E := (if_neg c16).symm.trans E
      by_cases c15 : (ea_i H4 (b0 + 0) 25) = (6 : Int32)
      · have E := (if_pos c15).symm.trans E
        obtain ⟨H9, eH9, E⟩ := let_some E
        have hsH9 : ShM b0 H9 := by rw [eH9]; exact (ShM_wi hsH4)
        exact ea_shO E hsH9
      have E := (if_neg c15).symm.trans E
      by_cases c14 : (ea_i H4 (b0 + 0) 25) ≤ (0 : Int32)
      · have E := (if_pos c14).symm.trans E
        exact ih 55 0 (x1 : Int32) 0 0 0 H4 _ _ E hsH4
      have E := (if_neg c14).symm.trans E
      obtain ⟨z10, E⟩ := gd_some E
      by_cases c13 : (ea_i H4 (b0 + 21) (Int32.toNatClampNeg ((ea_i H4 (b0 + 0) 25) - (1 : Int32)))) ≤ x1
      · have E := (if_pos c13).symm.trans E
        exact ih 55 0 (x1 : Int32) 0 0 0 H4 _ _ E hsH4
      have E := (if_neg c13).symm.trans E
      obtain ⟨H12, eH12, E⟩ := let_some E
      have hsH12 : ShM b0 H12 := by rw [eH12]; exact (ShM_wi hsH4)
      exact ea_shO E hsH12
    have E := (if_neg el0).symm.trans E
    by_cases el1 : lbl = 55
    · have E := (if_pos el1).symm.trans E
      obtain ⟨H18, eH18, E⟩ := let_some E
      have hsH18 : ShM b0 H18 := by rw [eH18]; exact (ShM_wi hs)
      obtain ⟨H20, eH20, E⟩ := let_some E
      have hsH20 : ShM b0 H20 := by rw [eH20]; exact (ShM_wi hsH18)
      obtain ⟨H22, eH22, E⟩ := let_some E
      have hsH22 : ShM b0 H22 := by rw [eH22]; exact (ShM_wi hsH20)
      obtain ⟨H24, eH24, E⟩ := let_some E
      have hsH24 : ShM b0 H24 := by rw [eH24]; exact (ShM_wi hsH22)
      obtain ⟨H26, eH26, E⟩ := let_some E
      have hsH26 : ShM b0 H26 := by rw [eH26]; exact (ShM_wi hsH24)
      obtain ⟨H28, eH28, E⟩ := let_some E
      have hsH28 : ShM b0 H28 := by rw [eH28]; exact (ShM_wi hsH26)
      obtain ⟨H30, eH30, E⟩ := let_some E
      have hsH30 : ShM b0 H30 := by rw [eH30]; exact (ShM_wi hsH28)
      obtain ⟨H32, eH32, E⟩ := let_some E
      have hsH32 : ShM b0 H32 := by rw [eH32]; exact (ShM_wi hsH30)
      obtain ⟨H34, eH34, E⟩ := let_some E
      have hsH34 : ShM b0 H34 := by rw [eH34]; exact (ShM_wi hsH32)
      obtain ⟨H36, eH36, E⟩ := let_some E
      have hsH36 : ShM b0 H36 := by rw [eH36]; exact (ShM_wi hsH34)
      obtain ⟨H38, eH38, E⟩ := let_some E
      have hsH38 : ShM b0 H38 := by rw [eH38]; exact (ShM_wi hsH36)
      obtain ⟨z39, E⟩ := gd_some E
      obtain ⟨H41, eH41, E⟩ := let_some E
      have hsH41 : ShM b0 H41 := by rw [eH41]; exact (shX12_next0 hsH38)
      exact ih 118 0 (x1 : Int32) (1 : Int32) 0 0 H41 _ _ E hsH41
    have E := (if_neg el1).symm.trans E
    by_cases el2 : lbl = 118
    · have E := (if_pos el2).symm.trans E
      by_cases c46 : x2 = (0 : Int32)
      · have E := (if_pos c46).symm.trans E
        exact ih 137 0 (x1 : Int32) (x2 : Int32) 0 0 h _ _ E hs
      have E := (if_neg c46).symm.trans E
      by_cases c45 : (ea_i h (b0 + 0) 54) = (0 : Int32)
      · have E := (if_pos c45).symm.trans E
        exact ih 137 0 (x1 : Int32) (x2 : Int32) 0 0 h _ _ E hs
      have E := (if_neg c45).symm.trans E
      obtain ⟨z42, E⟩ := gd_some E
      obtain ⟨H44, eH44, E⟩ := let_some E
      have hsH44 : ShM b0 H44 := by rw [eH44]; exact (shX12_aLine hs)
      exact ih 118 0 (x1 : Int32) ((vX12_aLine b0 h) : Int32) 0 0 H44 _ _ E hsH44
    have E := (if_neg el2).symm.trans E
    by_cases el3 : lbl = 137
    · have E := (if_pos el3).symm.trans E
      obtain ⟨H48, eH48, E⟩ := let_some E
      have hsH48 : ShM b0 H48 := by rw [eH48]; exact (ShM_wi hs)
      obtain ⟨H50, eH50, E⟩ := let_some E
      have hsH50 : ShM b0 H50 := by rw [eH50]; exact (ShM_wi hsH48)
      by_cases c51 : x2 = (0 : Int32)
      · have E := (if_pos c51).symm.trans E
        exact ih 163 ((ea_i H50 (b0 + 0) 58) : Int32) (x1 : Int32) (x2 : Int32) 0 0 H50 _ _ E hsH50
      have E := (if_neg c51).symm.trans E
      exact ih 163 ((-1) : Int32) (x1 : Int32) (x2 : Int32) 0 0 H50 _ _ E hsH50
    have E := (if_neg el3).symm.trans E
    by_cases el4 : lbl = 163
    · have E := (if_pos el4).symm.trans E
      obtain ⟨H53, eH53, E⟩ := let_some E
      have hsH53 : ShM b0 H53 := by rw [eH53]; exact (ShM_wi hs)
      by_cases c83 : x2 = (0 : Int32)
      · have E := (if_pos c83).symm.trans E
        exact ea_shO E hsH53
      have E := (if_neg c83).symm.trans E
      obtain ⟨H55, eH55, E⟩ := let_some E
      have hsH55 : ShM b0 H55 := by rw [eH55]; exact (ShM_wi hsH53)
      obtain ⟨z56, E⟩ := gd_some E
      obtain ⟨H58, eH58, E⟩ := let_some E
      have hsH58 : ShM b0 H58 := by rw [eH58]; exact (ShM_wi hsH55)
      obtain ⟨z59, E⟩ := gd_some E
      obtain ⟨H61, eH61, E⟩ := let_some E
      have hsH61 : ShM b0 H61 := by rw [eH61]; exact (ShM_wi hsH58)
      obtain ⟨z62, E⟩ := gd_some E
      obtain ⟨H64, eH64, E⟩ := let_some E
      have hsH64 : ShM b0 H64 := by rw [eH64]; exact (ShM_wi hsH61)
      obtain ⟨z65, E⟩ := gd_some E
      obtain ⟨H67, eH67, E⟩ := let_some E
      have hsH67 : ShM b0 H67 := by rw [eH67]; exact (ShM_wi hsH64)
      obtain ⟨z68, E⟩ := gd_some E
      obtain ⟨H70, eH70, E⟩ := let_some E
      have hsH70 : ShM b0 H70 := by rw [eH70]; exact (ShM_wi hsH67)
      obtain ⟨z71, E⟩ := gd_some E
      obtain ⟨H73, eH73, E⟩ := let_some E
      have hsH73 : ShM b0 H73 := by rw [eH73]; exact (ShM_wi hsH70)
      obtain ⟨z74, E⟩ := gd_some E
      obtain ⟨H76, eH76, E⟩ := let_some E
      have hsH76 : ShM b0 H76 := by rw [eH76]; exact (ShM_wi hsH73)
      obtain ⟨z77, E⟩ := gd_some E
      obtain ⟨H79, eH79, E⟩ := let_some E
      have hsH79 : ShM b0 H79 := by rw [eH79]; exact (ShM_wi hsH76)
      obtain ⟨z80, E⟩ := gd_some E
      obtain ⟨H82, eH82, E⟩ := let_some E
      have hsH82 : ShM b0 H82 := by rw [eH82]; exact (ShM_wi hsH79)
      exact ih 277 0 0 0 ((ea_i H53 (b0 + 0) 25) : Int32) (0 : Int32) H82 _ _ E hsH82
    have E := (if_neg el4).symm.trans E
    by_cases el5 : lbl = 277
    · have E := (if_pos el5).symm.trans E
      by_cases c95 : (ea_i h (b0 + 0) 44) ≤ x4
      · have E := (if_pos c95).symm.trans E
        obtain ⟨z84, E⟩ := gd_some E
        obtain ⟨H86, eH86, E⟩ := let_some E
        have hsH86 : ShM b0 H86 := by rw [eH86]; exact (ShM_wi hs)
        exact ih 351 0 0 0 (x3 : Int32) (0 : Int32) H86 _ _ E hsH86
      have E := (if_neg c95).symm.trans E
      obtain ⟨z87, E⟩ := gd_some E
      obtain ⟨z88, E⟩ := gd_some E
      obtain ⟨H90, eH90, E⟩ := let_some E
      have hsH90 : ShM b0 H90 := by rw [eH90]; exact (ShM_wi hs)
      obtain ⟨z91, E⟩ := gd_some E
      obtain ⟨z92, E⟩ := gd_some E
      obtain ⟨H94, eH94, E⟩ := let_some E
      have hsH94 : ShM b0 H94 := by rw [eH94]; exact (ShM_wi hsH90)
      exact ih 277 0 0 0 (x3 : Int32) ((x4 + (1 : Int32)) : Int32) H94 _ _ E hsH94
    have E := (if_neg el5).symm.trans E
    by_cases el6 : lbl = 351
    · have E := (if_pos el6).symm.trans E
      by_cases c100 : ((2 : Int32) * (ea_i h (b0 + 0) 45)) ≤ x4
      · have E := (if_pos c100).symm.trans E
        exact ea_shO E hs
      have E := (if_neg c100).symm.trans E
      obtain ⟨z96, E⟩ := gd_some E
      obtain ⟨z97, E⟩ := gd_some E
      obtain ⟨H99, eH99, E⟩ := let_some E
      have hsH99 : ShM b0 H99 := by rw [eH99]; exact (ShM_wi hs)
      exact ih 351 0 0 0 (x3 : Int32) ((x4 + (1 : Int32)) : Int32) H99 _ _ E hsH99
    have E := (if_neg el6).symm.trans E
    cases E
theorem shX12_act {b0 : Nat} {x1 : Int32} {h : ea_H} (hs : ShM b0 h) : ShM b0 (wX12_act b0 x1 h) := by
  unfold wX12_act
  cases K : qX12_act b0 x1 h with
  | none => exact hs
  | some x => obtain ⟨x, y⟩ := x; unfold qX12_act at K; exact zX12_act _ _ _ _ _ _ _ _ _ _ K hs
