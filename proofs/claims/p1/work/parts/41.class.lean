/-! the class, 1 -/
theorem zX11_franksAhead {b0 : Nat} : ∀ (f lbl : Nat) (r1 : Option Nat) (x2 : Int32) (x3 : Int32) (h : ea_H) (r : Int32) (h' : ea_H), gX11_franksAhead b0 f lbl r1 x2 x3 h = some (r, h') → ShC b0 h → ShC b0 h' := by
  intro f
  induction f with
  | zero => intro lbl r1 x2 x3 h r h' E; cases E
  | succ f ih =>
    intro lbl r1 x2 x3 h r h' E hs
    unfold gX11_franksAhead at E
    by_cases el0 : lbl = 0
    · have E := (if_pos el0).symm.trans E
      exact ih 4 (r1 : Option Nat) (0 : Int32) (0 : Int32) h _ _ E hs
    have E := (if_neg el0).symm.trans E
    by_cases el1 : lbl = 4
    · have E := (if_pos el1).symm.trans E
      by_cases c17 : (ea_i h (b0 + 32) 0) ≤ x3
      · have E := (if_pos c17).symm.trans E
        exact ea_shO E hs
      have E := (if_neg c17).symm.trans E
      obtain ⟨z1, E⟩ := gd_some E
      obtain ⟨e2, E⟩ := gd_some E
      obtain ⟨f3, E⟩ := gd_some E
      by_cases c16 : (ea_i h (Option.getD (ea_r h (b0 + 31) (Int32.toNatClampNeg x3)) 0) 0) = (2 : Int32)
      · have E := (if_pos c16).symm.trans E
        obtain ⟨e4, E⟩ := gd_some E
        obtain ⟨f5, E⟩ := gd_some E
        obtain ⟨e6, E⟩ := gd_some E
        obtain ⟨f7, E⟩ := gd_some E
        by_cases c15 : (ea_i h (Option.getD (ea_r h (b0 + 31) (Int32.toNatClampNeg x3)) 0) 5) = (ea_i h (Option.getD r1 0) 5)
        · have E := (if_pos c15).symm.trans E
          obtain ⟨e8, E⟩ := gd_some E
          obtain ⟨f9, E⟩ := gd_some E
          obtain ⟨z10, E⟩ := gd_some E
          obtain ⟨e11, E⟩ := gd_some E
          obtain ⟨f12, E⟩ := gd_some E
          obtain ⟨z13, E⟩ := gd_some E
          by_cases c14 : (vX4_dayOf b0 (Option.getD (ea_r h (b0 + 31) (Int32.toNatClampNeg x3)) 0) h) = (vX4_dayOf b0 (Option.getD r1 0) h)
          · have E := (if_pos c14).symm.trans E
            exact ih 4 (r1 : Option Nat) ((x2 + (1 : Int32)) : Int32) ((x3 + (1 : Int32)) : Int32) h _ _ E hs
          have E := (if_neg c14).symm.trans E
          exact ih 4 (r1 : Option Nat) (x2 : Int32) ((x3 + (1 : Int32)) : Int32) h _ _ E hs
        have E := (if_neg c15).symm.trans E
        exact ih 4 (r1 : Option Nat) (x2 : Int32) ((x3 + (1 : Int32)) : Int32) h _ _ E hs
      have E := (if_neg c16).symm.trans E
      exact ih 4 (r1 : Option Nat) (x2 : Int32) ((x3 + (1 : Int32)) : Int32) h _ _ E hs
    have E := (if_neg el1).symm.trans E
    cases E
theorem shX11_franksAhead {b0 : Nat} {r1 : Option Nat} {h : ea_H} (hs : ShC b0 h) : ShC b0 (wX11_franksAhead b0 r1 h) := by
  unfold wX11_franksAhead
  cases K : qX11_franksAhead b0 r1 h with
  | none => exact hs
  | some x => obtain ⟨x, y⟩ := x; unfold qX11_franksAhead at K; exact zX11_franksAhead _ _ _ _ _ _ _ _ K hs
noncomputable def gX11_owedBetween (b0 : Nat) : Nat → Nat → Int32 → Int32 → Int32 → Int32 → Int32 → ea_H → Option (Int32 × ea_H)
  | 0, _, _, _, _, _, _, _ => none
  | f + 1, lbl, x1, x2, x3, x4, x5, h =>
    if lbl = 0 then (gX11_owedBetween b0 f 6 (x1 : Int32) (x2 : Int32) (x3 : Int32) (0 : Int32) (0 : Int32) h) else
    if lbl = 6 then (if (ea_i h (b0 + 32) 0) ≤ x5 then (some (x4, h)) else (gd ((okX11_isBetween b0 (x5 : Int32) (x1 : Int32) (x2 : Int32) h)) (if (vX11_isBetween b0 (x5 : Int32) (x1 : Int32) (x2 : Int32) h) = (0 : Int32) then (gX11_owedBetween b0 f 6 (x1 : Int32) (x2 : Int32) (x3 : Int32) (x4 : Int32) ((x5 + (1 : Int32)) : Int32) h) else (if x3 = (0 : Int32) then (gX11_owedBetween b0 f 47 (x1 : Int32) (x2 : Int32) (x3 : Int32) (x4 : Int32) (x5 : Int32) h) else (gd (vp_in x5 120) (if (ea_i h (b0 + 33) (Int32.toNatClampNeg x5)) = (2 : Int32) then (gX11_owedBetween b0 f 47 (x1 : Int32) (x2 : Int32) (x3 : Int32) (x4 : Int32) (x5 : Int32) h) else (gX11_owedBetween b0 f 6 (x1 : Int32) (x2 : Int32) (x3 : Int32) (x4 : Int32) ((x5 + (1 : Int32)) : Int32) h))))))) else
    if lbl = 47 then (gd (vp_in x5 120) (gd ((ea_r h (b0 + 31) (Int32.toNatClampNeg x5)) = some (Option.getD (ea_r h (b0 + 31) (Int32.toNatClampNeg x5)) 0)) (gd (((Option.getD (ea_r h (b0 + 31) (Int32.toNatClampNeg x5)) 0) < ea_n h ∧ ea_c h (Option.getD (ea_r h (b0 + 31) (Int32.toNatClampNeg x5)) 0) = 4)) (gd ((okX4_owed b0 (Option.getD (ea_r h (b0 + 31) (Int32.toNatClampNeg x5)) 0) h)) (gX11_owedBetween b0 f 6 (x1 : Int32) (x2 : Int32) (x3 : Int32) ((x4 + (vX4_owed b0 (Option.getD (ea_r h (b0 + 31) (Int32.toNatClampNeg x5)) 0) h)) : Int32) ((x5 + (1 : Int32)) : Int32) h))))) else none
theorem tX11_owedBetween {d : Nat} {b0 : Nat} {h0 : ea_H} (hd : 2 ≤ d) : ∀ (f lbl : Nat) (x1 : Int32) (x2 : Int32) (x3 : Int32) (x4 : Int32) (x5 : Int32) (h : ea_H) (r : Int32) (h' : ea_H), gX11_owedBetween b0 f lbl x1 x2 x3 x4 x5 h = some (r, h') → ShC b0 h → (lbl = 0 → ea_W mX11_owedBetween d h0 (some (vI r)) h' 0 [(0, vR (some (b0 + 0))), (1, vI x1), (2, vI x2), (3, vI x3)] [] h) ∧ (lbl = 6 → ea_W mX11_owedBetween d h0 (some (vI r)) h' 6 [(0, vR (some (b0 + 0))), (1, vI x1), (2, vI x2), (3, vI x3), (4, vI x4), (5, vI x5)] [] h) ∧ (lbl = 47 → ea_W mX11_owedBetween d h0 (some (vI r)) h' 47 [(0, vR (some (b0 + 0))), (1, vI x1), (2, vI x2), (3, vI x3), (4, vI x4), (5, vI x5)] [] h) := by
  intro f
  induction f with
  | zero => intro lbl x1 x2 x3 x4 x5 h r h' E; cases E
  | succ f ih =>
    intro lbl x1 x2 x3 x4 x5 h r h' E hs
    unfold gX11_owedBetween at E
    refine ⟨?_, ?_⟩
    · intro el
      subst el
      have E := (if_pos rfl).symm.trans E
      refine ea_iconst (pc := 0) dX11_owedBetween_0 (v := 0) rfl ?_
      refine ea_istore (pc := 1) (lv' := [(0, vR (some (b0 + 0))), (1, vI x1), (2, vI x2), (3, vI x3), (4, vI 0)]) dX11_owedBetween_1 (Nat.le_of_ble_eq_true rfl) [1, 2, 3, 4, 0] rfl ?_
      refine ea_iconst (pc := 3) dX11_owedBetween_3 (v := 0) rfl ?_
      refine ea_istore (pc := 4) (lv' := [(0, vR (some (b0 + 0))), (1, vI x1), (2, vI x2), (3, vI x3), (4, vI 0), (5, vI 0)]) dX11_owedBetween_4 (Nat.le_of_ble_eq_true rfl) [1, 2, 3, 4, 5, 0] rfl ?_
      exact ((ih 6 (x1 : Int32) (x2 : Int32) (x3 : Int32) (0 : Int32) (0 : Int32) h _ _ E hs).2.1 rfl)
    refine ⟨?_, ?_⟩
    · intro el
      subst el
      have E := (if_neg (by decide)).symm.trans E
      have E := (if_pos rfl).symm.trans E
      refine ea_iload (pc := 6) dX11_owedBetween_6 5 rfl ?_
      refine ea_aload_n (pc := 8) dX11_owedBetween_8 rfl 0 rfl ?_
      refine ea_getR (pc := 9) dX11_owedBetween_9 ec_11 (k := 6) (Nat.le_of_ble_eq_true rfl) rfl (Or.inl ew_443) (hs.1 0 (by decide)).1 (hs.1 0 (by decide)).2.1 (hs.2 0 6 rfl) ?_
      refine ea_getI (pc := 12) dX11_owedBetween_12 ec_1 (k := 0) (Nat.le_of_ble_eq_true rfl) rfl (Or.inl ew_360) (hs.1 32 (by decide)).1 (hs.1 32 (by decide)).2.1 ?_
      refine ea_icmp_ge (pc := 15) (tgt := 68) dX11_owedBetween_15 rfl (fun c6 => ?_) (fun c6 => ?_)
      · have E := (if_pos c6).symm.trans E
        refine ea_iload (pc := 68) dX11_owedBetween_68 4 rfl ?_
        exact ea_iretO (pc := 70) dX11_owedBetween_70 rfl rfl E
      · have E := (if_neg c6).symm.trans E
        refine ea_aload_n (pc := 18) dX11_owedBetween_18 rfl 0 rfl ?_
        refine ea_iload (pc := 19) dX11_owedBetween_19 5 rfl ?_
        refine ea_iload_n (pc := 21) dX11_owedBetween_21 rfl 1 rfl ?_
        refine ea_iload_n (pc := 22) dX11_owedBetween_22 rfl 2 rfl ?_
        obtain ⟨z1, E⟩ := gd_some E
        refine ea_callV (pc := 23) (d' := d - 1) (As := [vI x5, vI x1, vI x2]) (st := []) dX11_owedBetween_23 kX11_isBetween (sX11_isBetween (d := d - 1) (by omega) hs z1) (by omega) rfl (Nat.le_of_ble_eq_true rfl) ew_1166 ew_1168 ew_39 (ci := 11) rfl (by decide) (hs.1 0 (by decide)).1 (hs.1 0 (by decide)).2.1 ?_
        refine ea_if_eq (pc := 26) (tgt := 62) dX11_owedBetween_26 rfl (fun c5 => ?_) (fun c5 => ?_)
        · have E := (if_pos c5).symm.trans E
          refine ea_iinc (pc := 62) (v := 1) (lv' := [(0, vR (some (b0 + 0))), (1, vI x1), (2, vI x2), (3, vI x3), (4, vI x4), (5, vI (x5 + (1 : Int32)))]) dX11_owedBetween_62 5 rfl rfl (Nat.le_of_ble_eq_true rfl) [1, 2, 3, 4, 5, 0] rfl ?_
          refine ea_goto (pc := 65) (tgt := 6) dX11_owedBetween_65 rfl ?_
          exact ((ih 6 (x1 : Int32) (x2 : Int32) (x3 : Int32) (x4 : Int32) ((x5 + (1 : Int32)) : Int32) h _ _ E hs).2.1 rfl)
        · have E := (if_neg c5).symm.trans E
          refine ea_iload_n (pc := 29) dX11_owedBetween_29 rfl 3 rfl ?_
          refine ea_if_eq (pc := 30) (tgt := 47) dX11_owedBetween_30 rfl (fun c4 => ?_) (fun c4 => ?_)
          · have E := (if_pos c4).symm.trans E
            exact ((ih 47 (x1 : Int32) (x2 : Int32) (x3 : Int32) (x4 : Int32) (x5 : Int32) h _ _ E hs).2.2 rfl)
          · have E := (if_neg c4).symm.trans E
            refine ea_aload_n (pc := 33) dX11_owedBetween_33 rfl 0 rfl ?_
            refine ea_getR (pc := 34) dX11_owedBetween_34 ec_11 (k := 6) (Nat.le_of_ble_eq_true rfl) rfl (Or.inl ew_443) (hs.1 0 (by decide)).1 (hs.1 0 (by decide)).2.1 (hs.2 0 6 rfl) ?_
            refine ea_getR (pc := 37) dX11_owedBetween_37 ec_1 (k := 1) (Nat.le_of_ble_eq_true rfl) rfl (Or.inl ew_362) (hs.1 32 (by decide)).1 (hs.1 32 (by decide)).2.1 (hs.2 32 1 rfl) ?_
            refine ea_iload (pc := 40) dX11_owedBetween_40 5 rfl ?_
            obtain ⟨z2, E⟩ := gd_some E
            refine ea_iald (pc := 42) dX11_owedBetween_42 (hs.1 33 (by decide)).1 (hs.1 33 (by decide)).2.1 (ea_vpl (hs.1 33 (by decide)).2.2 z2) ?_
            refine ea_iconst (pc := 43) dX11_owedBetween_43 (v := 2) rfl ?_
            refine ea_icmp_ne (pc := 44) (tgt := 62) dX11_owedBetween_44 rfl (fun c3 => ?_) (fun c3 => ?_)
            · have E := (if_neg c3).symm.trans E
              refine ea_iinc (pc := 62) (v := 1) (lv' := [(0, vR (some (b0 + 0))), (1, vI x1), (2, vI x2), (3, vI x3), (4, vI x4), (5, vI (x5 + (1 : Int32)))]) dX11_owedBetween_62 5 rfl rfl (Nat.le_of_ble_eq_true rfl) [1, 2, 3, 4, 5, 0] rfl ?_
              refine ea_goto (pc := 65) (tgt := 6) dX11_owedBetween_65 rfl ?_
              exact ((ih 6 (x1 : Int32) (x2 : Int32) (x3 : Int32) (x4 : Int32) ((x5 + (1 : Int32)) : Int32) h _ _ E hs).2.1 rfl)
            · have E := (if_pos c3).symm.trans E
              exact ((ih 47 (x1 : Int32) (x2 : Int32) (x3 : Int32) (x4 : Int32) (x5 : Int32) h _ _ E hs).2.2 rfl)
    intro el
    subst el
    have E := (if_neg (by decide)).symm.trans E
    have E := (if_neg (by decide)).symm.trans E
    have E := (if_pos rfl).symm.trans E
    refine ea_iload (pc := 47) dX11_owedBetween_47 4 rfl ?_
    refine ea_aload_n (pc := 49) dX11_owedBetween_49 rfl 0 rfl ?_
    refine ea_getR (pc := 50) dX11_owedBetween_50 ec_11 (k := 5) (Nat.le_of_ble_eq_true rfl) rfl (Or.inl ew_442) (hs.1 0 (by decide)).1 (hs.1 0 (by decide)).2.1 (hs.2 0 5 rfl) ?_
    refine ea_iload (pc := 53) dX11_owedBetween_53 5 rfl ?_
    obtain ⟨z7, E⟩ := gd_some E
    refine ea_aald23 (pc := 55) dX11_owedBetween_55 (hs.1 31 (by decide)).1 (hs.1 31 (by decide)).2.1 (ea_vpl (hs.1 31 (by decide)).2.2 z7) rfl ?_
    obtain ⟨e8, E⟩ := gd_some E
    obtain ⟨f9, E⟩ := gd_some E
    obtain ⟨z10, E⟩ := gd_some E
    refine ea_deref0 e8 ?_
    refine ea_callV (pc := 56) (d' := d - 1) (As := []) (st := [vI x4]) dX11_owedBetween_56 kX4_owed (sX4_owed (d := d - 1) (by omega) hs z10) (by omega) rfl (Nat.le_of_ble_eq_true rfl) ew_1084 ew_1085 ew_1086 (ci := 4) rfl (by decide) f9.1 f9.2 ?_
    refine ea_iadd (pc := 59) dX11_owedBetween_59 ?_
    refine ea_istore (pc := 60) (lv' := [(0, vR (some (b0 + 0))), (1, vI x1), (2, vI x2), (3, vI x3), (4, vI (x4 + (vX4_owed b0 (Option.getD (ea_r h (b0 + 31) (Int32.toNatClampNeg x5)) 0) h))), (5, vI x5)]) dX11_owedBetween_60 (Nat.le_of_ble_eq_true rfl) [1, 2, 3, 4, 0, 5] rfl ?_
    refine ea_iinc (pc := 62) (v := 1) (lv' := [(0, vR (some (b0 + 0))), (1, vI x1), (2, vI x2), (3, vI x3), (4, vI (x4 + (vX4_owed b0 (Option.getD (ea_r h (b0 + 31) (Int32.toNatClampNeg x5)) 0) h))), (5, vI (x5 + (1 : Int32)))]) dX11_owedBetween_62 5 rfl rfl (Nat.le_of_ble_eq_true rfl) [1, 2, 3, 4, 5, 0] rfl ?_
    refine ea_goto (pc := 65) (tgt := 6) dX11_owedBetween_65 rfl ?_
    exact ((ih 6 (x1 : Int32) (x2 : Int32) (x3 : Int32) ((x4 + (vX4_owed b0 (Option.getD (ea_r h (b0 + 31) (Int32.toNatClampNeg x5)) 0) h)) : Int32) ((x5 + (1 : Int32)) : Int32) h _ _ E hs).2.1 rfl)
noncomputable def qX11_owedBetween (b0 : Nat) (x1 : Int32) (x2 : Int32) (x3 : Int32) (h : ea_H) : Option (Int32 × ea_H) := gX11_owedBetween b0 1000000000 0 x1 x2 x3 0 0 h
def okX11_owedBetween (b0 : Nat) (x1 : Int32) (x2 : Int32) (x3 : Int32) (h : ea_H) : Prop := ∃ x, qX11_owedBetween b0 x1 x2 x3 h = some x
noncomputable def vX11_owedBetween (b0 : Nat) (x1 : Int32) (x2 : Int32) (x3 : Int32) (h : ea_H) : Int32 := ((qX11_owedBetween b0 x1 x2 x3 h).getD (0, h)).1
noncomputable def wX11_owedBetween (b0 : Nat) (x1 : Int32) (x2 : Int32) (x3 : Int32) (h : ea_H) : ea_H := ((qX11_owedBetween b0 x1 x2 x3 h).getD (0, h)).2
theorem sX11_owedBetween {d : Nat} {b0 : Nat} {x1 : Int32} {x2 : Int32} {x3 : Int32} {h : ea_H} (hd : 2 ≤ d) (hs : ShC b0 h) (K : okX11_owedBetween b0 x1 x2 x3 h) : ea_Met mX11_owedBetween d [vR (some (b0 + 0)), vI x1, vI x2, vI x3] h (some (vI (vX11_owedBetween b0 x1 x2 x3 h))) (wX11_owedBetween b0 x1 x2 x3 h) := by
  obtain ⟨⟨x, y⟩, K⟩ := K
  unfold wX11_owedBetween vX11_owedBetween
  rw [K]
  unfold qX11_owedBetween at K
  exact ea_enter rfl (Nat.le_of_ble_eq_true rfl) ((tX11_owedBetween hd 1000000000 0 x1 x2 x3 0 0 h x y K hs).1 rfl)
theorem zX11_owedBetween {b0 : Nat} : ∀ (f lbl : Nat) (x1 : Int32) (x2 : Int32) (x3 : Int32) (x4 : Int32) (x5 : Int32) (h : ea_H) (r : Int32) (h' : ea_H), gX11_owedBetween b0 f lbl x1 x2 x3 x4 x5 h = some (r, h') → ShC b0 h → ShC b0 h' := by
  intro f
  induction f with
  | zero => intro lbl x1 x2 x3 x4 x5 h r h' E; cases E
  | succ f ih =>
    intro lbl x1 x2 x3 x4 x5 h r h' E hs
    unfold gX11_owedBetween at E
    by_cases el0 : lbl = 0
    · have E := (if_pos el0).symm.trans E
      exact ih 6 (x1 : Int32) (x2 : Int32) (x3 : Int32) (0 : Int32) (0 : Int32) h _ _ E hs
    have E := (if_neg el0).symm.trans E
    by_cases el1 : lbl = 6
    · have E := (if_pos el1).symm.trans E
      by_cases c6 : (ea_i h (b0 + 32) 0) ≤ x5
      · have E := (if_pos c6).symm.trans E
        exact ea_shO E hs
      have E := (if_neg c6).symm.trans E
      obtain ⟨z1, E⟩ := gd_some E
      by_cases c5 : (vX11_isBetween b0 (x5 : Int32) (x1 : Int32) (x2 : Int32) h) = (0 : Int32)
      · have E := (if_pos c5).symm.trans E
        exact ih 6 (x1 : Int32) (x2 : Int32) (x3 : Int32) (x4 : Int32) ((x5 + (1 : Int32)) : Int32) h _ _ E hs
      have E := (if_neg c5).symm.trans E
      by_cases c4 : x3 = (0 : Int32)
      · have E := (if_pos c4).symm.trans E
        exact ih 47 (x1 : Int32) (x2 : Int32) (x3 : Int32) (x4 : Int32) (x5 : Int32) h _ _ E hs
      have E := (if_neg c4).symm.trans E
      obtain ⟨z2, E⟩ := gd_some E
      by_cases c3 : (ea_i h (b0 + 33) (Int32.toNatClampNeg x5)) = (2 : Int32)
      · have E := (if_pos c3).symm.trans E
        exact ih 47 (x1 : Int32) (x2 : Int32) (x3 : Int32) (x4 : Int32) (x5 : Int32) h _ _ E hs
      have E := (if_neg c3).symm.trans E
      exact ih 6 (x1 : Int32) (x2 : Int32) (x3 : Int32) (x4 : Int32) ((x5 + (1 : Int32)) : Int32) h _ _ E hs
    have E := (if_neg el1).symm.trans E
    by_cases el2 : lbl = 47
    · have E := (if_pos el2).symm.trans E
      obtain ⟨z7, E⟩ := gd_some E
      obtain ⟨e8, E⟩ := gd_some E
      obtain ⟨f9, E⟩ := gd_some E
      obtain ⟨z10, E⟩ := gd_some E
      exact ih 6 (x1 : Int32) (x2 : Int32) (x3 : Int32) ((x4 + (vX4_owed b0 (Option.getD (ea_r h (b0 + 31) (Int32.toNatClampNeg x5)) 0) h)) : Int32) ((x5 + (1 : Int32)) : Int32) h _ _ E hs
    have E := (if_neg el2).symm.trans E
    cases E
theorem shX11_owedBetween {b0 : Nat} {x1 : Int32} {x2 : Int32} {x3 : Int32} {h : ea_H} (hs : ShC b0 h) : ShC b0 (wX11_owedBetween b0 x1 x2 x3 h) := by
  unfold wX11_owedBetween
  cases K : qX11_owedBetween b0 x1 x2 x3 h with
  | none => exact hs
  | some x => obtain ⟨x, y⟩ := x; unfold qX11_owedBetween at K; exact zX11_owedBetween _ _ _ _ _ _ _ _ _ _ K hs
noncomputable def gX11_differing (b0 : Nat) : Nat → Nat → Int32 → Int32 → Int32 → Int32 → ea_H → Option (Int32 × ea_H)
  | 0, _, _, _, _, _, _ => none
  | f + 1, lbl, x1, x2, x3, x4, h =>
    if lbl = 0 then (gX11_differing b0 f 5 (x1 : Int32) (x2 : Int32) (0 : Int32) (0 : Int32) h) else
    if lbl = 5 then (if (ea_i h (b0 + 32) 0) ≤ x4 then (some (x3, h)) else (gd ((okX11_differs b0 (x4 : Int32) (x1 : Int32) (x2 : Int32) h)) (if (vX11_differs b0 (x4 : Int32) (x1 : Int32) (x2 : Int32) h) = (0 : Int32) then (gX11_differing b0 f 5 (x1 : Int32) (x2 : Int32) (x3 : Int32) ((x4 + (1 : Int32)) : Int32) h) else (gX11_differing b0 f 5 (x1 : Int32) (x2 : Int32) ((x3 + (1 : Int32)) : Int32) ((x4 + (1 : Int32)) : Int32) h)))) else none
theorem tX11_differing {d : Nat} {b0 : Nat} {h0 : ea_H} (hd : 3 ≤ d) : ∀ (f lbl : Nat) (x1 : Int32) (x2 : Int32) (x3 : Int32) (x4 : Int32) (h : ea_H) (r : Int32) (h' : ea_H), gX11_differing b0 f lbl x1 x2 x3 x4 h = some (r, h') → ShC b0 h → (lbl = 0 → ea_W mX11_differing d h0 (some (vI r)) h' 0 [(0, vR (some (b0 + 0))), (1, vI x1), (2, vI x2)] [] h) ∧ (lbl = 5 → ea_W mX11_differing d h0 (some (vI r)) h' 5 [(0, vR (some (b0 + 0))), (1, vI x1), (2, vI x2), (3, vI x3), (4, vI x4)] [] h) := by
  intro f
  induction f with
  | zero => intro lbl x1 x2 x3 x4 h r h' E; cases E
  | succ f ih =>
    intro lbl x1 x2 x3 x4 h r h' E hs
    unfold gX11_differing at E
    refine ⟨?_, ?_⟩
    · intro el
      subst el
      have E := (if_pos rfl).symm.trans E
      refine ea_iconst (pc := 0) dX11_differing_0 (v := 0) rfl ?_
      refine ea_istore_n (pc := 1) (lv' := [(0, vR (some (b0 + 0))), (1, vI x1), (2, vI x2), (3, vI 0)]) dX11_differing_1 rfl (Nat.le_of_ble_eq_true rfl) [1, 2, 3, 0] rfl ?_
      refine ea_iconst (pc := 2) dX11_differing_2 (v := 0) rfl ?_
      refine ea_istore (pc := 3) (lv' := [(0, vR (some (b0 + 0))), (1, vI x1), (2, vI x2), (3, vI 0), (4, vI 0)]) dX11_differing_3 (Nat.le_of_ble_eq_true rfl) [1, 2, 3, 4, 0] rfl ?_
      exact ((ih 5 (x1 : Int32) (x2 : Int32) (0 : Int32) (0 : Int32) h _ _ E hs).2 rfl)
    intro el
    subst el
    have E := (if_neg (by decide)).symm.trans E
    have E := (if_pos rfl).symm.trans E
    refine ea_iload (pc := 5) dX11_differing_5 4 rfl ?_
    refine ea_aload_n (pc := 7) dX11_differing_7 rfl 0 rfl ?_
    refine ea_getR (pc := 8) dX11_differing_8 ec_11 (k := 6) (Nat.le_of_ble_eq_true rfl) rfl (Or.inl ew_443) (hs.1 0 (by decide)).1 (hs.1 0 (by decide)).2.1 (hs.2 0 6 rfl) ?_
    refine ea_getI (pc := 11) dX11_differing_11 ec_1 (k := 0) (Nat.le_of_ble_eq_true rfl) rfl (Or.inl ew_360) (hs.1 32 (by decide)).1 (hs.1 32 (by decide)).2.1 ?_
    refine ea_icmp_ge (pc := 14) (tgt := 37) dX11_differing_14 rfl (fun c3 => ?_) (fun c3 => ?_)
    · have E := (if_pos c3).symm.trans E
      refine ea_iload_n (pc := 37) dX11_differing_37 rfl 3 rfl ?_
      exact ea_iretO (pc := 38) dX11_differing_38 rfl rfl E
    · have E := (if_neg c3).symm.trans E
      refine ea_aload_n (pc := 17) dX11_differing_17 rfl 0 rfl ?_
      refine ea_iload (pc := 18) dX11_differing_18 4 rfl ?_
      refine ea_iload_n (pc := 20) dX11_differing_20 rfl 1 rfl ?_
      refine ea_iload_n (pc := 21) dX11_differing_21 rfl 2 rfl ?_
      obtain ⟨z1, E⟩ := gd_some E
      refine ea_callV (pc := 22) (d' := d - 1) (As := [vI x4, vI x1, vI x2]) (st := []) dX11_differing_22 kX11_differs (sX11_differs (d := d - 1) (by omega) hs z1) (by omega) rfl (Nat.le_of_ble_eq_true rfl) ew_1174 ew_1176 ew_41 (ci := 11) rfl (by decide) (hs.1 0 (by decide)).1 (hs.1 0 (by decide)).2.1 ?_
      refine ea_if_eq (pc := 25) (tgt := 31) dX11_differing_25 rfl (fun c2 => ?_) (fun c2 => ?_)
      · have E := (if_pos c2).symm.trans E
        refine ea_iinc (pc := 31) (v := 1) (lv' := [(0, vR (some (b0 + 0))), (1, vI x1), (2, vI x2), (3, vI x3), (4, vI (x4 + (1 : Int32)))]) dX11_differing_31 4 rfl rfl (Nat.le_of_ble_eq_true rfl) [1, 2, 3, 4, 0] rfl ?_
        refine ea_goto (pc := 34) (tgt := 5) dX11_differing_34 rfl ?_
        exact ((ih 5 (x1 : Int32) (x2 : Int32) (x3 : Int32) ((x4 + (1 : Int32)) : Int32) h _ _ E hs).2 rfl)
      · have E := (if_neg c2).symm.trans E
        refine ea_iinc (pc := 28) (v := 1) (lv' := [(0, vR (some (b0 + 0))), (1, vI x1), (2, vI x2), (3, vI (x3 + (1 : Int32))), (4, vI x4)]) dX11_differing_28 3 rfl rfl (Nat.le_of_ble_eq_true rfl) [1, 2, 3, 0, 4] rfl ?_
        refine ea_iinc (pc := 31) (v := 1) (lv' := [(0, vR (some (b0 + 0))), (1, vI x1), (2, vI x2), (3, vI (x3 + (1 : Int32))), (4, vI (x4 + (1 : Int32)))]) dX11_differing_31 4 rfl rfl (Nat.le_of_ble_eq_true rfl) [1, 2, 3, 4, 0] rfl ?_
        refine ea_goto (pc := 34) (tgt := 5) dX11_differing_34 rfl ?_
        exact ((ih 5 (x1 : Int32) (x2 : Int32) ((x3 + (1 : Int32)) : Int32) ((x4 + (1 : Int32)) : Int32) h _ _ E hs).2 rfl)
noncomputable def qX11_differing (b0 : Nat) (x1 : Int32) (x2 : Int32) (h : ea_H) : Option (Int32 × ea_H) := gX11_differing b0 1000000000 0 x1 x2 0 0 h
def okX11_differing (b0 : Nat) (x1 : Int32) (x2 : Int32) (h : ea_H) : Prop := ∃ x, qX11_differing b0 x1 x2 h = some x
noncomputable def vX11_differing (b0 : Nat) (x1 : Int32) (x2 : Int32) (h : ea_H) : Int32 := ((qX11_differing b0 x1 x2 h).getD (0, h)).1
noncomputable def wX11_differing (b0 : Nat) (x1 : Int32) (x2 : Int32) (h : ea_H) : ea_H := ((qX11_differing b0 x1 x2 h).getD (0, h)).2
theorem sX11_differing {d : Nat} {b0 : Nat} {x1 : Int32} {x2 : Int32} {h : ea_H} (hd : 3 ≤ d) (hs : ShC b0 h) (K : okX11_differing b0 x1 x2 h) : ea_Met mX11_differing d [vR (some (b0 + 0)), vI x1, vI x2] h (some (vI (vX11_differing b0 x1 x2 h))) (wX11_differing b0 x1 x2 h) := by
  obtain ⟨⟨x, y⟩, K⟩ := K
  unfold wX11_differing vX11_differing
  rw [K]
  unfold qX11_differing at K
  exact ea_enter rfl (Nat.le_of_ble_eq_true rfl) ((tX11_differing hd 1000000000 0 x1 x2 0 0 h x y K hs).1 rfl)
theorem zX11_differing {b0 : Nat} : ∀ (f lbl : Nat) (x1 : Int32) (x2 : Int32) (x3 : Int32) (x4 : Int32) (h : ea_H) (r : Int32) (h' : ea_H), gX11_differing b0 f lbl x1 x2 x3 x4 h = some (r, h') → ShC b0 h → ShC b0 h' := by
  intro f
  induction f with
  | zero => intro lbl x1 x2 x3 x4 h r h' E; cases E
  | succ f ih =>
    intro lbl x1 x2 x3 x4 h r h' E hs
    unfold gX11_differing at E
    by_cases el0 : lbl = 0
    · have E := (if_pos el0).symm.trans E
      exact ih 5 (x1 : Int32) (x2 : Int32) (0 : Int32) (0 : Int32) h _ _ E hs
    have E := (if_neg el0).symm.trans E
    by_cases el1 : lbl = 5
    · have E := (if_pos el1).symm.trans E
      by_cases c3 : (ea_i h (b0 + 32) 0) ≤ x4
      · have E := (if_pos c3).symm.trans E
        exact ea_shO E hs
      have E := (if_neg c3).symm.trans E
      obtain ⟨z1, E⟩ := gd_some E
      by_cases c2 : (vX11_differs b0 (x4 : Int32) (x1 : Int32) (x2 : Int32) h) = (0 : Int32)
      · have E := (if_pos c2).symm.trans E
        exact ih 5 (x1 : Int32) (x2 : Int32) (x3 : Int32) ((x4 + (1 : Int32)) : Int32) h _ _ E hs
      have E := (if_neg c2).symm.trans E
      exact ih 5 (x1 : Int32) (x2 : Int32) ((x3 + (1 : Int32)) : Int32) ((x4 + (1 : Int32)) : Int32) h _ _ E hs
    have E := (if_neg el1).symm.trans E
    cases E
theorem shX11_differing {b0 : Nat} {x1 : Int32} {x2 : Int32} {h : ea_H} (hs : ShC b0 h) : ShC b0 (wX11_differing b0 x1 x2 h) := by
  unfold wX11_differing
  cases K : qX11_differing b0 x1 x2 h with
  | none => exact hs
  | some x => obtain ⟨x, y⟩ := x; unfold qX11_differing at K; exact zX11_differing _ _ _ _ _ _ _ _ _ K hs
noncomputable def gX11_differingLetter (b0 : Nat) : Nat → Nat → Int32 → Int32 → Int32 → Int32 → Int32 → ea_H → Option (Int32 × ea_H)
  | 0, _, _, _, _, _, _, _ => none
  | f + 1, lbl, x1, x2, x3, x4, x5, h =>
    if lbl = 0 then (gX11_differingLetter b0 f 6 (x1 : Int32) (x2 : Int32) (x3 : Int32) (0 : Int32) (0 : Int32) h) else
    if lbl = 6 then (if (ea_i h (b0 + 32) 0) ≤ x5 then (some (((-1) : Int32), h)) else (gd ((okX11_differs b0 (x5 : Int32) (x1 : Int32) (x2 : Int32) h)) (if (vX11_differs b0 (x5 : Int32) (x1 : Int32) (x2 : Int32) h) = (0 : Int32) then (gX11_differingLetter b0 f 6 (x1 : Int32) (x2 : Int32) (x3 : Int32) (x4 : Int32) ((x5 + (1 : Int32)) : Int32) h) else (if x4 = x3 then (some (x5, h)) else (gX11_differingLetter b0 f 6 (x1 : Int32) (x2 : Int32) (x3 : Int32) ((x4 + (1 : Int32)) : Int32) ((x5 + (1 : Int32)) : Int32) h))))) else none
theorem tX11_differingLetter {d : Nat} {b0 : Nat} {h0 : ea_H} (hd : 3 ≤ d) : ∀ (f lbl : Nat) (x1 : Int32) (x2 : Int32) (x3 : Int32) (x4 : Int32) (x5 : Int32) (h : ea_H) (r : Int32) (h' : ea_H), gX11_differingLetter b0 f lbl x1 x2 x3 x4 x5 h = some (r, h') → ShC b0 h → (lbl = 0 → ea_W mX11_differingLetter d h0 (some (vI r)) h' 0 [(0, vR (some (b0 + 0))), (1, vI x1), (2, vI x2), (3, vI x3)] [] h) ∧ (lbl = 6 → ea_W mX11_differingLetter d h0 (some (vI r)) h' 6 [(0, vR (some (b0 + 0))), (1, vI x1), (2, vI x2), (3, vI x3), (4, vI x4), (5, vI x5)] [] h) := by
  intro f
  induction f with
  | zero => intro lbl x1 x2 x3 x4 x5 h r h' E; cases E
  | succ f ih =>
    intro lbl x1 x2 x3 x4 x5 h r h' E hs
    unfold gX11_differingLetter at E
    refine ⟨?_, ?_⟩
    · intro el
      subst el
      have E := (if_pos rfl).symm.trans E
      refine ea_iconst (pc := 0) dX11_differingLetter_0 (v := 0) rfl ?_
      refine ea_istore (pc := 1) (lv' := [(0, vR (some (b0 + 0))), (1, vI x1), (2, vI x2), (3, vI x3), (4, vI 0)]) dX11_differingLetter_1 (Nat.le_of_ble_eq_true rfl) [1, 2, 3, 4, 0] rfl ?_
      refine ea_iconst (pc := 3) dX11_differingLetter_3 (v := 0) rfl ?_
      refine ea_istore (pc := 4) (lv' := [(0, vR (some (b0 + 0))), (1, vI x1), (2, vI x2), (3, vI x3), (4, vI 0), (5, vI 0)]) dX11_differingLetter_4 (Nat.le_of_ble_eq_true rfl) [1, 2, 3, 4, 5, 0] rfl ?_
      exact ((ih 6 (x1 : Int32) (x2 : Int32) (x3 : Int32) (0 : Int32) (0 : Int32) h _ _ E hs).2 rfl)
    intro el
    subst el
    have E := (if_neg (by decide)).symm.trans E
    have E := (if_pos rfl).symm.trans E
    refine ea_iload (pc := 6) dX11_differingLetter_6 5 rfl ?_
    refine ea_aload_n (pc := 8) dX11_differingLetter_8 rfl 0 rfl ?_
    refine ea_getR (pc := 9) dX11_differingLetter_9 ec_11 (k := 6) (Nat.le_of_ble_eq_true rfl) rfl (Or.inl ew_443) (hs.1 0 (by decide)).1 (hs.1 0 (by decide)).2.1 (hs.2 0 6 rfl) ?_
    refine ea_getI (pc := 12) dX11_differingLetter_12 ec_1 (k := 0) (Nat.le_of_ble_eq_true rfl) rfl (Or.inl ew_360) (hs.1 32 (by decide)).1 (hs.1 32 (by decide)).2.1 ?_
    refine ea_icmp_ge (pc := 15) (tgt := 47) dX11_differingLetter_15 rfl (fun c4 => ?_) (fun c4 => ?_)
    · have E := (if_pos c4).symm.trans E
      refine ea_iconst (pc := 47) dX11_differingLetter_47 (v := (-1)) rfl ?_
      exact ea_iretO (pc := 48) dX11_differingLetter_48 rfl rfl E
    · have E := (if_neg c4).symm.trans E
      refine ea_aload_n (pc := 18) dX11_differingLetter_18 rfl 0 rfl ?_
      refine ea_iload (pc := 19) dX11_differingLetter_19 5 rfl ?_
      refine ea_iload_n (pc := 21) dX11_differingLetter_21 rfl 1 rfl ?_
      refine ea_iload_n (pc := 22) dX11_differingLetter_22 rfl 2 rfl ?_
      obtain ⟨z1, E⟩ := gd_some E
      refine ea_callV (pc := 23) (d' := d - 1) (As := [vI x5, vI x1, vI x2]) (st := []) dX11_differingLetter_23 kX11_differs (sX11_differs (d := d - 1) (by omega) hs z1) (by omega) rfl (Nat.le_of_ble_eq_true rfl) ew_1174 ew_1176 ew_41 (ci := 11) rfl (by decide) (hs.1 0 (by decide)).1 (hs.1 0 (by decide)).2.1 ?_
      refine ea_if_eq (pc := 26) (tgt := 41) dX11_differingLetter_26 rfl (fun c3 => ?_) (fun c3 => ?_)
      · have E := (if_pos c3).symm.trans E
        refine ea_iinc (pc := 41) (v := 1) (lv' := [(0, vR (some (b0 + 0))), (1, vI x1), (2, vI x2), (3, vI x3), (4, vI x4), (5, vI (x5 + (1 : Int32)))]) dX11_differingLetter_41 5 rfl rfl (Nat.le_of_ble_eq_true rfl) [1, 2, 3, 4, 5, 0] rfl ?_
        refine ea_goto (pc := 44) (tgt := 6) dX11_differingLetter_44 rfl ?_
        exact ((ih 6 (x1 : Int32) (x2 : Int32) (x3 : Int32) (x4 : Int32) ((x5 + (1 : Int32)) : Int32) h _ _ E hs).2 rfl)
      · have E := (if_neg c3).symm.trans E
        refine ea_iload (pc := 29) dX11_differingLetter_29 4 rfl ?_
        refine ea_iload_n (pc := 31) dX11_differingLetter_31 rfl 3 rfl ?_
        refine ea_icmp_ne (pc := 32) (tgt := 38) dX11_differingLetter_32 rfl (fun c2 => ?_) (fun c2 => ?_)
        · have E := (if_neg c2).symm.trans E
          refine ea_iinc (pc := 38) (v := 1) (lv' := [(0, vR (some (b0 + 0))), (1, vI x1), (2, vI x2), (3, vI x3), (4, vI (x4 + (1 : Int32))), (5, vI x5)]) dX11_differingLetter_38 4 rfl rfl (Nat.le_of_ble_eq_true rfl) [1, 2, 3, 4, 0, 5] rfl ?_
          refine ea_iinc (pc := 41) (v := 1) (lv' := [(0, vR (some (b0 + 0))), (1, vI x1), (2, vI x2), (3, vI x3), (4, vI (x4 + (1 : Int32))), (5, vI (x5 + (1 : Int32)))]) dX11_differingLetter_41 5 rfl rfl (Nat.le_of_ble_eq_true rfl) [1, 2, 3, 4, 5, 0] rfl ?_
          refine ea_goto (pc := 44) (tgt := 6) dX11_differingLetter_44 rfl ?_
          exact ((ih 6 (x1 : Int32) (x2 : Int32) (x3 : Int32) ((x4 + (1 : Int32)) : Int32) ((x5 + (1 : Int32)) : Int32) h _ _ E hs).2 rfl)
        · have E := (if_pos c2).symm.trans E
          refine ea_iload (pc := 35) dX11_differingLetter_35 5 rfl ?_
          exact ea_iretO (pc := 37) dX11_differingLetter_37 rfl rfl E
noncomputable def qX11_differingLetter (b0 : Nat) (x1 : Int32) (x2 : Int32) (x3 : Int32) (h : ea_H) : Option (Int32 × ea_H) := gX11_differingLetter b0 1000000000 0 x1 x2 x3 0 0 h
def okX11_differingLetter (b0 : Nat) (x1 : Int32) (x2 : Int32) (x3 : Int32) (h : ea_H) : Prop := ∃ x, qX11_differingLetter b0 x1 x2 x3 h = some x
noncomputable def vX11_differingLetter (b0 : Nat) (x1 : Int32) (x2 : Int32) (x3 : Int32) (h : ea_H) : Int32 := ((qX11_differingLetter b0 x1 x2 x3 h).getD (0, h)).1
noncomputable def wX11_differingLetter (b0 : Nat) (x1 : Int32) (x2 : Int32) (x3 : Int32) (h : ea_H) : ea_H := ((qX11_differingLetter b0 x1 x2 x3 h).getD (0, h)).2
theorem sX11_differingLetter {d : Nat} {b0 : Nat} {x1 : Int32} {x2 : Int32} {x3 : Int32} {h : ea_H} (hd : 3 ≤ d) (hs : ShC b0 h) (K : okX11_differingLetter b0 x1 x2 x3 h) : ea_Met mX11_differingLetter d [vR (some (b0 + 0)), vI x1, vI x2, vI x3] h (some (vI (vX11_differingLetter b0 x1 x2 x3 h))) (wX11_differingLetter b0 x1 x2 x3 h) := by
  obtain ⟨⟨x, y⟩, K⟩ := K
  unfold wX11_differingLetter vX11_differingLetter
  rw [K]
  unfold qX11_differingLetter at K
  exact ea_enter rfl (Nat.le_of_ble_eq_true rfl) ((tX11_differingLetter hd 1000000000 0 x1 x2 x3 0 0 h x y K hs).1 rfl)
theorem zX11_differingLetter {b0 : Nat} : ∀ (f lbl : Nat) (x1 : Int32) (x2 : Int32) (x3 : Int32) (x4 : Int32) (x5 : Int32) (h : ea_H) (r : Int32) (h' : ea_H), gX11_differingLetter b0 f lbl x1 x2 x3 x4 x5 h = some (r, h') → ShC b0 h → ShC b0 h' := by
  intro f
  induction f with
  | zero => intro lbl x1 x2 x3 x4 x5 h r h' E; cases E
  | succ f ih =>
    intro lbl x1 x2 x3 x4 x5 h r h' E hs
    unfold gX11_differingLetter at E
    by_cases el0 : lbl = 0
    · have E := (if_pos el0).symm.trans E
      exact ih 6 (x1 : Int32) (x2 : Int32) (x3 : Int32) (0 : Int32) (0 : Int32) h _ _ E hs
    have E := (if_neg el0).symm.trans E
    by_cases el1 : lbl = 6
    · have E := (if_pos el1).symm.trans E
      by_cases c4 : (ea_i h (b0 + 32) 0) ≤ x5
      · have E := (if_pos c4).symm.trans E
        exact ea_shO E hs
      have E := (if_neg c4).symm.trans E
      obtain ⟨z1, E⟩ := gd_some E
      by_cases c3 : (vX11_differs b0 (x5 : Int32) (x1 : Int32) (x2 : Int32) h) = (0 : Int32)
      · have E := (if_pos c3).symm.trans E
        exact ih 6 (x1 : Int32) (x2 : Int32) (x3 : Int32) (x4 : Int32) ((x5 + (1 : Int32)) : Int32) h _ _ E hs
      have E := (if_neg c3).symm.trans E
      by_cases c2 : x4 = x3
      · have E := (if_pos c2).symm.trans E
        exact ea_shO E hs
      have E := (if_neg c2).symm.trans E
      exact ih 6 (x1 : Int32) (x2 : Int32) (x3 : Int32) ((x4 + (1 : Int32)) : Int32) ((x5 + (1 : Int32)) : Int32) h _ _ E hs
    have E := (if_neg el1).symm.trans E
    cases E
theorem shX11_differingLetter {b0 : Nat} {x1 : Int32} {x2 : Int32} {x3 : Int32} {h : ea_H} (hs : ShC b0 h) : ShC b0 (wX11_differingLetter b0 x1 x2 x3 h) := by
  unfold wX11_differingLetter
  cases K : qX11_differingLetter b0 x1 x2 x3 h with
  | none => exact hs
  | some x => obtain ⟨x, y⟩ := x; unfold qX11_differingLetter at K; exact zX11_differingLetter _ _ _ _ _ _ _ _ _ _ K hs
noncomputable def gX1_init (a0 : Nat) : Nat → Nat → Option Nat → Option Nat → Option Nat → Option Nat → Int32 → ea_H → Option (Unit × ea_H)
  | 0, _, _, _, _, _, _, _ => none
  | f + 1, lbl, r1, r2, r3, r4, x5, h =>
    (ea_let (ea_new h 20 120 120) fun H2 => (gd ((a0 < ea_n H2 ∧ ea_c H2 a0 = 1)) (ea_let (ea_wr H2 a0 1 (some (ea_n h))) fun H5 => (ea_let (ea_new H5 20 120 120) fun H7 => (gd ((a0 < ea_n H7 ∧ ea_c H7 a0 = 1)) (ea_let (ea_wr H7 a0 2 (some (ea_n H5))) fun H10 => (ea_let (ea_new H10 20 120 120) fun H12 => (gd ((a0 < ea_n H12 ∧ ea_c H12 a0 = 1)) (ea_let (ea_wr H12 a0 3 (some (ea_n H10))) fun H15 => (ea_let (ea_new H15 20 120 120) fun H17 => (gd ((a0 < ea_n H17 ∧ ea_c H17 a0 = 1)) (ea_let (ea_wr H17 a0 4 (some (ea_n H15))) fun H20 => (ea_let (ea_new H20 21 120 120) fun H22 => (gd ((a0 < ea_n H22 ∧ ea_c H22 a0 = 1)) (ea_let (ea_wr H22 a0 5 (some (ea_n H20))) fun H25 => (ea_let (ea_new H25 20 70 70) fun H27 => (gd ((a0 < ea_n H27 ∧ ea_c H27 a0 = 1)) (ea_let (ea_wr H27 a0 6 (some (ea_n H25))) fun H30 => (ea_let (ea_new H30 20 120 120) fun H32 => (gd ((a0 < ea_n H32 ∧ ea_c H32 a0 = 1)) (ea_let (ea_wr H32 a0 7 (some (ea_n H30))) fun H35 => (ea_let (ea_new H35 20 12 12) fun H37 => (gd ((a0 < ea_n H37 ∧ ea_c H37 a0 = 1)) (ea_let (ea_wr H37 a0 8 (some (ea_n H35))) fun H40 => (ea_let (ea_new H40 20 70 70) fun H42 => (gd ((a0 < ea_n H42 ∧ ea_c H42 a0 = 1)) (ea_let (ea_wr H42 a0 9 (some (ea_n H40))) fun H45 => (gd ((a0 < ea_n H45 ∧ ea_c H45 a0 = 1)) (ea_let (ea_wr H45 a0 11 r1) fun H48 => (gd ((a0 < ea_n H48 ∧ ea_c H48 a0 = 1)) (ea_let (ea_wr H48 a0 12 r2) fun H51 => (gd ((a0 < ea_n H51 ∧ ea_c H51 a0 = 1)) (ea_let (ea_wr H51 a0 13 r3) fun H54 => (gd ((a0 < ea_n H54 ∧ ea_c H54 a0 = 1)) (ea_let (ea_wr H54 a0 14 r4) fun H57 => (gd ((a0 < ea_n H57 ∧ ea_c H57 a0 = 1)) (gd ((x5 = 0 ∨ x5 = 1)) (ea_let (ea_wi H57 a0 15 x5) fun H61 => (some ((), H61))))))))))))))))))))))))))))))))))))))))
theorem tX1_init {d : Nat} {a0 : Nat} {h0 : ea_H} (hd : 2 ≤ d) : ∀ (f lbl : Nat) (r1 : Option Nat) (r2 : Option Nat) (r3 : Option Nat) (r4 : Option Nat) (x5 : Int32) (h : ea_H) (r : Unit) (h' : ea_H), gX1_init a0 f lbl r1 r2 r3 r4 x5 h = some (r, h') → (lbl = 0 → ea_W mX1_init d h0 none h' 0 [(0, vR (some a0)), (1, vR r1), (2, vR r2), (3, vR r3), (4, vR r4), (5, vI x5)] [] h) := by
  intro f
  induction f with
  | zero => intro lbl r1 r2 r3 r4 x5 h r h' E; cases E
  | succ f ih =>
    intro lbl r1 r2 r3 r4 x5 h r h' E
    unfold gX1_init at E
    intro el
    subst el
    refine ea_aload_n (pc := 0) dX1_init_0 rfl 0 rfl ?_
    refine ea_objInit (pc := 1) dX1_init_1 ew_358 ew_134 ew_135 (by omega) (Nat.le_of_ble_eq_true rfl) ?_
    refine ea_aload_n (pc := 4) dX1_init_4 rfl 0 rfl ?_
    refine ea_bipush (pc := 5) dX1_init_5 (v := 120) rfl ?_
    refine ea_newI (pc := 7) (N := 120) dX1_init_7 ew_170 (by decide) rfl (Nat.le_of_ble_eq_true rfl) ?_
    obtain ⟨H2, eH2, E⟩ := let_some E
    refine ea_nm eH2 ?_
    obtain ⟨f3, E⟩ := gd_some E
    refine ea_putR (pc := 9) dX1_init_9 ec_1 (k := 1) (Nat.le_of_ble_eq_true rfl) rfl (Or.inr ⟨rfl, rfl, rfl, ew_361⟩) f3.1 f3.2 ?_
    obtain ⟨H5, eH5, E⟩ := let_some E
    refine ea_nm eH5 ?_
    refine ea_aload_n (pc := 12) dX1_init_12 rfl 0 rfl ?_
    refine ea_bipush (pc := 13) dX1_init_13 (v := 120) rfl ?_
    refine ea_newI (pc := 15) (N := 120) dX1_init_15 ew_170 (by decide) rfl (Nat.le_of_ble_eq_true rfl) ?_
    obtain ⟨H7, eH7, E⟩ := let_some E
    refine ea_nm eH7 ?_
    obtain ⟨f8, E⟩ := gd_some E
    refine ea_putR (pc := 17) dX1_init_17 ec_1 (k := 2) (Nat.le_of_ble_eq_true rfl) rfl (Or.inr ⟨rfl, rfl, rfl, ew_363⟩) f8.1 f8.2 ?_
    obtain ⟨H10, eH10, E⟩ := let_some E
    refine ea_nm eH10 ?_
    refine ea_aload_n (pc := 20) dX1_init_20 rfl 0 rfl ?_
    refine ea_bipush (pc := 21) dX1_init_21 (v := 120) rfl ?_
    refine ea_newI (pc := 23) (N := 120) dX1_init_23 ew_170 (by decide) rfl (Nat.le_of_ble_eq_true rfl) ?_
    obtain ⟨H12, eH12, E⟩ := let_some E
    refine ea_nm eH12 ?_
    obtain ⟨f13, E⟩ := gd_some E
    refine ea_putR (pc := 25) dX1_init_25 ec_1 (k := 3) (Nat.le_of_ble_eq_true rfl) rfl (Or.inr ⟨rfl, rfl, rfl, ew_365⟩) f13.1 f13.2 ?_
    obtain ⟨H15, eH15, E⟩ := let_some E
    refine ea_nm eH15 ?_
    refine ea_aload_n (pc := 28) dX1_init_28 rfl 0 rfl ?_
    refine ea_bipush (pc := 29) dX1_init_29 (v := 120) rfl ?_
    refine ea_newI (pc := 31) (N := 120) dX1_init_31 ew_170 (by decide) rfl (Nat.le_of_ble_eq_true rfl) ?_
    obtain ⟨H17, eH17, E⟩ := let_some E
    refine ea_nm eH17 ?_
    obtain ⟨f18, E⟩ := gd_some E
    refine ea_putR (pc := 33) dX1_init_33 ec_1 (k := 4) (Nat.le_of_ble_eq_true rfl) rfl (Or.inr ⟨rfl, rfl, rfl, ew_367⟩) f18.1 f18.2 ?_
    obtain ⟨H20, eH20, E⟩ := let_some E
    refine ea_nm eH20 ?_
    refine ea_aload_n (pc := 36) dX1_init_36 rfl 0 rfl ?_
    refine ea_bipush (pc := 37) dX1_init_37 (v := 120) rfl ?_
    refine ea_newZ (pc := 39) (N := 120) dX1_init_39 ew_218 (by decide) rfl (Nat.le_of_ble_eq_true rfl) ?_
    obtain ⟨H22, eH22, E⟩ := let_some E
    refine ea_nm eH22 ?_
    obtain ⟨f23, E⟩ := gd_some E
    refine ea_putR (pc := 41) dX1_init_41 ec_1 (k := 5) (Nat.le_of_ble_eq_true rfl) rfl (Or.inr ⟨rfl, rfl, rfl, ew_369⟩) f23.1 f23.2 ?_
    obtain ⟨H25, eH25, E⟩ := let_some E
    refine ea_nm eH25 ?_
    refine ea_aload_n (pc := 44) dX1_init_44 rfl 0 rfl ?_
    refine ea_bipush (pc := 45) dX1_init_45 (v := 70) rfl ?_
    refine ea_newI (pc := 47) (N := 70) dX1_init_47 ew_170 (by decide) rfl (Nat.le_of_ble_eq_true rfl) ?_
    obtain ⟨H27, eH27, E⟩ := let_some E
    refine ea_nm eH27 ?_
    obtain ⟨f28, E⟩ := gd_some E
    refine ea_putR (pc := 49) dX1_init_49 ec_1 (k := 6) (Nat.le_of_ble_eq_true rfl) rfl (Or.inr ⟨rfl, rfl, rfl, ew_371⟩) f28.1 f28.2 ?_
    obtain ⟨H30, eH30, E⟩ := let_some E
    refine ea_nm eH30 ?_
    refine ea_aload_n (pc := 52) dX1_init_52 rfl 0 rfl ?_
    refine ea_bipush (pc := 53) dX1_init_53 (v := 120) rfl ?_
    refine ea_newI (pc := 55) (N := 120) dX1_init_55 ew_170 (by decide) rfl (Nat.le_of_ble_eq_true rfl) ?_
    obtain ⟨H32, eH32, E⟩ := let_some E
    refine ea_nm eH32 ?_
    obtain ⟨f33, E⟩ := gd_some E
    refine ea_putR (pc := 57) dX1_init_57 ec_1 (k := 7) (Nat.le_of_ble_eq_true rfl) rfl (Or.inr ⟨rfl, rfl, rfl, ew_373⟩) f33.1 f33.2 ?_
    obtain ⟨H35, eH35, E⟩ := let_some E
    refine ea_nm eH35 ?_
    refine ea_aload_n (pc := 60) dX1_init_60 rfl 0 rfl ?_
    refine ea_bipush (pc := 61) dX1_init_61 (v := 12) rfl ?_
    refine ea_newI (pc := 63) (N := 12) dX1_init_63 ew_170 (by decide) rfl (Nat.le_of_ble_eq_true rfl) ?_
    obtain ⟨H37, eH37, E⟩ := let_some E
    refine ea_nm eH37 ?_
    obtain ⟨f38, E⟩ := gd_some E
    refine ea_putR (pc := 65) dX1_init_65 ec_1 (k := 8) (Nat.le_of_ble_eq_true rfl) rfl (Or.inr ⟨rfl, rfl, rfl, ew_374⟩) f38.1 f38.2 ?_
    obtain ⟨H40, eH40, E⟩ := let_some E
    refine ea_nm eH40 ?_
    refine ea_aload_n (pc := 68) dX1_init_68 rfl 0 rfl ?_
    refine ea_bipush (pc := 69) dX1_init_69 (v := 70) rfl ?_
    refine ea_newI (pc := 71) (N := 70) dX1_init_71 ew_170 (by decide) rfl (Nat.le_of_ble_eq_true rfl) ?_
    obtain ⟨H42, eH42, E⟩ := let_some E
    refine ea_nm eH42 ?_
    obtain ⟨f43, E⟩ := gd_some E
    refine ea_putR (pc := 73) dX1_init_73 ec_1 (k := 9) (Nat.le_of_ble_eq_true rfl) rfl (Or.inr ⟨rfl, rfl, rfl, ew_375⟩) f43.1 f43.2 ?_
    obtain ⟨H45, eH45, E⟩ := let_some E
    refine ea_nm eH45 ?_
    refine ea_aload_n (pc := 76) dX1_init_76 rfl 0 rfl ?_
    refine ea_aload_n (pc := 77) dX1_init_77 rfl 1 rfl ?_
    obtain ⟨f46, E⟩ := gd_some E
    refine ea_putR (pc := 78) dX1_init_78 ec_1 (k := 11) (Nat.le_of_ble_eq_true rfl) rfl (Or.inr ⟨rfl, rfl, rfl, ew_377⟩) f46.1 f46.2 ?_
    obtain ⟨H48, eH48, E⟩ := let_some E
    refine ea_nm eH48 ?_
    refine ea_aload_n (pc := 81) dX1_init_81 rfl 0 rfl ?_
    refine ea_aload_n (pc := 82) dX1_init_82 rfl 2 rfl ?_
    obtain ⟨f49, E⟩ := gd_some E
    refine ea_putR (pc := 83) dX1_init_83 ec_1 (k := 12) (Nat.le_of_ble_eq_true rfl) rfl (Or.inr ⟨rfl, rfl, rfl, ew_378⟩) f49.1 f49.2 ?_
    obtain ⟨H51, eH51, E⟩ := let_some E
    refine ea_nm eH51 ?_
    refine ea_aload_n (pc := 86) dX1_init_86 rfl 0 rfl ?_
    refine ea_aload_n (pc := 87) dX1_init_87 rfl 3 rfl ?_
    obtain ⟨f52, E⟩ := gd_some E
    refine ea_putR (pc := 88) dX1_init_88 ec_1 (k := 13) (Nat.le_of_ble_eq_true rfl) rfl (Or.inr ⟨rfl, rfl, rfl, ew_379⟩) f52.1 f52.2 ?_
    obtain ⟨H54, eH54, E⟩ := let_some E
    refine ea_nm eH54 ?_
    refine ea_aload_n (pc := 91) dX1_init_91 rfl 0 rfl ?_
    refine ea_aload (pc := 92) dX1_init_92 4 rfl ?_
    obtain ⟨f55, E⟩ := gd_some E
    refine ea_putR (pc := 94) dX1_init_94 ec_1 (k := 14) (Nat.le_of_ble_eq_true rfl) rfl (Or.inr ⟨rfl, rfl, rfl, ew_380⟩) f55.1 f55.2 ?_
    obtain ⟨H57, eH57, E⟩ := let_some E
    refine ea_nm eH57 ?_
    refine ea_aload_n (pc := 97) dX1_init_97 rfl 0 rfl ?_
    refine ea_iload (pc := 98) dX1_init_98 5 rfl ?_
    obtain ⟨f58, E⟩ := gd_some E
    obtain ⟨z60, E⟩ := gd_some E
    refine ea_putI (pc := 100) dX1_init_100 ec_1 (k := 15) (Nat.le_of_ble_eq_true rfl) rfl (Or.inr ⟨rfl, rfl, rfl, ew_381⟩) (ea_bn z60) (ea_bf z60) f58.1 f58.2 ?_
    obtain ⟨H61, eH61, E⟩ := let_some E
    refine ea_nm eH61 ?_
    exact ea_vretO (pc := 103) dX1_init_103 rfl E
noncomputable def qX1_init (a0 : Nat) (r1 : Option Nat) (r2 : Option Nat) (r3 : Option Nat) (r4 : Option Nat) (x5 : Int32) (h : ea_H) : Option (Unit × ea_H) := gX1_init a0 1000000000 0 r1 r2 r3 r4 x5 h
def okX1_init (a0 : Nat) (r1 : Option Nat) (r2 : Option Nat) (r3 : Option Nat) (r4 : Option Nat) (x5 : Int32) (h : ea_H) : Prop := ∃ x, qX1_init a0 r1 r2 r3 r4 x5 h = some x
noncomputable def wX1_init (a0 : Nat) (r1 : Option Nat) (r2 : Option Nat) (r3 : Option Nat) (r4 : Option Nat) (x5 : Int32) (h : ea_H) : ea_H := ((qX1_init a0 r1 r2 r3 r4 x5 h).getD ((), h)).2
theorem sX1_init {d : Nat} {a0 : Nat} {r1 : Option Nat} {r2 : Option Nat} {r3 : Option Nat} {r4 : Option Nat} {x5 : Int32} {h : ea_H} (hd : 2 ≤ d) (K : okX1_init a0 r1 r2 r3 r4 x5 h) : ea_Met mX1_init d [vR (some a0), vR r1, vR r2, vR r3, vR r4, vI x5] h none (wX1_init a0 r1 r2 r3 r4 x5 h) := by
  obtain ⟨⟨x, y⟩, K⟩ := K
  unfold wX1_init
  rw [K]
  unfold qX1_init at K
  exact ea_enter rfl (Nat.le_of_ble_eq_true rfl) ((tX1_init hd 1000000000 0 r1 r2 r3 r4 x5 h x y K) rfl)
noncomputable def gX1_inState_at32 (b0 : Nat) : Nat → Nat → Int32 → Int32 → Int32 → ea_H → Option (Int32 × ea_H)
  | 0, _, _, _, _, _ => none
  | f + 1, lbl, x1, x2, x3, h =>
    if lbl = 0 then (gX1_inState_at32 b0 f 4 (x1 : Int32) (0 : Int32) (0 : Int32) h) else
    if lbl = 4 then (if (ea_i h (b0 + 32) 0) ≤ x3 then (some (x2, h)) else (gd (vp_in x3 120) (if (ea_i h (b0 + 33) (Int32.toNatClampNeg x3)) = x1 then (gX1_inState_at32 b0 f 4 (x1 : Int32) ((x2 + (1 : Int32)) : Int32) ((x3 + (1 : Int32)) : Int32) h) else (gX1_inState_at32 b0 f 4 (x1 : Int32) (x2 : Int32) ((x3 + (1 : Int32)) : Int32) h)))) else none
theorem tX1_inState_at32 {d : Nat} {b0 : Nat} {h0 : ea_H} (hd : 1 ≤ d) : ∀ (f lbl : Nat) (x1 : Int32) (x2 : Int32) (x3 : Int32) (h : ea_H) (r : Int32) (h' : ea_H), gX1_inState_at32 b0 f lbl x1 x2 x3 h = some (r, h') → ShC b0 h → (lbl = 0 → ea_W mX1_inState d h0 (some (vI r)) h' 0 [(0, vR (some (b0 + 32))), (1, vI x1)] [] h) ∧ (lbl = 4 → ea_W mX1_inState d h0 (some (vI r)) h' 4 [(0, vR (some (b0 + 32))), (1, vI x1), (2, vI x2), (3, vI x3)] [] h) := by
  intro f
  induction f with
  | zero => intro lbl x1 x2 x3 h r h' E; cases E
  | succ f ih =>
    intro lbl x1 x2 x3 h r h' E hs
    unfold gX1_inState_at32 at E
    refine ⟨?_, ?_⟩
    · intro el
      subst el
      have E := (if_pos rfl).symm.trans E
      refine ea_iconst (pc := 0) dX1_inState_0 (v := 0) rfl ?_
      refine ea_istore_n (pc := 1) (lv' := [(0, vR (some (b0 + 32))), (1, vI x1), (2, vI 0)]) dX1_inState_1 rfl (Nat.le_of_ble_eq_true rfl) [1, 2, 0] rfl ?_
      refine ea_iconst (pc := 2) dX1_inState_2 (v := 0) rfl ?_
      refine ea_istore_n (pc := 3) (lv' := [(0, vR (some (b0 + 32))), (1, vI x1), (2, vI 0), (3, vI 0)]) dX1_inState_3 rfl (Nat.le_of_ble_eq_true rfl) [1, 2, 3, 0] rfl ?_
      exact ((ih 4 (x1 : Int32) (0 : Int32) (0 : Int32) h _ _ E hs).2 rfl)
    intro el
    subst el
    have E := (if_neg (by decide)).symm.trans E
    have E := (if_pos rfl).symm.trans E
    refine ea_iload_n (pc := 4) dX1_inState_4 rfl 3 rfl ?_
    refine ea_aload_n (pc := 5) dX1_inState_5 rfl 0 rfl ?_
    refine ea_getI (pc := 6) dX1_inState_6 ec_1 (k := 0) (Nat.le_of_ble_eq_true rfl) rfl (Or.inl ew_359) (hs.1 32 (by decide)).1 (hs.1 32 (by decide)).2.1 ?_
    refine ea_icmp_ge (pc := 9) (tgt := 31) dX1_inState_9 rfl (fun c3 => ?_) (fun c3 => ?_)
    · have E := (if_pos c3).symm.trans E
      refine ea_iload_n (pc := 31) dX1_inState_31 rfl 2 rfl ?_
      exact ea_iretO (pc := 32) dX1_inState_32 rfl rfl E
    · have E := (if_neg c3).symm.trans E
      refine ea_aload_n (pc := 12) dX1_inState_12 rfl 0 rfl ?_
      refine ea_getR (pc := 13) dX1_inState_13 ec_1 (k := 1) (Nat.le_of_ble_eq_true rfl) rfl (Or.inl ew_361) (hs.1 32 (by decide)).1 (hs.1 32 (by decide)).2.1 (hs.2 32 1 rfl) ?_
      refine ea_iload_n (pc := 16) dX1_inState_16 rfl 3 rfl ?_
      obtain ⟨z1, E⟩ := gd_some E
      refine ea_iald (pc := 17) dX1_inState_17 (hs.1 33 (by decide)).1 (hs.1 33 (by decide)).2.1 (ea_vpl (hs.1 33 (by decide)).2.2 z1) ?_
      refine ea_iload_n (pc := 18) dX1_inState_18 rfl 1 rfl ?_
      refine ea_icmp_ne (pc := 19) (tgt := 25) dX1_inState_19 rfl (fun c2 => ?_) (fun c2 => ?_)
      · have E := (if_neg c2).symm.trans E
        refine ea_iinc (pc := 25) (v := 1) (lv' := [(0, vR (some (b0 + 32))), (1, vI x1), (2, vI x2), (3, vI (x3 + (1 : Int32)))]) dX1_inState_25 3 rfl rfl (Nat.le_of_ble_eq_true rfl) [1, 2, 3, 0] rfl ?_
        refine ea_goto (pc := 28) (tgt := 4) dX1_inState_28 rfl ?_
        exact ((ih 4 (x1 : Int32) (x2 : Int32) ((x3 + (1 : Int32)) : Int32) h _ _ E hs).2 rfl)
      · have E := (if_pos c2).symm.trans E
        refine ea_iinc (pc := 22) (v := 1) (lv' := [(0, vR (some (b0 + 32))), (1, vI x1), (2, vI (x2 + (1 : Int32))), (3, vI x3)]) dX1_inState_22 2 rfl rfl (Nat.le_of_ble_eq_true rfl) [1, 2, 0, 3] rfl ?_
        refine ea_iinc (pc := 25) (v := 1) (lv' := [(0, vR (some (b0 + 32))), (1, vI x1), (2, vI (x2 + (1 : Int32))), (3, vI (x3 + (1 : Int32)))]) dX1_inState_25 3 rfl rfl (Nat.le_of_ble_eq_true rfl) [1, 2, 3, 0] rfl ?_
        refine ea_goto (pc := 28) (tgt := 4) dX1_inState_28 rfl ?_
        exact ((ih 4 (x1 : Int32) ((x2 + (1 : Int32)) : Int32) ((x3 + (1 : Int32)) : Int32) h _ _ E hs).2 rfl)
noncomputable def qX1_inState_at32 (b0 : Nat) (x1 : Int32) (h : ea_H) : Option (Int32 × ea_H) := gX1_inState_at32 b0 1000000000 0 x1 0 0 h
def okX1_inState_at32 (b0 : Nat) (x1 : Int32) (h : ea_H) : Prop := ∃ x, qX1_inState_at32 b0 x1 h = some x
noncomputable def vX1_inState_at32 (b0 : Nat) (x1 : Int32) (h : ea_H) : Int32 := ((qX1_inState_at32 b0 x1 h).getD (0, h)).1
noncomputable def wX1_inState_at32 (b0 : Nat) (x1 : Int32) (h : ea_H) : ea_H := ((qX1_inState_at32 b0 x1 h).getD (0, h)).2
theorem sX1_inState_at32 {d : Nat} {b0 : Nat} {x1 : Int32} {h : ea_H} (hd : 1 ≤ d) (hs : ShC b0 h) (K : okX1_inState_at32 b0 x1 h) : ea_Met mX1_inState d [vR (some (b0 + 32)), vI x1] h (some (vI (vX1_inState_at32 b0 x1 h))) (wX1_inState_at32 b0 x1 h) := by
  obtain ⟨⟨x, y⟩, K⟩ := K
  unfold wX1_inState_at32 vX1_inState_at32
  rw [K]
  unfold qX1_inState_at32 at K
  exact ea_enter rfl (Nat.le_of_ble_eq_true rfl) ((tX1_inState_at32 hd 1000000000 0 x1 0 0 h x y K hs).1 rfl)
theorem zX1_inState_at32 {b0 : Nat} : ∀ (f lbl : Nat) (x1 : Int32) (x2 : Int32) (x3 : Int32) (h : ea_H) (r : Int32) (h' : ea_H), gX1_inState_at32 b0 f lbl x1 x2 x3 h = some (r, h') → ShC b0 h → ShC b0 h' := by
  intro f
  induction f with
  | zero => intro lbl x1 x2 x3 h r h' E; cases E
  | succ f ih =>
    intro lbl x1 x2 x3 h r h' E hs
    unfold gX1_inState_at32 at E
    by_cases el0 : lbl = 0
    · have E := (if_pos el0).symm.trans E
      exact ih 4 (x1 : Int32) (0 : Int32) (0 : Int32) h _ _ E hs
    have E := (if_neg el0).symm.trans E
    by_cases el1 : lbl = 4
    · have E := (if_pos el1).symm.trans E
      by_cases c3 : (ea_i h (b0 + 32) 0) ≤ x3
      · have E := (if_pos c3).symm.trans E
        exact ea_shO E hs
      have E := (if_neg c3).symm.trans E
      obtain ⟨z1, E⟩ := gd_some E
      by_cases c2 : (ea_i h (b0 + 33) (Int32.toNatClampNeg x3)) = x1
      · have E := (if_pos c2).symm.trans E
        exact ih 4 (x1 : Int32) ((x2 + (1 : Int32)) : Int32) ((x3 + (1 : Int32)) : Int32) h _ _ E hs
      have E := (if_neg c2).symm.trans E
      exact ih 4 (x1 : Int32) (x2 : Int32) ((x3 + (1 : Int32)) : Int32) h _ _ E hs
    have E := (if_neg el1).symm.trans E
    cases E
theorem shX1_inState_at32 {b0 : Nat} {x1 : Int32} {h : ea_H} (hs : ShC b0 h) : ShC b0 (wX1_inState_at32 b0 x1 h) := by
  unfold wX1_inState_at32
  cases K : qX1_inState_at32 b0 x1 h with
  | none => exact hs
  | some x => obtain ⟨x, y⟩ := x; unfold qX1_inState_at32 at K; exact zX1_inState_at32 _ _ _ _ _ _ _ _ K hs
noncomputable def gX1_inState_at42 (b0 : Nat) : Nat → Nat → Int32 → Int32 → Int32 → ea_H → Option (Int32 × ea_H)
  | 0, _, _, _, _, _ => none
  | f + 1, lbl, x1, x2, x3, h =>
    if lbl = 0 then (gX1_inState_at42 b0 f 4 (x1 : Int32) (0 : Int32) (0 : Int32) h) else
    if lbl = 4 then (if (ea_i h (b0 + 42) 0) ≤ x3 then (some (x2, h)) else (gd (vp_in x3 120) (if (ea_i h (b0 + 43) (Int32.toNatClampNeg x3)) = x1 then (gX1_inState_at42 b0 f 4 (x1 : Int32) ((x2 + (1 : Int32)) : Int32) ((x3 + (1 : Int32)) : Int32) h) else (gX1_inState_at42 b0 f 4 (x1 : Int32) (x2 : Int32) ((x3 + (1 : Int32)) : Int32) h)))) else none
theorem tX1_inState_at42 {d : Nat} {b0 : Nat} {h0 : ea_H} (hd : 1 ≤ d) : ∀ (f lbl : Nat) (x1 : Int32) (x2 : Int32) (x3 : Int32) (h : ea_H) (r : Int32) (h' : ea_H), gX1_inState_at42 b0 f lbl x1 x2 x3 h = some (r, h') → ShC b0 h → (lbl = 0 → ea_W mX1_inState d h0 (some (vI r)) h' 0 [(0, vR (some (b0 + 42))), (1, vI x1)] [] h) ∧ (lbl = 4 → ea_W mX1_inState d h0 (some (vI r)) h' 4 [(0, vR (some (b0 + 42))), (1, vI x1), (2, vI x2), (3, vI x3)] [] h) := by
  intro f
  induction f with
  | zero => intro lbl x1 x2 x3 h r h' E; cases E
  | succ f ih =>
    intro lbl x1 x2 x3 h r h' E hs
    unfold gX1_inState_at42 at E
    refine ⟨?_, ?_⟩
    · intro el
      subst el
      have E := (if_pos rfl).symm.trans E
      refine ea_iconst (pc := 0) dX1_inState_0 (v := 0) rfl ?_
      refine ea_istore_n (pc := 1) (lv' := [(0, vR (some (b0 + 42))), (1, vI x1), (2, vI 0)]) dX1_inState_1 rfl (Nat.le_of_ble_eq_true rfl) [1, 2, 0] rfl ?_
      refine ea_iconst (pc := 2) dX1_inState_2 (v := 0) rfl ?_
      refine ea_istore_n (pc := 3) (lv' := [(0, vR (some (b0 + 42))), (1, vI x1), (2, vI 0), (3, vI 0)]) dX1_inState_3 rfl (Nat.le_of_ble_eq_true rfl) [1, 2, 3, 0] rfl ?_
      exact ((ih 4 (x1 : Int32) (0 : Int32) (0 : Int32) h _ _ E hs).2 rfl)
    intro el
    subst el
    have E := (if_neg (by decide)).symm.trans E
    have E := (if_pos rfl).symm.trans E
    refine ea_iload_n (pc := 4) dX1_inState_4 rfl 3 rfl ?_
    refine ea_aload_n (pc := 5) dX1_inState_5 rfl 0 rfl ?_
    refine ea_getI (pc := 6) dX1_inState_6 ec_1 (k := 0) (Nat.le_of_ble_eq_true rfl) rfl (Or.inl ew_359) (hs.1 42 (by decide)).1 (hs.1 42 (by decide)).2.1 ?_
    refine ea_icmp_ge (pc := 9) (tgt := 31) dX1_inState_9 rfl (fun c3 => ?_) (fun c3 => ?_)
    · have E := (if_pos c3).symm.trans E
      refine ea_iload_n (pc := 31) dX1_inState_31 rfl 2 rfl ?_
      exact ea_iretO (pc := 32) dX1_inState_32 rfl rfl E
    · have E := (if_neg c3).symm.trans E
      refine ea_aload_n (pc := 12) dX1_inState_12 rfl 0 rfl ?_
      refine ea_getR (pc := 13) dX1_inState_13 ec_1 (k := 1) (Nat.le_of_ble_eq_true rfl) rfl (Or.inl ew_361) (hs.1 42 (by decide)).1 (hs.1 42 (by decide)).2.1 (hs.2 42 1 rfl) ?_
      refine ea_iload_n (pc := 16) dX1_inState_16 rfl 3 rfl ?_
      obtain ⟨z1, E⟩ := gd_some E
      refine ea_iald (pc := 17) dX1_inState_17 (hs.1 43 (by decide)).1 (hs.1 43 (by decide)).2.1 (ea_vpl (hs.1 43 (by decide)).2.2 z1) ?_
      refine ea_iload_n (pc := 18) dX1_inState_18 rfl 1 rfl ?_
      refine ea_icmp_ne (pc := 19) (tgt := 25) dX1_inState_19 rfl (fun c2 => ?_) (fun c2 => ?_)
      · have E := (if_neg c2).symm.trans E
        refine ea_iinc (pc := 25) (v := 1) (lv' := [(0, vR (some (b0 + 42))), (1, vI x1), (2, vI x2), (3, vI (x3 + (1 : Int32)))]) dX1_inState_25 3 rfl rfl (Nat.le_of_ble_eq_true rfl) [1, 2, 3, 0] rfl ?_
        refine ea_goto (pc := 28) (tgt := 4) dX1_inState_28 rfl ?_
        exact ((ih 4 (x1 : Int32) (x2 : Int32) ((x3 + (1 : Int32)) : Int32) h _ _ E hs).2 rfl)
      · have E := (if_pos c2).symm.trans E
        refine ea_iinc (pc := 22) (v := 1) (lv' := [(0, vR (some (b0 + 42))), (1, vI x1), (2, vI (x2 + (1 : Int32))), (3, vI x3)]) dX1_inState_22 2 rfl rfl (Nat.le_of_ble_eq_true rfl) [1, 2, 0, 3] rfl ?_
        refine ea_iinc (pc := 25) (v := 1) (lv' := [(0, vR (some (b0 + 42))), (1, vI x1), (2, vI (x2 + (1 : Int32))), (3, vI (x3 + (1 : Int32)))]) dX1_inState_25 3 rfl rfl (Nat.le_of_ble_eq_true rfl) [1, 2, 3, 0] rfl ?_
        refine ea_goto (pc := 28) (tgt := 4) dX1_inState_28 rfl ?_
        exact ((ih 4 (x1 : Int32) ((x2 + (1 : Int32)) : Int32) ((x3 + (1 : Int32)) : Int32) h _ _ E hs).2 rfl)
noncomputable def qX1_inState_at42 (b0 : Nat) (x1 : Int32) (h : ea_H) : Option (Int32 × ea_H) := gX1_inState_at42 b0 1000000000 0 x1 0 0 h
def okX1_inState_at42 (b0 : Nat) (x1 : Int32) (h : ea_H) : Prop := ∃ x, qX1_inState_at42 b0 x1 h = some x
noncomputable def vX1_inState_at42 (b0 : Nat) (x1 : Int32) (h : ea_H) : Int32 := ((qX1_inState_at42 b0 x1 h).getD (0, h)).1
noncomputable def wX1_inState_at42 (b0 : Nat) (x1 : Int32) (h : ea_H) : ea_H := ((qX1_inState_at42 b0 x1 h).getD (0, h)).2
theorem sX1_inState_at42 {d : Nat} {b0 : Nat} {x1 : Int32} {h : ea_H} (hd : 1 ≤ d) (hs : ShC b0 h) (K : okX1_inState_at42 b0 x1 h) : ea_Met mX1_inState d [vR (some (b0 + 42)), vI x1] h (some (vI (vX1_inState_at42 b0 x1 h))) (wX1_inState_at42 b0 x1 h) := by
  obtain ⟨⟨x, y⟩, K⟩ := K
  unfold wX1_inState_at42 vX1_inState_at42
  rw [K]
  unfold qX1_inState_at42 at K
  exact ea_enter rfl (Nat.le_of_ble_eq_true rfl) ((tX1_inState_at42 hd 1000000000 0 x1 0 0 h x y K hs).1 rfl)
theorem zX1_inState_at42 {b0 : Nat} : ∀ (f lbl : Nat) (x1 : Int32) (x2 : Int32) (x3 : Int32) (h : ea_H) (r : Int32) (h' : ea_H), gX1_inState_at42 b0 f lbl x1 x2 x3 h = some (r, h') → ShC b0 h → ShC b0 h' := by
  intro f
  induction f with
  | zero => intro lbl x1 x2 x3 h r h' E; cases E
  | succ f ih =>
    intro lbl x1 x2 x3 h r h' E hs
    unfold gX1_inState_at42 at E
    by_cases el0 : lbl = 0
    · have E := (if_pos el0).symm.trans E
      exact ih 4 (x1 : Int32) (0 : Int32) (0 : Int32) h _ _ E hs
    have E := (if_neg el0).symm.trans E
    by_cases el1 : lbl = 4
    · have E := (if_pos el1).symm.trans E
      by_cases c3 : (ea_i h (b0 + 42) 0) ≤ x3
      · have E := (if_pos c3).symm.trans E
        exact ea_shO E hs
      have E := (if_neg c3).symm.trans E
      obtain ⟨z1, E⟩ := gd_some E
      by_cases c2 : (ea_i h (b0 + 43) (Int32.toNatClampNeg x3)) = x1
      · have E := (if_pos c2).symm.trans E
        exact ih 4 (x1 : Int32) ((x2 + (1 : Int32)) : Int32) ((x3 + (1 : Int32)) : Int32) h _ _ E hs
      have E := (if_neg c2).symm.trans E
      exact ih 4 (x1 : Int32) (x2 : Int32) ((x3 + (1 : Int32)) : Int32) h _ _ E hs
    have E := (if_neg el1).symm.trans E
    cases E
theorem shX1_inState_at42 {b0 : Nat} {x1 : Int32} {h : ea_H} (hs : ShC b0 h) : ShC b0 (wX1_inState_at42 b0 x1 h) := by
  unfold wX1_inState_at42
  cases K : qX1_inState_at42 b0 x1 h with
  | none => exact hs
  | some x => obtain ⟨x, y⟩ := x; unfold qX1_inState_at42 at K; exact zX1_inState_at42 _ _ _ _ _ _ _ _ K hs
noncomputable def gX1_aboardOf_at32 (b0 : Nat) : Nat → Nat → Int32 → Int32 → Int32 → Int32 → ea_H → Option (Int32 × ea_H)
  | 0, _, _, _, _, _, _ => none
  | f + 1, lbl, x1, x2, x3, x4, h =>
    if lbl = 0 then (gX1_aboardOf_at32 b0 f 5 (x1 : Int32) (x2 : Int32) (0 : Int32) (0 : Int32) h) else
    if lbl = 5 then (if (ea_i h (b0 + 32) 0) ≤ x4 then (some (x3, h)) else (gd ((okX1_isAboard_at32 b0 (x4 : Int32) (x1 : Int32) h)) (if (vX1_isAboard_at32 b0 (x4 : Int32) (x1 : Int32) h) = (0 : Int32) then (gX1_aboardOf_at32 b0 f 5 (x1 : Int32) (x2 : Int32) (x3 : Int32) ((x4 + (1 : Int32)) : Int32) h) else (gd (vp_in x4 120) (if (ea_i h (b0 + 37) (Int32.toNatClampNeg x4)) = x2 then (gX1_aboardOf_at32 b0 f 5 (x1 : Int32) (x2 : Int32) ((x3 + (1 : Int32)) : Int32) ((x4 + (1 : Int32)) : Int32) h) else (gX1_aboardOf_at32 b0 f 5 (x1 : Int32) (x2 : Int32) (x3 : Int32) ((x4 + (1 : Int32)) : Int32) h)))))) else none
theorem tX1_aboardOf_at32 {d : Nat} {b0 : Nat} {h0 : ea_H} (hd : 2 ≤ d) : ∀ (f lbl : Nat) (x1 : Int32) (x2 : Int32) (x3 : Int32) (x4 : Int32) (h : ea_H) (r : Int32) (h' : ea_H), gX1_aboardOf_at32 b0 f lbl x1 x2 x3 x4 h = some (r, h') → ShC b0 h → (lbl = 0 → ea_W mX1_aboardOf d h0 (some (vI r)) h' 0 [(0, vR (some (b0 + 32))), (1, vI x1), (2, vI x2)] [] h) ∧ (lbl = 5 → ea_W mX1_aboardOf d h0 (some (vI r)) h' 5 [(0, vR (some (b0 + 32))), (1, vI x1), (2, vI x2), (3, vI x3), (4, vI x4)] [] h) := by
  intro f
  induction f with
  | zero => intro lbl x1 x2 x3 x4 h r h' E; cases E
  | succ f ih =>
    intro lbl x1 x2 x3 x4 h r h' E hs
    unfold gX1_aboardOf_at32 at E
    refine ⟨?_, ?_⟩
    · intro el
      subst el
      have E := (if_pos rfl).symm.trans E
      refine ea_iconst (pc := 0) dX1_aboardOf_0 (v := 0) rfl ?_
      refine ea_istore_n (pc := 1) (lv' := [(0, vR (some (b0 + 32))), (1, vI x1), (2, vI x2), (3, vI 0)]) dX1_aboardOf_1 rfl (Nat.le_of_ble_eq_true rfl) [1, 2, 3, 0] rfl ?_
      refine ea_iconst (pc := 2) dX1_aboardOf_2 (v := 0) rfl ?_
      refine ea_istore (pc := 3) (lv' := [(0, vR (some (b0 + 32))), (1, vI x1), (2, vI x2), (3, vI 0), (4, vI 0)]) dX1_aboardOf_3 (Nat.le_of_ble_eq_true rfl) [1, 2, 3, 4, 0] rfl ?_
      exact ((ih 5 (x1 : Int32) (x2 : Int32) (0 : Int32) (0 : Int32) h _ _ E hs).2 rfl)
    intro el
    subst el
    have E := (if_neg (by decide)).symm.trans E
    have E := (if_pos rfl).symm.trans E
    refine ea_iload (pc := 5) dX1_aboardOf_5 4 rfl ?_
    refine ea_aload_n (pc := 7) dX1_aboardOf_7 rfl 0 rfl ?_
    refine ea_getI (pc := 8) dX1_aboardOf_8 ec_1 (k := 0) (Nat.le_of_ble_eq_true rfl) rfl (Or.inl ew_359) (hs.1 32 (by decide)).1 (hs.1 32 (by decide)).2.1 ?_
    refine ea_icmp_ge (pc := 11) (tgt := 44) dX1_aboardOf_11 rfl (fun c5 => ?_) (fun c5 => ?_)
    · have E := (if_pos c5).symm.trans E
      refine ea_iload_n (pc := 44) dX1_aboardOf_44 rfl 3 rfl ?_
      exact ea_iretO (pc := 45) dX1_aboardOf_45 rfl rfl E
    · have E := (if_neg c5).symm.trans E
      refine ea_aload_n (pc := 14) dX1_aboardOf_14 rfl 0 rfl ?_
      refine ea_iload (pc := 15) dX1_aboardOf_15 4 rfl ?_
      refine ea_iload_n (pc := 17) dX1_aboardOf_17 rfl 1 rfl ?_
      obtain ⟨z1, E⟩ := gd_some E
      refine ea_callV (pc := 18) (d' := d - 1) (As := [vI x4, vI x1]) (st := []) dX1_aboardOf_18 kX1_isAboard (sX1_isAboard_at32 (d := d - 1) (by omega) hs z1) (by omega) rfl (Nat.le_of_ble_eq_true rfl) ew_704 ew_705 ew_706 (ci := 1) rfl (by decide) (hs.1 32 (by decide)).1 (hs.1 32 (by decide)).2.1 ?_
      refine ea_if_eq (pc := 21) (tgt := 38) dX1_aboardOf_21 rfl (fun c4 => ?_) (fun c4 => ?_)
      · have E := (if_pos c4).symm.trans E
        refine ea_iinc (pc := 38) (v := 1) (lv' := [(0, vR (some (b0 + 32))), (1, vI x1), (2, vI x2), (3, vI x3), (4, vI (x4 + (1 : Int32)))]) dX1_aboardOf_38 4 rfl rfl (Nat.le_of_ble_eq_true rfl) [1, 2, 3, 4, 0] rfl ?_
        refine ea_goto (pc := 41) (tgt := 5) dX1_aboardOf_41 rfl ?_
        exact ((ih 5 (x1 : Int32) (x2 : Int32) (x3 : Int32) ((x4 + (1 : Int32)) : Int32) h _ _ E hs).2 rfl)
      · have E := (if_neg c4).symm.trans E
        refine ea_aload_n (pc := 24) dX1_aboardOf_24 rfl 0 rfl ?_
        refine ea_getR (pc := 25) dX1_aboardOf_25 ec_1 (k := 5) (Nat.le_of_ble_eq_true rfl) rfl (Or.inl ew_369) (hs.1 32 (by decide)).1 (hs.1 32 (by decide)).2.1 (hs.2 32 5 rfl) ?_
        refine ea_iload (pc := 28) dX1_aboardOf_28 4 rfl ?_
        obtain ⟨z2, E⟩ := gd_some E
        refine ea_zald (pc := 30) dX1_aboardOf_30 (hs.1 37 (by decide)).1 (hs.1 37 (by decide)).2.1 (ea_vpl (hs.1 37 (by decide)).2.2 z2) ?_
        refine ea_iload_n (pc := 31) dX1_aboardOf_31 rfl 2 rfl ?_
        refine ea_icmp_ne (pc := 32) (tgt := 38) dX1_aboardOf_32 rfl (fun c3 => ?_) (fun c3 => ?_)
        · have E := (if_neg c3).symm.trans E
          refine ea_iinc (pc := 38) (v := 1) (lv' := [(0, vR (some (b0 + 32))), (1, vI x1), (2, vI x2), (3, vI x3), (4, vI (x4 + (1 : Int32)))]) dX1_aboardOf_38 4 rfl rfl (Nat.le_of_ble_eq_true rfl) [1, 2, 3, 4, 0] rfl ?_
          refine ea_goto (pc := 41) (tgt := 5) dX1_aboardOf_41 rfl ?_
          exact ((ih 5 (x1 : Int32) (x2 : Int32) (x3 : Int32) ((x4 + (1 : Int32)) : Int32) h _ _ E hs).2 rfl)
        · have E := (if_pos c3).symm.trans E
          refine ea_iinc (pc := 35) (v := 1) (lv' := [(0, vR (some (b0 + 32))), (1, vI x1), (2, vI x2), (3, vI (x3 + (1 : Int32))), (4, vI x4)]) dX1_aboardOf_35 3 rfl rfl (Nat.le_of_ble_eq_true rfl) [1, 2, 3, 0, 4] rfl ?_
          refine ea_iinc (pc := 38) (v := 1) (lv' := [(0, vR (some (b0 + 32))), (1, vI x1), (2, vI x2), (3, vI (x3 + (1 : Int32))), (4, vI (x4 + (1 : Int32)))]) dX1_aboardOf_38 4 rfl rfl (Nat.le_of_ble_eq_true rfl) [1, 2, 3, 4, 0] rfl ?_
          refine ea_goto (pc := 41) (tgt := 5) dX1_aboardOf_41 rfl ?_
          exact ((ih 5 (x1 : Int32) (x2 : Int32) ((x3 + (1 : Int32)) : Int32) ((x4 + (1 : Int32)) : Int32) h _ _ E hs).2 rfl)
noncomputable def qX1_aboardOf_at32 (b0 : Nat) (x1 : Int32) (x2 : Int32) (h : ea_H) : Option (Int32 × ea_H) := gX1_aboardOf_at32 b0 1000000000 0 x1 x2 0 0 h
def okX1_aboardOf_at32 (b0 : Nat) (x1 : Int32) (x2 : Int32) (h : ea_H) : Prop := ∃ x, qX1_aboardOf_at32 b0 x1 x2 h = some x
noncomputable def vX1_aboardOf_at32 (b0 : Nat) (x1 : Int32) (x2 : Int32) (h : ea_H) : Int32 := ((qX1_aboardOf_at32 b0 x1 x2 h).getD (0, h)).1
noncomputable def wX1_aboardOf_at32 (b0 : Nat) (x1 : Int32) (x2 : Int32) (h : ea_H) : ea_H := ((qX1_aboardOf_at32 b0 x1 x2 h).getD (0, h)).2
theorem sX1_aboardOf_at32 {d : Nat} {b0 : Nat} {x1 : Int32} {x2 : Int32} {h : ea_H} (hd : 2 ≤ d) (hs : ShC b0 h) (K : okX1_aboardOf_at32 b0 x1 x2 h) : ea_Met mX1_aboardOf d [vR (some (b0 + 32)), vI x1, vI x2] h (some (vI (vX1_aboardOf_at32 b0 x1 x2 h))) (wX1_aboardOf_at32 b0 x1 x2 h) := by
  obtain ⟨⟨x, y⟩, K⟩ := K
  unfold wX1_aboardOf_at32 vX1_aboardOf_at32
  rw [K]
  unfold qX1_aboardOf_at32 at K
  exact ea_enter rfl (Nat.le_of_ble_eq_true rfl) ((tX1_aboardOf_at32 hd 1000000000 0 x1 x2 0 0 h x y K hs).1 rfl)
theorem zX1_aboardOf_at32 {b0 : Nat} : ∀ (f lbl : Nat) (x1 : Int32) (x2 : Int32) (x3 : Int32) (x4 : Int32) (h : ea_H) (r : Int32) (h' : ea_H), gX1_aboardOf_at32 b0 f lbl x1 x2 x3 x4 h = some (r, h') → ShC b0 h → ShC b0 h' := by
  intro f
  induction f with
  | zero => intro lbl x1 x2 x3 x4 h r h' E; cases E
  | succ f ih =>
    intro lbl x1 x2 x3 x4 h r h' E hs
    unfold gX1_aboardOf_at32 at E
    by_cases el0 : lbl = 0
    · have E := (if_pos el0).symm.trans E
      exact ih 5 (x1 : Int32) (x2 : Int32) (0 : Int32) (0 : Int32) h _ _ E hs
    have E := (if_neg el0).symm.trans E
    by_cases el1 : lbl = 5
    · have E := (if_pos el1).symm.trans E
      by_cases c5 : (ea_i h (b0 + 32) 0) ≤ x4
      · have E := (if_pos c5).symm.trans E
        exact ea_shO E hs
      have E := (if_neg c5).symm.trans E
      obtain ⟨z1, E⟩ := gd_some E
      by_cases c4 : (vX1_isAboard_at32 b0 (x4 : Int32) (x1 : Int32) h) = (0 : Int32)
      · have E := (if_pos c4).symm.trans E
        exact ih 5 (x1 : Int32) (x2 : Int32) (x3 : Int32) ((x4 + (1 : Int32)) : Int32) h _ _ E hs
      have E := (if_neg c4).symm.trans E
      obtain ⟨z2, E⟩ := gd_some E
      by_cases c3 : (ea_i h (b0 + 37) (Int32.toNatClampNeg x4)) = x2
      · have E := (if_pos c3).symm.trans E
        exact ih 5 (x1 : Int32) (x2 : Int32) ((x3 + (1 : Int32)) : Int32) ((x4 + (1 : Int32)) : Int32) h _ _ E hs
      have E := (if_neg c3).symm.trans E
      exact ih 5 (x1 : Int32) (x2 : Int32) (x3 : Int32) ((x4 + (1 : Int32)) : Int32) h _ _ E hs
    have E := (if_neg el1).symm.trans E
    cases E
theorem shX1_aboardOf_at32 {b0 : Nat} {x1 : Int32} {x2 : Int32} {h : ea_H} (hs : ShC b0 h) : ShC b0 (wX1_aboardOf_at32 b0 x1 x2 h) := by
  unfold wX1_aboardOf_at32
  cases K : qX1_aboardOf_at32 b0 x1 x2 h with
  | none => exact hs
  | some x => obtain ⟨x, y⟩ := x; unfold qX1_aboardOf_at32 at K; exact zX1_aboardOf_at32 _ _ _ _ _ _ _ _ _ K hs
noncomputable def gX1_aboardOf_at42 (b0 : Nat) : Nat → Nat → Int32 → Int32 → Int32 → Int32 → ea_H → Option (Int32 × ea_H)
  | 0, _, _, _, _, _, _ => none
  | f + 1, lbl, x1, x2, x3, x4, h =>
    if lbl = 0 then (gX1_aboardOf_at42 b0 f 5 (x1 : Int32) (x2 : Int32) (0 : Int32) (0 : Int32) h) else
    if lbl = 5 then (if (ea_i h (b0 + 42) 0) ≤ x4 then (some (x3, h)) else (gd ((okX1_isAboard_at42 b0 (x4 : Int32) (x1 : Int32) h)) (if (vX1_isAboard_at42 b0 (x4 : Int32) (x1 : Int32) h) = (0 : Int32) then (gX1_aboardOf_at42 b0 f 5 (x1 : Int32) (x2 : Int32) (x3 : Int32) ((x4 + (1 : Int32)) : Int32) h) else (gd (vp_in x4 120) (if (ea_i h (b0 + 47) (Int32.toNatClampNeg x4)) = x2 then (gX1_aboardOf_at42 b0 f 5 (x1 : Int32) (x2 : Int32) ((x3 + (1 : Int32)) : Int32) ((x4 + (1 : Int32)) : Int32) h) else (gX1_aboardOf_at42 b0 f 5 (x1 : Int32) (x2 : Int32) (x3 : Int32) ((x4 + (1 : Int32)) : Int32) h)))))) else none
theorem tX1_aboardOf_at42 {d : Nat} {b0 : Nat} {h0 : ea_H} (hd : 2 ≤ d) : ∀ (f lbl : Nat) (x1 : Int32) (x2 : Int32) (x3 : Int32) (x4 : Int32) (h : ea_H) (r : Int32) (h' : ea_H), gX1_aboardOf_at42 b0 f lbl x1 x2 x3 x4 h = some (r, h') → ShC b0 h → (lbl = 0 → ea_W mX1_aboardOf d h0 (some (vI r)) h' 0 [(0, vR (some (b0 + 42))), (1, vI x1), (2, vI x2)] [] h) ∧ (lbl = 5 → ea_W mX1_aboardOf d h0 (some (vI r)) h' 5 [(0, vR (some (b0 + 42))), (1, vI x1), (2, vI x2), (3, vI x3), (4, vI x4)] [] h) := by
  intro f
  induction f with
  | zero => intro lbl x1 x2 x3 x4 h r h' E; cases E
  | succ f ih =>
    intro lbl x1 x2 x3 x4 h r h' E hs
    unfold gX1_aboardOf_at42 at E
    refine ⟨?_, ?_⟩
    · intro el
      subst el
      have E := (if_pos rfl).symm.trans E
      refine ea_iconst (pc := 0) dX1_aboardOf_0 (v := 0) rfl ?_
      refine ea_istore_n (pc := 1) (lv' := [(0, vR (some (b0 + 42))), (1, vI x1), (2, vI x2), (3, vI 0)]) dX1_aboardOf_1 rfl (Nat.le_of_ble_eq_true rfl) [1, 2, 3, 0] rfl ?_
      refine ea_iconst (pc := 2) dX1_aboardOf_2 (v := 0) rfl ?_
      refine ea_istore (pc := 3) (lv' := [(0, vR (some (b0 + 42))), (1, vI x1), (2, vI x2), (3, vI 0), (4, vI 0)]) dX1_aboardOf_3 (Nat.le_of_ble_eq_true rfl) [1, 2, 3, 4, 0] rfl ?_
      exact ((ih 5 (x1 : Int32) (x2 : Int32) (0 : Int32) (0 : Int32) h _ _ E hs).2 rfl)
    intro el
    subst el
    have E := (if_neg (by decide)).symm.trans E
    have E := (if_pos rfl).symm.trans E
    refine ea_iload (pc := 5) dX1_aboardOf_5 4 rfl ?_
    refine ea_aload_n (pc := 7) dX1_aboardOf_7 rfl 0 rfl ?_
    refine ea_getI (pc := 8) dX1_aboardOf_8 ec_1 (k := 0) (Nat.le_of_ble_eq_true rfl) rfl (Or.inl ew_359) (hs.1 42 (by decide)).1 (hs.1 42 (by decide)).2.1 ?_
    refine ea_icmp_ge (pc := 11) (tgt := 44) dX1_aboardOf_11 rfl (fun c5 => ?_) (fun c5 => ?_)
    · have E := (if_pos c5).symm.trans E
      refine ea_iload_n (pc := 44) dX1_aboardOf_44 rfl 3 rfl ?_
      exact ea_iretO (pc := 45) dX1_aboardOf_45 rfl rfl E
    · have E := (if_neg c5).symm.trans E
      refine ea_aload_n (pc := 14) dX1_aboardOf_14 rfl 0 rfl ?_
      refine ea_iload (pc := 15) dX1_aboardOf_15 4 rfl ?_
      refine ea_iload_n (pc := 17) dX1_aboardOf_17 rfl 1 rfl ?_
      obtain ⟨z1, E⟩ := gd_some E
      refine ea_callV (pc := 18) (d' := d - 1) (As := [vI x4, vI x1]) (st := []) dX1_aboardOf_18 kX1_isAboard (sX1_isAboard_at42 (d := d - 1) (by omega) hs z1) (by omega) rfl (Nat.le_of_ble_eq_true rfl) ew_704 ew_705 ew_706 (ci := 1) rfl (by decide) (hs.1 42 (by decide)).1 (hs.1 42 (by decide)).2.1 ?_
      refine ea_if_eq (pc := 21) (tgt := 38) dX1_aboardOf_21 rfl (fun c4 => ?_) (fun c4 => ?_)
      · have E := (if_pos c4).symm.trans E
        refine ea_iinc (pc := 38) (v := 1) (lv' := [(0, vR (some (b0 + 42))), (1, vI x1), (2, vI x2), (3, vI x3), (4, vI (x4 + (1 : Int32)))]) dX1_aboardOf_38 4 rfl rfl (Nat.le_of_ble_eq_true rfl) [1, 2, 3, 4, 0] rfl ?_
        refine ea_goto (pc := 41) (tgt := 5) dX1_aboardOf_41 rfl ?_
        exact ((ih 5 (x1 : Int32) (x2 : Int32) (x3 : Int32) ((x4 + (1 : Int32)) : Int32) h _ _ E hs).2 rfl)
      · have E := (if_neg c4).symm.trans E
        refine ea_aload_n (pc := 24) dX1_aboardOf_24 rfl 0 rfl ?_
        refine ea_getR (pc := 25) dX1_aboardOf_25 ec_1 (k := 5) (Nat.le_of_ble_eq_true rfl) rfl (Or.inl ew_369) (hs.1 42 (by decide)).1 (hs.1 42 (by decide)).2.1 (hs.2 42 5 rfl) ?_
        refine ea_iload (pc := 28) dX1_aboardOf_28 4 rfl ?_
        obtain ⟨z2, E⟩ := gd_some E
        refine ea_zald (pc := 30) dX1_aboardOf_30 (hs.1 47 (by decide)).1 (hs.1 47 (by decide)).2.1 (ea_vpl (hs.1 47 (by decide)).2.2 z2) ?_
        refine ea_iload_n (pc := 31) dX1_aboardOf_31 rfl 2 rfl ?_
        refine ea_icmp_ne (pc := 32) (tgt := 38) dX1_aboardOf_32 rfl (fun c3 => ?_) (fun c3 => ?_)
        · have E := (if_neg c3).symm.trans E
          refine ea_iinc (pc := 38) (v := 1) (lv' := [(0, vR (some (b0 + 42))), (1, vI x1), (2, vI x2), (3, vI x3), (4, vI (x4 + (1 : Int32)))]) dX1_aboardOf_38 4 rfl rfl (Nat.le_of_ble_eq_true rfl) [1, 2, 3, 4, 0] rfl ?_
          refine ea_goto (pc := 41) (tgt := 5) dX1_aboardOf_41 rfl ?_
          exact ((ih 5 (x1 : Int32) (x2 : Int32) (x3 : Int32) ((x4 + (1 : Int32)) : Int32) h _ _ E hs).2 rfl)
        · have E := (if_pos c3).symm.trans E
          refine ea_iinc (pc := 35) (v := 1) (lv' := [(0, vR (some (b0 + 42))), (1, vI x1), (2, vI x2), (3, vI (x3 + (1 : Int32))), (4, vI x4)]) dX1_aboardOf_35 3 rfl rfl (Nat.le_of_ble_eq_true rfl) [1, 2, 3, 0, 4] rfl ?_
          refine ea_iinc (pc := 38) (v := 1) (lv' := [(0, vR (some (b0 + 42))), (1, vI x1), (2, vI x2), (3, vI (x3 + (1 : Int32))), (4, vI (x4 + (1 : Int32)))]) dX1_aboardOf_38 4 rfl rfl (Nat.le_of_ble_eq_true rfl) [1, 2, 3, 4, 0] rfl ?_
          refine ea_goto (pc := 41) (tgt := 5) dX1_aboardOf_41 rfl ?_
          exact ((ih 5 (x1 : Int32) (x2 : Int32) ((x3 + (1 : Int32)) : Int32) ((x4 + (1 : Int32)) : Int32) h _ _ E hs).2 rfl)
noncomputable def qX1_aboardOf_at42 (b0 : Nat) (x1 : Int32) (x2 : Int32) (h : ea_H) : Option (Int32 × ea_H) := gX1_aboardOf_at42 b0 1000000000 0 x1 x2 0 0 h
def okX1_aboardOf_at42 (b0 : Nat) (x1 : Int32) (x2 : Int32) (h : ea_H) : Prop := ∃ x, qX1_aboardOf_at42 b0 x1 x2 h = some x
noncomputable def vX1_aboardOf_at42 (b0 : Nat) (x1 : Int32) (x2 : Int32) (h : ea_H) : Int32 := ((qX1_aboardOf_at42 b0 x1 x2 h).getD (0, h)).1
noncomputable def wX1_aboardOf_at42 (b0 : Nat) (x1 : Int32) (x2 : Int32) (h : ea_H) : ea_H := ((qX1_aboardOf_at42 b0 x1 x2 h).getD (0, h)).2
theorem sX1_aboardOf_at42 {d : Nat} {b0 : Nat} {x1 : Int32} {x2 : Int32} {h : ea_H} (hd : 2 ≤ d) (hs : ShC b0 h) (K : okX1_aboardOf_at42 b0 x1 x2 h) : ea_Met mX1_aboardOf d [vR (some (b0 + 42)), vI x1, vI x2] h (some (vI (vX1_aboardOf_at42 b0 x1 x2 h))) (wX1_aboardOf_at42 b0 x1 x2 h) := by
  obtain ⟨⟨x, y⟩, K⟩ := K
  unfold wX1_aboardOf_at42 vX1_aboardOf_at42
  rw [K]
  unfold qX1_aboardOf_at42 at K
  exact ea_enter rfl (Nat.le_of_ble_eq_true rfl) ((tX1_aboardOf_at42 hd 1000000000 0 x1 x2 0 0 h x y K hs).1 rfl)
theorem zX1_aboardOf_at42 {b0 : Nat} : ∀ (f lbl : Nat) (x1 : Int32) (x2 : Int32) (x3 : Int32) (x4 : Int32) (h : ea_H) (r : Int32) (h' : ea_H), gX1_aboardOf_at42 b0 f lbl x1 x2 x3 x4 h = some (r, h') → ShC b0 h → ShC b0 h' := by
  intro f
  induction f with
  | zero => intro lbl x1 x2 x3 x4 h r h' E; cases E
  | succ f ih =>
    intro lbl x1 x2 x3 x4 h r h' E hs
    unfold gX1_aboardOf_at42 at E
    by_cases el0 : lbl = 0
    · have E := (if_pos el0).symm.trans E
      exact ih 5 (x1 : Int32) (x2 : Int32) (0 : Int32) (0 : Int32) h _ _ E hs
    have E := (if_neg el0).symm.trans E
    by_cases el1 : lbl = 5
    · have E := (if_pos el1).symm.trans E
      by_cases c5 : (ea_i h (b0 + 42) 0) ≤ x4
      · have E := (if_pos c5).symm.trans E
        exact ea_shO E hs
      have E := (if_neg c5).symm.trans E
      obtain ⟨z1, E⟩ := gd_some E
      by_cases c4 : (vX1_isAboard_at42 b0 (x4 : Int32) (x1 : Int32) h) = (0 : Int32)
      · have E := (if_pos c4).symm.trans E
        exact ih 5 (x1 : Int32) (x2 : Int32) (x3 : Int32) ((x4 + (1 : Int32)) : Int32) h _ _ E hs
      have E := (if_neg c4).symm.trans E
      obtain ⟨z2, E⟩ := gd_some E
      by_cases c3 : (ea_i h (b0 + 47) (Int32.toNatClampNeg x4)) = x2
      · have E := (if_pos c3).symm.trans E
        exact ih 5 (x1 : Int32) (x2 : Int32) ((x3 + (1 : Int32)) : Int32) ((x4 + (1 : Int32)) : Int32) h _ _ E hs
      have E := (if_neg c3).symm.trans E
      exact ih 5 (x1 : Int32) (x2 : Int32) (x3 : Int32) ((x4 + (1 : Int32)) : Int32) h _ _ E hs
    have E := (if_neg el1).symm.trans E
    cases E
theorem shX1_aboardOf_at42 {b0 : Nat} {x1 : Int32} {x2 : Int32} {h : ea_H} (hs : ShC b0 h) : ShC b0 (wX1_aboardOf_at42 b0 x1 x2 h) := by
  unfold wX1_aboardOf_at42
  cases K : qX1_aboardOf_at42 b0 x1 x2 h with
  | none => exact hs
  | some x => obtain ⟨x, y⟩ := x; unfold qX1_aboardOf_at42 at K; exact zX1_aboardOf_at42 _ _ _ _ _ _ _ _ _ K hs
noncomputable def gX1_copy_at32 (b0 : Nat) : Nat → Nat → Option Nat → ea_H → Option (Unit × ea_H)
  | 0, _, _, _ => none
  | f + 1, lbl, r1, h =>
    (gd (r1 = some (Option.getD r1 0)) (gd (((Option.getD r1 0) < ea_n h ∧ ea_c h (Option.getD r1 0) = 1)) (ea_let (ea_wi h (b0 + 32) 0 (ea_i h (Option.getD r1 0) 0)) fun H4 => (gd (r1 = some (Option.getD r1 0)) (gd (((Option.getD r1 0) < ea_n H4 ∧ ea_c H4 (Option.getD r1 0) = 1)) (ea_let (ea_wi H4 (b0 + 32) 10 (ea_i H4 (Option.getD r1 0) 10)) fun H8 => (gd (r1 = some (Option.getD r1 0)) (gd (((Option.getD r1 0) < ea_n H8 ∧ ea_c H8 (Option.getD r1 0) = 1)) (gd ((ea_r H8 (Option.getD r1 0) 1) = some (Option.getD (ea_r H8 (Option.getD r1 0) 1) 0)) (gd (((Option.getD (ea_r H8 (Option.getD r1 0) 1) 0) < ea_n H8 ∧ ea_c H8 (Option.getD (ea_r H8 (Option.getD r1 0) 1) 0) = 20)) (gd ((¬ (0 : Int32) < 0)) (gd ((¬ (0 : Int32) < 0)) (gd ((¬ (120 : Int32) < 0)) (gd (((Int32.toNatClampNeg 0) + (Int32.toNatClampNeg 120) ≤ ea_l H8 (Option.getD (ea_r H8 (Option.getD r1 0) 1) 0))) (gd (((Int32.toNatClampNeg 0) + (Int32.toNatClampNeg 120) ≤ ea_l H8 (b0 + 33))) (ea_let (ea_wa H8 (b0 + 33) (va_cpy (ea_i H8 (Option.getD (ea_r H8 (Option.getD r1 0) 1) 0)) (ea_i H8 (b0 + 33)) (Int32.toNatClampNeg 0) (Int32.toNatClampNeg 0) (Int32.toNatClampNeg 120))) fun H20 => (gd (r1 = some (Option.getD r1 0)) (gd (((Option.getD r1 0) < ea_n H20 ∧ ea_c H20 (Option.getD r1 0) = 1)) (gd ((ea_r H20 (Option.getD r1 0) 2) = some (Option.getD (ea_r H20 (Option.getD r1 0) 2) 0)) (gd (((Option.getD (ea_r H20 (Option.getD r1 0) 2) 0) < ea_n H20 ∧ ea_c H20 (Option.getD (ea_r H20 (Option.getD r1 0) 2) 0) = 20)) (gd ((¬ (0 : Int32) < 0)) (gd ((¬ (0 : Int32) < 0)) (gd ((¬ (120 : Int32) < 0)) (gd (((Int32.toNatClampNeg 0) + (Int32.toNatClampNeg 120) ≤ ea_l H20 (Option.getD (ea_r H20 (Option.getD r1 0) 2) 0))) (gd (((Int32.toNatClampNeg 0) + (Int32.toNatClampNeg 120) ≤ ea_l H20 (b0 + 34))) (ea_let (ea_wa H20 (b0 + 34) (va_cpy (ea_i H20 (Option.getD (ea_r H20 (Option.getD r1 0) 2) 0)) (ea_i H20 (b0 + 34)) (Int32.toNatClampNeg 0) (Int32.toNatClampNeg 0) (Int32.toNatClampNeg 120))) fun H32 => (gd (r1 = some (Option.getD r1 0)) (gd (((Option.getD r1 0) < ea_n H32 ∧ ea_c H32 (Option.getD r1 0) = 1)) (gd ((ea_r H32 (Option.getD r1 0) 3) = some (Option.getD (ea_r H32 (Option.getD r1 0) 3) 0)) (gd (((Option.getD (ea_r H32 (Option.getD r1 0) 3) 0) < ea_n H32 ∧ ea_c H32 (Option.getD (ea_r H32 (Option.getD r1 0) 3) 0) = 20)) (gd ((¬ (0 : Int32) < 0)) (gd ((¬ (0 : Int32) < 0)) (gd ((¬ (120 : Int32) < 0)) (gd (((Int32.toNatClampNeg 0) + (Int32.toNatClampNeg 120) ≤ ea_l H32 (Option.getD (ea_r H32 (Option.getD r1 0) 3) 0))) (gd (((Int32.toNatClampNeg 0) + (Int32.toNatClampNeg 120) ≤ ea_l H32 (b0 + 35))) (ea_let (ea_wa H32 (b0 + 35) (va_cpy (ea_i H32 (Option.getD (ea_r H32 (Option.getD r1 0) 3) 0)) (ea_i H32 (b0 + 35)) (Int32.toNatClampNeg 0) (Int32.toNatClampNeg 0) (Int32.toNatClampNeg 120))) fun H44 => (gd (r1 = some (Option.getD r1 0)) (gd (((Option.getD r1 0) < ea_n H44 ∧ ea_c H44 (Option.getD r1 0) = 1)) (gd ((ea_r H44 (Option.getD r1 0) 4) = some (Option.getD (ea_r H44 (Option.getD r1 0) 4) 0)) (gd (((Option.getD (ea_r H44 (Option.getD r1 0) 4) 0) < ea_n H44 ∧ ea_c H44 (Option.getD (ea_r H44 (Option.getD r1 0) 4) 0) = 20)) (gd ((¬ (0 : Int32) < 0)) (gd ((¬ (0 : Int32) < 0)) (gd ((¬ (120 : Int32) < 0)) (gd (((Int32.toNatClampNeg 0) + (Int32.toNatClampNeg 120) ≤ ea_l H44 (Option.getD (ea_r H44 (Option.getD r1 0) 4) 0))) (gd (((Int32.toNatClampNeg 0) + (Int32.toNatClampNeg 120) ≤ ea_l H44 (b0 + 36))) (ea_let (ea_wa H44 (b0 + 36) (va_cpy (ea_i H44 (Option.getD (ea_r H44 (Option.getD r1 0) 4) 0)) (ea_i H44 (b0 + 36)) (Int32.toNatClampNeg 0) (Int32.toNatClampNeg 0) (Int32.toNatClampNeg 120))) fun H56 => (gd (r1 = some (Option.getD r1 0)) (gd (((Option.getD r1 0) < ea_n H56 ∧ ea_c H56 (Option.getD r1 0) = 1)) (gd ((ea_r H56 (Option.getD r1 0) 7) = some (Option.getD (ea_r H56 (Option.getD r1 0) 7) 0)) (gd (((Option.getD (ea_r H56 (Option.getD r1 0) 7) 0) < ea_n H56 ∧ ea_c H56 (Option.getD (ea_r H56 (Option.getD r1 0) 7) 0) = 20)) (gd ((¬ (0 : Int32) < 0)) (gd ((¬ (0 : Int32) < 0)) (gd ((¬ (120 : Int32) < 0)) (gd (((Int32.toNatClampNeg 0) + (Int32.toNatClampNeg 120) ≤ ea_l H56 (Option.getD (ea_r H56 (Option.getD r1 0) 7) 0))) (gd (((Int32.toNatClampNeg 0) + (Int32.toNatClampNeg 120) ≤ ea_l H56 (b0 + 39))) (ea_let (ea_wa H56 (b0 + 39) (va_cpy (ea_i H56 (Option.getD (ea_r H56 (Option.getD r1 0) 7) 0)) (ea_i H56 (b0 + 39)) (Int32.toNatClampNeg 0) (Int32.toNatClampNeg 0) (Int32.toNatClampNeg 120))) fun H68 => (gd (r1 = some (Option.getD r1 0)) (gd (((Option.getD r1 0) < ea_n H68 ∧ ea_c H68 (Option.getD r1 0) = 1)) (gd ((ea_r H68 (Option.getD r1 0) 5) = some (Option.getD (ea_r H68 (Option.getD r1 0) 5) 0)) (gd (((Option.getD (ea_r H68 (Option.getD r1 0) 5) 0) < ea_n H68 ∧ ea_c H68 (Option.getD (ea_r H68 (Option.getD r1 0) 5) 0) = 21)) (gd ((¬ (0 : Int32) < 0)) (gd ((¬ (0 : Int32) < 0)) (gd ((¬ (120 : Int32) < 0)) (gd (((Int32.toNatClampNeg 0) + (Int32.toNatClampNeg 120) ≤ ea_l H68 (Option.getD (ea_r H68 (Option.getD r1 0) 5) 0))) (gd (((Int32.toNatClampNeg 0) + (Int32.toNatClampNeg 120) ≤ ea_l H68 (b0 + 37))) (gd ((∀ i, i < (Int32.toNatClampNeg 120) → (ea_i H68 (Option.getD (ea_r H68 (Option.getD r1 0) 5) 0) ((Int32.toNatClampNeg 0) + i) = 0 ∨ ea_i H68 (Option.getD (ea_r H68 (Option.getD r1 0) 5) 0) ((Int32.toNatClampNeg 0) + i) = 1))) (ea_let (ea_wa H68 (b0 + 37) (va_cpy (ea_i H68 (Option.getD (ea_r H68 (Option.getD r1 0) 5) 0)) (ea_i H68 (b0 + 37)) (Int32.toNatClampNeg 0) (Int32.toNatClampNeg 0) (Int32.toNatClampNeg 120))) fun H80 => (gd (r1 = some (Option.getD r1 0)) (gd (((Option.getD r1 0) < ea_n H80 ∧ ea_c H80 (Option.getD r1 0) = 1)) (gd ((ea_r H80 (Option.getD r1 0) 6) = some (Option.getD (ea_r H80 (Option.getD r1 0) 6) 0)) (gd (((Option.getD (ea_r H80 (Option.getD r1 0) 6) 0) < ea_n H80 ∧ ea_c H80 (Option.getD (ea_r H80 (Option.getD r1 0) 6) 0) = 20)) (gd ((¬ (0 : Int32) < 0)) (gd ((¬ (0 : Int32) < 0)) (gd ((¬ (70 : Int32) < 0)) (gd (((Int32.toNatClampNeg 0) + (Int32.toNatClampNeg 70) ≤ ea_l H80 (Option.getD (ea_r H80 (Option.getD r1 0) 6) 0))) (gd (((Int32.toNatClampNeg 0) + (Int32.toNatClampNeg 70) ≤ ea_l H80 (b0 + 38))) (ea_let (ea_wa H80 (b0 + 38) (va_cpy (ea_i H80 (Option.getD (ea_r H80 (Option.getD r1 0) 6) 0)) (ea_i H80 (b0 + 38)) (Int32.toNatClampNeg 0) (Int32.toNatClampNeg 0) (Int32.toNatClampNeg 70))) fun H92 => (gd (r1 = some (Option.getD r1 0)) (gd (((Option.getD r1 0) < ea_n H92 ∧ ea_c H92 (Option.getD r1 0) = 1)) (gd ((ea_r H92 (Option.getD r1 0) 9) = some (Option.getD (ea_r H92 (Option.getD r1 0) 9) 0)) (gd (((Option.getD (ea_r H92 (Option.getD r1 0) 9) 0) < ea_n H92 ∧ ea_c H92 (Option.getD (ea_r H92 (Option.getD r1 0) 9) 0) = 20)) (gd ((¬ (0 : Int32) < 0)) (gd ((¬ (0 : Int32) < 0)) (gd ((¬ (70 : Int32) < 0)) (gd (((Int32.toNatClampNeg 0) + (Int32.toNatClampNeg 70) ≤ ea_l H92 (Option.getD (ea_r H92 (Option.getD r1 0) 9) 0))) (gd (((Int32.toNatClampNeg 0) + (Int32.toNatClampNeg 70) ≤ ea_l H92 (b0 + 41))) (ea_let (ea_wa H92 (b0 + 41) (va_cpy (ea_i H92 (Option.getD (ea_r H92 (Option.getD r1 0) 9) 0)) (ea_i H92 (b0 + 41)) (Int32.toNatClampNeg 0) (Int32.toNatClampNeg 0) (Int32.toNatClampNeg 70))) fun H104 => (gd (r1 = some (Option.getD r1 0)) (gd (((Option.getD r1 0) < ea_n H104 ∧ ea_c H104 (Option.getD r1 0) = 1)) (gd ((ea_r H104 (Option.getD r1 0) 8) = some (Option.getD (ea_r H104 (Option.getD r1 0) 8) 0)) (gd (((Option.getD (ea_r H104 (Option.getD r1 0) 8) 0) < ea_n H104 ∧ ea_c H104 (Option.getD (ea_r H104 (Option.getD r1 0) 8) 0) = 20)) (gd ((¬ (0 : Int32) < 0)) (gd ((¬ (0 : Int32) < 0)) (gd ((¬ (12 : Int32) < 0)) (gd (((Int32.toNatClampNeg 0) + (Int32.toNatClampNeg 12) ≤ ea_l H104 (Option.getD (ea_r H104 (Option.getD r1 0) 8) 0))) (gd (((Int32.toNatClampNeg 0) + (Int32.toNatClampNeg 12) ≤ ea_l H104 (b0 + 40))) (ea_let (ea_wa H104 (b0 + 40) (va_cpy (ea_i H104 (Option.getD (ea_r H104 (Option.getD r1 0) 8) 0)) (ea_i H104 (b0 + 40)) (Int32.toNatClampNeg 0) (Int32.toNatClampNeg 0) (Int32.toNatClampNeg 12))) fun H116 => (some ((), H116)))))))))))))))))))))))))))))))))))))))))))))))))))))))))))))))))))))))))))))))))))))))))))))))))))
theorem tX1_copy_at32 {d : Nat} {b0 : Nat} {h0 : ea_H} (hd : 2 ≤ d) : ∀ (f lbl : Nat) (r1 : Option Nat) (h : ea_H) (r : Unit) (h' : ea_H), gX1_copy_at32 b0 f lbl r1 h = some (r, h') → ShC b0 h → (lbl = 0 → ea_W mX1_copy d h0 none h' 0 [(0, vR (some (b0 + 32))), (1, vR r1)] [] h) := by
  intro f
  induction f with
  | zero => intro lbl r1 h r h' E; cases E
  | succ f ih =>
    intro lbl r1 h r h' E hs
    unfold gX1_copy_at32 at E
    intro el
    subst el
    refine ea_aload_n (pc := 0) dX1_copy_0 rfl 0 rfl ?_
    refine ea_aload_n (pc := 1) dX1_copy_1 rfl 1 rfl ?_
    obtain ⟨e1, E⟩ := gd_some E
    obtain ⟨f2, E⟩ := gd_some E
    refine ea_deref0 e1 ?_
    refine ea_getI (pc := 2) dX1_copy_2 ec_1 (k := 0) (Nat.le_of_ble_eq_true rfl) rfl (Or.inl ew_359) f2.1 f2.2 ?_
    refine ea_putI (pc := 5) dX1_copy_5 ec_1 (k := 0) (Nat.le_of_ble_eq_true rfl) rfl (Or.inl ⟨rfl, Or.inl ew_359⟩) rfl rfl (hs.1 32 (by decide)).1 (hs.1 32 (by decide)).2.1 ?_
    have hs3 : ShC b0 (ea_wi h (b0 + 32) 0 (ea_i h (Option.getD r1 0) 0)) := ShC_wi hs
    obtain ⟨H4, eH4, E⟩ := let_some E
    refine ea_nm eH4 ?_
    have hsH4 : ShC b0 H4 := by rw [eH4]; exact hs3
    refine ea_aload_n (pc := 8) dX1_copy_8 rfl 0 rfl ?_
    refine ea_aload_n (pc := 9) dX1_copy_9 rfl 1 rfl ?_
    obtain ⟨e5, E⟩ := gd_some E
    obtain ⟨f6, E⟩ := gd_some E
    refine ea_deref0 e5 ?_
    refine ea_getI (pc := 10) dX1_copy_10 ec_1 (k := 10) (Nat.le_of_ble_eq_true rfl) rfl (Or.inl ew_376) f6.1 f6.2 ?_
    refine ea_putI (pc := 13) dX1_copy_13 ec_1 (k := 10) (Nat.le_of_ble_eq_true rfl) rfl (Or.inl ⟨rfl, Or.inl ew_376⟩) rfl rfl (hsH4.1 32 (by decide)).1 (hsH4.1 32 (by decide)).2.1 ?_
    have hs7 : ShC b0 (ea_wi H4 (b0 + 32) 10 (ea_i H4 (Option.getD r1 0) 10)) := ShC_wi hsH4
    obtain ⟨H8, eH8, E⟩ := let_some E
    refine ea_nm eH8 ?_
    have hsH8 : ShC b0 H8 := by rw [eH8]; exact hs7
    refine ea_aload_n (pc := 16) dX1_copy_16 rfl 1 rfl ?_
    obtain ⟨e9, E⟩ := gd_some E
    obtain ⟨f10, E⟩ := gd_some E
    refine ea_deref0 e9 ?_
    refine ea_getR (pc := 17) dX1_copy_17 ec_1 (k := 1) (Nat.le_of_ble_eq_true rfl) rfl (Or.inl ew_361) f10.1 f10.2 rfl ?_
    refine ea_iconst (pc := 20) dX1_copy_20 (v := 0) rfl ?_
    refine ea_aload_n (pc := 21) dX1_copy_21 rfl 0 rfl ?_
    refine ea_getR (pc := 22) dX1_copy_22 ec_1 (k := 1) (Nat.le_of_ble_eq_true rfl) rfl (Or.inl ew_361) (hsH8.1 32 (by decide)).1 (hsH8.1 32 (by decide)).2.1 (hsH8.2 32 1 rfl) ?_
    refine ea_iconst (pc := 25) dX1_copy_25 (v := 0) rfl ?_
    refine ea_bipush (pc := 26) dX1_copy_26 (v := 120) rfl ?_
    obtain ⟨e11, E⟩ := gd_some E
    obtain ⟨f12, E⟩ := gd_some E
    obtain ⟨z13, E⟩ := gd_some E
    obtain ⟨z14, E⟩ := gd_some E
    obtain ⟨z15, E⟩ := gd_some E
    obtain ⟨z16, E⟩ := gd_some E
    obtain ⟨z17, E⟩ := gd_some E
    refine ea_deref4 e11 ?_
    refine ea_copyX (pc := 28) (sp := 0) (dp := 0) (n := 120) 0 (fun _ => rfl) (Or.inl rfl) rfl dX1_copy_28 ew_1324 ew_152 ew_151 ew_111 ⟨f12.1, f12.2⟩ ⟨(hsH8.1 33 (by decide)).1, (hsH8.1 33 (by decide)).2.1⟩ z13 z14 z15 z16 z17 (fun _ _ => rfl) (by omega) (Nat.le_of_ble_eq_true rfl) ?_
    have hs19 : ShC b0 (ea_wa H8 (b0 + 33) (va_cpy (ea_i H8 (Option.getD (ea_r H8 (Option.getD r1 0) 1) 0)) (ea_i H8 (b0 + 33)) (Int32.toNatClampNeg 0) (Int32.toNatClampNeg 0) (Int32.toNatClampNeg 120))) := ShC_wa hsH8
    obtain ⟨H20, eH20, E⟩ := let_some E
    refine ea_nm eH20 ?_
    have hsH20 : ShC b0 H20 := by rw [eH20]; exact hs19
    refine ea_aload_n (pc := 31) dX1_copy_31 rfl 1 rfl ?_
    obtain ⟨e21, E⟩ := gd_some E
    obtain ⟨f22, E⟩ := gd_some E
    refine ea_deref0 e21 ?_
    refine ea_getR (pc := 32) dX1_copy_32 ec_1 (k := 2) (Nat.le_of_ble_eq_true rfl) rfl (Or.inl ew_363) f22.1 f22.2 rfl ?_
    refine ea_iconst (pc := 35) dX1_copy_35 (v := 0) rfl ?_
    refine ea_aload_n (pc := 36) dX1_copy_36 rfl 0 rfl ?_
    refine ea_getR (pc := 37) dX1_copy_37 ec_1 (k := 2) (Nat.le_of_ble_eq_true rfl) rfl (Or.inl ew_363) (hsH20.1 32 (by decide)).1 (hsH20.1 32 (by decide)).2.1 (hsH20.2 32 2 rfl) ?_
    refine ea_iconst (pc := 40) dX1_copy_40 (v := 0) rfl ?_
    refine ea_bipush (pc := 41) dX1_copy_41 (v := 120) rfl ?_
    obtain ⟨e23, E⟩ := gd_some E
    obtain ⟨f24, E⟩ := gd_some E
    obtain ⟨z25, E⟩ := gd_some E
    obtain ⟨z26, E⟩ := gd_some E
    obtain ⟨z27, E⟩ := gd_some E
    obtain ⟨z28, E⟩ := gd_some E
    obtain ⟨z29, E⟩ := gd_some E
    refine ea_deref4 e23 ?_
    refine ea_copyX (pc := 43) (sp := 0) (dp := 0) (n := 120) 0 (fun _ => rfl) (Or.inl rfl) rfl dX1_copy_43 ew_1324 ew_152 ew_151 ew_111 ⟨f24.1, f24.2⟩ ⟨(hsH20.1 34 (by decide)).1, (hsH20.1 34 (by decide)).2.1⟩ z25 z26 z27 z28 z29 (fun _ _ => rfl) (by omega) (Nat.le_of_ble_eq_true rfl) ?_
    have hs31 : ShC b0 (ea_wa H20 (b0 + 34) (va_cpy (ea_i H20 (Option.getD (ea_r H20 (Option.getD r1 0) 2) 0)) (ea_i H20 (b0 + 34)) (Int32.toNatClampNeg 0) (Int32.toNatClampNeg 0) (Int32.toNatClampNeg 120))) := ShC_wa hsH20
    obtain ⟨H32, eH32, E⟩ := let_some E
    refine ea_nm eH32 ?_
    have hsH32 : ShC b0 H32 := by rw [eH32]; exact hs31
    refine ea_aload_n (pc := 46) dX1_copy_46 rfl 1 rfl ?_
    obtain ⟨e33, E⟩ := gd_some E
    obtain ⟨f34, E⟩ := gd_some E
    refine ea_deref0 e33 ?_
    refine ea_getR (pc := 47) dX1_copy_47 ec_1 (k := 3) (Nat.le_of_ble_eq_true rfl) rfl (Or.inl ew_365) f34.1 f34.2 rfl ?_
    refine ea_iconst (pc := 50) dX1_copy_50 (v := 0) rfl ?_
    refine ea_aload_n (pc := 51) dX1_copy_51 rfl 0 rfl ?_
    refine ea_getR (pc := 52) dX1_copy_52 ec_1 (k := 3) (Nat.le_of_ble_eq_true rfl) rfl (Or.inl ew_365) (hsH32.1 32 (by decide)).1 (hsH32.1 32 (by decide)).2.1 (hsH32.2 32 3 rfl) ?_
    refine ea_iconst (pc := 55) dX1_copy_55 (v := 0) rfl ?_
    refine ea_bipush (pc := 56) dX1_copy_56 (v := 120) rfl ?_
    obtain ⟨e35, E⟩ := gd_some E
    obtain ⟨f36, E⟩ := gd_some E
    obtain ⟨z37, E⟩ := gd_some E
    obtain ⟨z38, E⟩ := gd_some E
    obtain ⟨z39, E⟩ := gd_some E
    obtain ⟨z40, E⟩ := gd_some E
    obtain ⟨z41, E⟩ := gd_some E
    refine ea_deref4 e35 ?_
    refine ea_copyX (pc := 58) (sp := 0) (dp := 0) (n := 120) 0 (fun _ => rfl) (Or.inl rfl) rfl dX1_copy_58 ew_1324 ew_152 ew_151 ew_111 ⟨f36.1, f36.2⟩ ⟨(hsH32.1 35 (by decide)).1, (hsH32.1 35 (by decide)).2.1⟩ z37 z38 z39 z40 z41 (fun _ _ => rfl) (by omega) (Nat.le_of_ble_eq_true rfl) ?_
    have hs43 : ShC b0 (ea_wa H32 (b0 + 35) (va_cpy (ea_i H32 (Option.getD (ea_r H32 (Option.getD r1 0) 3) 0)) (ea_i H32 (b0 + 35)) (Int32.toNatClampNeg 0) (Int32.toNatClampNeg 0) (Int32.toNatClampNeg 120))) := ShC_wa hsH32
    obtain ⟨H44, eH44, E⟩ := let_some E
    refine ea_nm eH44 ?_
    have hsH44 : ShC b0 H44 := by rw [eH44]; exact hs43
    refine ea_aload_n (pc := 61) dX1_copy_61 rfl 1 rfl ?_
    obtain ⟨e45, E⟩ := gd_some E
    obtain ⟨f46, E⟩ := gd_some E
    refine ea_deref0 e45 ?_
    refine ea_getR (pc := 62) dX1_copy_62 ec_1 (k := 4) (Nat.le_of_ble_eq_true rfl) rfl (Or.inl ew_367) f46.1 f46.2 rfl ?_
    refine ea_iconst (pc := 65) dX1_copy_65 (v := 0) rfl ?_
    refine ea_aload_n (pc := 66) dX1_copy_66 rfl 0 rfl ?_
    refine ea_getR (pc := 67) dX1_copy_67 ec_1 (k := 4) (Nat.le_of_ble_eq_true rfl) rfl (Or.inl ew_367) (hsH44.1 32 (by decide)).1 (hsH44.1 32 (by decide)).2.1 (hsH44.2 32 4 rfl) ?_
    refine ea_iconst (pc := 70) dX1_copy_70 (v := 0) rfl ?_
    refine ea_bipush (pc := 71) dX1_copy_71 (v := 120) rfl ?_
    obtain ⟨e47, E⟩ := gd_some E
    obtain ⟨f48, E⟩ := gd_some E
    obtain ⟨z49, E⟩ := gd_some E
    obtain ⟨z50, E⟩ := gd_some E
    obtain ⟨z51, E⟩ := gd_some E
    obtain ⟨z52, E⟩ := gd_some E
    obtain ⟨z53, E⟩ := gd_some E
    refine ea_deref4 e47 ?_
    refine ea_copyX (pc := 73) (sp := 0) (dp := 0) (n := 120) 0 (fun _ => rfl) (Or.inl rfl) rfl dX1_copy_73 ew_1324 ew_152 ew_151 ew_111 ⟨f48.1, f48.2⟩ ⟨(hsH44.1 36 (by decide)).1, (hsH44.1 36 (by decide)).2.1⟩ z49 z50 z51 z52 z53 (fun _ _ => rfl) (by omega) (Nat.le_of_ble_eq_true rfl) ?_
    have hs55 : ShC b0 (ea_wa H44 (b0 + 36) (va_cpy (ea_i H44 (Option.getD (ea_r H44 (Option.getD r1 0) 4) 0)) (ea_i H44 (b0 + 36)) (Int32.toNatClampNeg 0) (Int32.toNatClampNeg 0) (Int32.toNatClampNeg 120))) := ShC_wa hsH44
    obtain ⟨H56, eH56, E⟩ := let_some E
    refine ea_nm eH56 ?_
    have hsH56 : ShC b0 H56 := by rw [eH56]; exact hs55
    refine ea_aload_n (pc := 76) dX1_copy_76 rfl 1 rfl ?_
    obtain ⟨e57, E⟩ := gd_some E
    obtain ⟨f58, E⟩ := gd_some E
    refine ea_deref0 e57 ?_
    refine ea_getR (pc := 77) dX1_copy_77 ec_1 (k := 7) (Nat.le_of_ble_eq_true rfl) rfl (Or.inl ew_373) f58.1 f58.2 rfl ?_
    refine ea_iconst (pc := 80) dX1_copy_80 (v := 0) rfl ?_
    refine ea_aload_n (pc := 81) dX1_copy_81 rfl 0 rfl ?_
    refine ea_getR (pc := 82) dX1_copy_82 ec_1 (k := 7) (Nat.le_of_ble_eq_true rfl) rfl (Or.inl ew_373) (hsH56.1 32 (by decide)).1 (hsH56.1 32 (by decide)).2.1 (hsH56.2 32 7 rfl) ?_
    refine ea_iconst (pc := 85) dX1_copy_85 (v := 0) rfl ?_
    refine ea_bipush (pc := 86) dX1_copy_86 (v := 120) rfl ?_
    obtain ⟨e59, E⟩ := gd_some E
    obtain ⟨f60, E⟩ := gd_some E
    obtain ⟨z61, E⟩ := gd_some E
    obtain ⟨z62, E⟩ := gd_some E
    obtain ⟨z63, E⟩ := gd_some E
    obtain ⟨z64, E⟩ := gd_some E
    obtain ⟨z65, E⟩ := gd_some E
    refine ea_deref4 e59 ?_
    refine ea_copyX (pc := 88) (sp := 0) (dp := 0) (n := 120) 0 (fun _ => rfl) (Or.inl rfl) rfl dX1_copy_88 ew_1324 ew_152 ew_151 ew_111 ⟨f60.1, f60.2⟩ ⟨(hsH56.1 39 (by decide)).1, (hsH56.1 39 (by decide)).2.1⟩ z61 z62 z63 z64 z65 (fun _ _ => rfl) (by omega) (Nat.le_of_ble_eq_true rfl) ?_
    have hs67 : ShC b0 (ea_wa H56 (b0 + 39) (va_cpy (ea_i H56 (Option.getD (ea_r H56 (Option.getD r1 0) 7) 0)) (ea_i H56 (b0 + 39)) (Int32.toNatClampNeg 0) (Int32.toNatClampNeg 0) (Int32.toNatClampNeg 120))) := ShC_wa hsH56
    obtain ⟨H68, eH68, E⟩ := let_some E
    refine ea_nm eH68 ?_
    have hsH68 : ShC b0 H68 := by rw [eH68]; exact hs67
    refine ea_aload_n (pc := 91) dX1_copy_91 rfl 1 rfl ?_
    obtain ⟨e69, E⟩ := gd_some E
    obtain ⟨f70, E⟩ := gd_some E
    refine ea_deref0 e69 ?_
    refine ea_getR (pc := 92) dX1_copy_92 ec_1 (k := 5) (Nat.le_of_ble_eq_true rfl) rfl (Or.inl ew_369) f70.1 f70.2 rfl ?_
    refine ea_iconst (pc := 95) dX1_copy_95 (v := 0) rfl ?_
    refine ea_aload_n (pc := 96) dX1_copy_96 rfl 0 rfl ?_
    refine ea_getR (pc := 97) dX1_copy_97 ec_1 (k := 5) (Nat.le_of_ble_eq_true rfl) rfl (Or.inl ew_369) (hsH68.1 32 (by decide)).1 (hsH68.1 32 (by decide)).2.1 (hsH68.2 32 5 rfl) ?_
    refine ea_iconst (pc := 100) dX1_copy_100 (v := 0) rfl ?_
    refine ea_bipush (pc := 101) dX1_copy_101 (v := 120) rfl ?_
    obtain ⟨e71, E⟩ := gd_some E
    obtain ⟨f72, E⟩ := gd_some E
    obtain ⟨z73, E⟩ := gd_some E
    obtain ⟨z74, E⟩ := gd_some E
    obtain ⟨z75, E⟩ := gd_some E
    obtain ⟨z76, E⟩ := gd_some E
    obtain ⟨z77, E⟩ := gd_some E
    obtain ⟨z78, E⟩ := gd_some E
    refine ea_deref4 e71 ?_
    refine ea_copyX (pc := 103) (sp := 0) (dp := 0) (n := 120) 1 (fun _ => rfl) (Or.inr rfl) rfl dX1_copy_103 ew_1324 ew_152 ew_151 ew_111 ⟨f72.1, f72.2⟩ ⟨(hsH68.1 37 (by decide)).1, (hsH68.1 37 (by decide)).2.1⟩ z73 z74 z75 z76 z77 (fun i hi => ea_bf (z78 i hi)) (by omega) (Nat.le_of_ble_eq_true rfl) ?_
    have hs79 : ShC b0 (ea_wa H68 (b0 + 37) (va_cpy (ea_i H68 (Option.getD (ea_r H68 (Option.getD r1 0) 5) 0)) (ea_i H68 (b0 + 37)) (Int32.toNatClampNeg 0) (Int32.toNatClampNeg 0) (Int32.toNatClampNeg 120))) := ShC_wa hsH68
    obtain ⟨H80, eH80, E⟩ := let_some E
    refine ea_nm eH80 ?_
    have hsH80 : ShC b0 H80 := by rw [eH80]; exact hs79
    refine ea_aload_n (pc := 106) dX1_copy_106 rfl 1 rfl ?_
    obtain ⟨e81, E⟩ := gd_some E
    obtain ⟨f82, E⟩ := gd_some E
    refine ea_deref0 e81 ?_
    refine ea_getR (pc := 107) dX1_copy_107 ec_1 (k := 6) (Nat.le_of_ble_eq_true rfl) rfl (Or.inl ew_371) f82.1 f82.2 rfl ?_
    refine ea_iconst (pc := 110) dX1_copy_110 (v := 0) rfl ?_
    refine ea_aload_n (pc := 111) dX1_copy_111 rfl 0 rfl ?_
    refine ea_getR (pc := 112) dX1_copy_112 ec_1 (k := 6) (Nat.le_of_ble_eq_true rfl) rfl (Or.inl ew_371) (hsH80.1 32 (by decide)).1 (hsH80.1 32 (by decide)).2.1 (hsH80.2 32 6 rfl) ?_
    refine ea_iconst (pc := 115) dX1_copy_115 (v := 0) rfl ?_
    refine ea_bipush (pc := 116) dX1_copy_116 (v := 70) rfl ?_
    obtain ⟨e83, E⟩ := gd_some E
    obtain ⟨f84, E⟩ := gd_some E
    obtain ⟨z85, E⟩ := gd_some E
    obtain ⟨z86, E⟩ := gd_some E
    obtain ⟨z87, E⟩ := gd_some E
    obtain ⟨z88, E⟩ := gd_some E
    obtain ⟨z89, E⟩ := gd_some E
    refine ea_deref4 e83 ?_
    refine ea_copyX (pc := 118) (sp := 0) (dp := 0) (n := 70) 0 (fun _ => rfl) (Or.inl rfl) rfl dX1_copy_118 ew_1324 ew_152 ew_151 ew_111 ⟨f84.1, f84.2⟩ ⟨(hsH80.1 38 (by decide)).1, (hsH80.1 38 (by decide)).2.1⟩ z85 z86 z87 z88 z89 (fun _ _ => rfl) (by omega) (Nat.le_of_ble_eq_true rfl) ?_
    have hs91 : ShC b0 (ea_wa H80 (b0 + 38) (va_cpy (ea_i H80 (Option.getD (ea_r H80 (Option.getD r1 0) 6) 0)) (ea_i H80 (b0 + 38)) (Int32.toNatClampNeg 0) (Int32.toNatClampNeg 0) (Int32.toNatClampNeg 70))) := ShC_wa hsH80
    obtain ⟨H92, eH92, E⟩ := let_some E
    refine ea_nm eH92 ?_
    have hsH92 : ShC b0 H92 := by rw [eH92]; exact hs91
    refine ea_aload_n (pc := 121) dX1_copy_121 rfl 1 rfl ?_
    obtain ⟨e93, E⟩ := gd_some E
    obtain ⟨f94, E⟩ := gd_some E
    refine ea_deref0 e93 ?_
    refine ea_getR (pc := 122) dX1_copy_122 ec_1 (k := 9) (Nat.le_of_ble_eq_true rfl) rfl (Or.inl ew_375) f94.1 f94.2 rfl ?_
    refine ea_iconst (pc := 125) dX1_copy_125 (v := 0) rfl ?_
    refine ea_aload_n (pc := 126) dX1_copy_126 rfl 0 rfl ?_
    refine ea_getR (pc := 127) dX1_copy_127 ec_1 (k := 9) (Nat.le_of_ble_eq_true rfl) rfl (Or.inl ew_375) (hsH92.1 32 (by decide)).1 (hsH92.1 32 (by decide)).2.1 (hsH92.2 32 9 rfl) ?_
    refine ea_iconst (pc := 130) dX1_copy_130 (v := 0) rfl ?_
    refine ea_bipush (pc := 131) dX1_copy_131 (v := 70) rfl ?_
    obtain ⟨e95, E⟩ := gd_some E
    obtain ⟨f96, E⟩ := gd_some E
    obtain ⟨z97, E⟩ := gd_some E
    obtain ⟨z98, E⟩ := gd_some E
    obtain ⟨z99, E⟩ := gd_some E
    obtain ⟨z100, E⟩ := gd_some E
    obtain ⟨z101, E⟩ := gd_some E
    refine ea_deref4 e95 ?_
    refine ea_copyX (pc := 133) (sp := 0) (dp := 0) (n := 70) 0 (fun _ => rfl) (Or.inl rfl) rfl dX1_copy_133 ew_1324 ew_152 ew_151 ew_111 ⟨f96.1, f96.2⟩ ⟨(hsH92.1 41 (by decide)).1, (hsH92.1 41 (by decide)).2.1⟩ z97 z98 z99 z100 z101 (fun _ _ => rfl) (by omega) (Nat.le_of_ble_eq_true rfl) ?_
    have hs103 : ShC b0 (ea_wa H92 (b0 + 41) (va_cpy (ea_i H92 (Option.getD (ea_r H92 (Option.getD r1 0) 9) 0)) (ea_i H92 (b0 + 41)) (Int32.toNatClampNeg 0) (Int32.toNatClampNeg 0) (Int32.toNatClampNeg 70))) := ShC_wa hsH92
    obtain ⟨H104, eH104, E⟩ := let_some E
    refine ea_nm eH104 ?_
    have hsH104 : ShC b0 H104 := by rw [eH104]; exact hs103
    refine ea_aload_n (pc := 136) dX1_copy_136 rfl 1 rfl ?_
    obtain ⟨e105, E⟩ := gd_some E
    obtain ⟨f106, E⟩ := gd_some E
    refine ea_deref0 e105 ?_
    refine ea_getR (pc := 137) dX1_copy_137 ec_1 (k := 8) (Nat.le_of_ble_eq_true rfl) rfl (Or.inl ew_374) f106.1 f106.2 rfl ?_
    refine ea_iconst (pc := 140) dX1_copy_140 (v := 0) rfl ?_
    refine ea_aload_n (pc := 141) dX1_copy_141 rfl 0 rfl ?_
    refine ea_getR (pc := 142) dX1_copy_142 ec_1 (k := 8) (Nat.le_of_ble_eq_true rfl) rfl (Or.inl ew_374) (hsH104.1 32 (by decide)).1 (hsH104.1 32 (by decide)).2.1 (hsH104.2 32 8 rfl) ?_
    refine ea_iconst (pc := 145) dX1_copy_145 (v := 0) rfl ?_
    refine ea_bipush (pc := 146) dX1_copy_146 (v := 12) rfl ?_
    obtain ⟨e107, E⟩ := gd_some E
    obtain ⟨f108, E⟩ := gd_some E
    obtain ⟨z109, E⟩ := gd_some E
    obtain ⟨z110, E⟩ := gd_some E
    obtain ⟨z111, E⟩ := gd_some E
    obtain ⟨z112, E⟩ := gd_some E
    obtain ⟨z113, E⟩ := gd_some E
    refine ea_deref4 e107 ?_
    refine ea_copyX (pc := 148) (sp := 0) (dp := 0) (n := 12) 0 (fun _ => rfl) (Or.inl rfl) rfl dX1_copy_148 ew_1324 ew_152 ew_151 ew_111 ⟨f108.1, f108.2⟩ ⟨(hsH104.1 40 (by decide)).1, (hsH104.1 40 (by decide)).2.1⟩ z109 z110 z111 z112 z113 (fun _ _ => rfl) (by omega) (Nat.le_of_ble_eq_true rfl) ?_
    have hs115 : ShC b0 (ea_wa H104 (b0 + 40) (va_cpy (ea_i H104 (Option.getD (ea_r H104 (Option.getD r1 0) 8) 0)) (ea_i H104 (b0 + 40)) (Int32.toNatClampNeg 0) (Int32.toNatClampNeg 0) (Int32.toNatClampNeg 12))) := ShC_wa hsH104
    obtain ⟨H116, eH116, E⟩ := let_some E
    refine ea_nm eH116 ?_
    have hsH116 : ShC b0 H116 := by rw [eH116]; exact hs115
    exact ea_vretO (pc := 151) dX1_copy_151 rfl E
noncomputable def qX1_copy_at32 (b0 : Nat) (r1 : Option Nat) (h : ea_H) : Option (Unit × ea_H) := gX1_copy_at32 b0 1000000000 0 r1 h
def okX1_copy_at32 (b0 : Nat) (r1 : Option Nat) (h : ea_H) : Prop := ∃ x, qX1_copy_at32 b0 r1 h = some x
noncomputable def wX1_copy_at32 (b0 : Nat) (r1 : Option Nat) (h : ea_H) : ea_H := ((qX1_copy_at32 b0 r1 h).getD ((), h)).2
theorem sX1_copy_at32 {d : Nat} {b0 : Nat} {r1 : Option Nat} {h : ea_H} (hd : 2 ≤ d) (hs : ShC b0 h) (K : okX1_copy_at32 b0 r1 h) : ea_Met mX1_copy d [vR (some (b0 + 32)), vR r1] h none (wX1_copy_at32 b0 r1 h) := by
  obtain ⟨⟨x, y⟩, K⟩ := K
  unfold wX1_copy_at32
  rw [K]
  unfold qX1_copy_at32 at K
  exact ea_enter rfl (Nat.le_of_ble_eq_true rfl) ((tX1_copy_at32 hd 1000000000 0 r1 h x y K hs) rfl)
theorem zX1_copy_at32 {b0 : Nat} : ∀ (f lbl : Nat) (r1 : Option Nat) (h : ea_H) (r : Unit) (h' : ea_H), gX1_copy_at32 b0 f lbl r1 h = some (r, h') → ShC b0 h → ShC b0 h' := by
  intro f
  induction f with
  | zero => intro lbl r1 h r h' E; cases E
  | succ f ih =>
    intro lbl r1 h r h' E hs
    unfold gX1_copy_at32 at E
    obtain ⟨e1, E⟩ := gd_some E
    obtain ⟨f2, E⟩ := gd_some E
    obtain ⟨H4, eH4, E⟩ := let_some E
    have hsH4 : ShC b0 H4 := by rw [eH4]; exact (ShC_wi hs)
    obtain ⟨e5, E⟩ := gd_some E
    obtain ⟨f6, E⟩ := gd_some E
    obtain ⟨H8, eH8, E⟩ := let_some E
    have hsH8 : ShC b0 H8 := by rw [eH8]; exact (ShC_wi hsH4)
    obtain ⟨e9, E⟩ := gd_some E
    obtain ⟨f10, E⟩ := gd_some E
    obtain ⟨e11, E⟩ := gd_some E
    obtain ⟨f12, E⟩ := gd_some E
    obtain ⟨z13, E⟩ := gd_some E
    obtain ⟨z14, E⟩ := gd_some E
    obtain ⟨z15, E⟩ := gd_some E
    obtain ⟨z16, E⟩ := gd_some E
    obtain ⟨z17, E⟩ := gd_some E
    obtain ⟨H20, eH20, E⟩ := let_some E
    have hsH20 : ShC b0 H20 := by rw [eH20]; exact (ShC_wa hsH8)
    obtain ⟨e21, E⟩ := gd_some E
    obtain ⟨f22, E⟩ := gd_some E
    obtain ⟨e23, E⟩ := gd_some E
    obtain ⟨f24, E⟩ := gd_some E
    obtain ⟨z25, E⟩ := gd_some E
    obtain ⟨z26, E⟩ := gd_some E
    obtain ⟨z27, E⟩ := gd_some E
    obtain ⟨z28, E⟩ := gd_some E
    obtain ⟨z29, E⟩ := gd_some E
    obtain ⟨H32, eH32, E⟩ := let_some E
    have hsH32 : ShC b0 H32 := by rw [eH32]; exact (ShC_wa hsH20)
    obtain ⟨e33, E⟩ := gd_some E
    obtain ⟨f34, E⟩ := gd_some E
    obtain ⟨e35, E⟩ := gd_some E
    obtain ⟨f36, E⟩ := gd_some E
    obtain ⟨z37, E⟩ := gd_some E
    obtain ⟨z38, E⟩ := gd_some E
    obtain ⟨z39, E⟩ := gd_some E
    obtain ⟨z40, E⟩ := gd_some E
    obtain ⟨z41, E⟩ := gd_some E
    obtain ⟨H44, eH44, E⟩ := let_some E
    have hsH44 : ShC b0 H44 := by rw [eH44]; exact (ShC_wa hsH32)
    obtain ⟨e45, E⟩ := gd_some E
    obtain ⟨f46, E⟩ := gd_some E
    obtain ⟨e47, E⟩ := gd_some E
    obtain ⟨f48, E⟩ := gd_some E
    obtain ⟨z49, E⟩ := gd_some E
    obtain ⟨z50, E⟩ := gd_some E
    obtain ⟨z51, E⟩ := gd_some E
    obtain ⟨z52, E⟩ := gd_some E
    obtain ⟨z53, E⟩ := gd_some E
    obtain ⟨H56, eH56, E⟩ := let_some E
    have hsH56 : ShC b0 H56 := by rw [eH56]; exact (ShC_wa hsH44)
    obtain ⟨e57, E⟩ := gd_some E
    obtain ⟨f58, E⟩ := gd_some E
    obtain ⟨e59, E⟩ := gd_some E
    obtain ⟨f60, E⟩ := gd_some E
    obtain ⟨z61, E⟩ := gd_some E
    obtain ⟨z62, E⟩ := gd_some E
    obtain ⟨z63, E⟩ := gd_some E
    obtain ⟨z64, E⟩ := gd_some E
    obtain ⟨z65, E⟩ := gd_some E
    obtain ⟨H68, eH68, E⟩ := let_some E
    have hsH68 : ShC b0 H68 := by rw [eH68]; exact (ShC_wa hsH56)
    obtain ⟨e69, E⟩ := gd_some E
    obtain ⟨f70, E⟩ := gd_some E
    obtain ⟨e71, E⟩ := gd_some E
    obtain ⟨f72, E⟩ := gd_some E
    obtain ⟨z73, E⟩ := gd_some E
    obtain ⟨z74, E⟩ := gd_some E
    obtain ⟨z75, E⟩ := gd_some E
    obtain ⟨z76, E⟩ := gd_some E
    obtain ⟨z77, E⟩ := gd_some E
    obtain ⟨z78, E⟩ := gd_some E
    obtain ⟨H80, eH80, E⟩ := let_some E
    have hsH80 : ShC b0 H80 := by rw [eH80]; exact (ShC_wa hsH68)
    obtain ⟨e81, E⟩ := gd_some E
    obtain ⟨f82, E⟩ := gd_some E
    obtain ⟨e83, E⟩ := gd_some E
    obtain ⟨f84, E⟩ := gd_some E
    obtain ⟨z85, E⟩ := gd_some E
    obtain ⟨z86, E⟩ := gd_some E
    obtain ⟨z87, E⟩ := gd_some E
    obtain ⟨z88, E⟩ := gd_some E
    obtain ⟨z89, E⟩ := gd_some E
    obtain ⟨H92, eH92, E⟩ := let_some E
    have hsH92 : ShC b0 H92 := by rw [eH92]; exact (ShC_wa hsH80)
    obtain ⟨e93, E⟩ := gd_some E
    obtain ⟨f94, E⟩ := gd_some E
    obtain ⟨e95, E⟩ := gd_some E
    obtain ⟨f96, E⟩ := gd_some E
    obtain ⟨z97, E⟩ := gd_some E
    obtain ⟨z98, E⟩ := gd_some E
    obtain ⟨z99, E⟩ := gd_some E
    obtain ⟨z100, E⟩ := gd_some E
    obtain ⟨z101, E⟩ := gd_some E
    obtain ⟨H104, eH104, E⟩ := let_some E
    have hsH104 : ShC b0 H104 := by rw [eH104]; exact (ShC_wa hsH92)
    obtain ⟨e105, E⟩ := gd_some E
    obtain ⟨f106, E⟩ := gd_some E
    obtain ⟨e107, E⟩ := gd_some E
    obtain ⟨f108, E⟩ := gd_some E
    obtain ⟨z109, E⟩ := gd_some E
    obtain ⟨z110, E⟩ := gd_some E
    obtain ⟨z111, E⟩ := gd_some E
    obtain ⟨z112, E⟩ := gd_some E
    obtain ⟨z113, E⟩ := gd_some E
    obtain ⟨H116, eH116, E⟩ := let_some E
    have hsH116 : ShC b0 H116 := by rw [eH116]; exact (ShC_wa hsH104)
    exact ea_shO E hsH116
theorem shX1_copy_at32 {b0 : Nat} {r1 : Option Nat} {h : ea_H} (hs : ShC b0 h) : ShC b0 (wX1_copy_at32 b0 r1 h) := by
  unfold wX1_copy_at32
  cases K : qX1_copy_at32 b0 r1 h with
  | none => exact hs
  | some x => obtain ⟨x, y⟩ := x; unfold qX1_copy_at32 at K; exact zX1_copy_at32 _ _ _ _ _ _ K hs
noncomputable def gX1_copy_at42 (b0 : Nat) : Nat → Nat → Option Nat → ea_H → Option (Unit × ea_H)
  | 0, _, _, _ => none
  | f + 1, lbl, r1, h =>
    (gd (r1 = some (Option.getD r1 0)) (gd (((Option.getD r1 0) < ea_n h ∧ ea_c h (Option.getD r1 0) = 1)) (ea_let (ea_wi h (b0 + 42) 0 (ea_i h (Option.getD r1 0) 0)) fun H4 => (gd (r1 = some (Option.getD r1 0)) (gd (((Option.getD r1 0) < ea_n H4 ∧ ea_c H4 (Option.getD r1 0) = 1)) (ea_let (ea_wi H4 (b0 + 42) 10 (ea_i H4 (Option.getD r1 0) 10)) fun H8 => (gd (r1 = some (Option.getD r1 0)) (gd (((Option.getD r1 0) < ea_n H8 ∧ ea_c H8 (Option.getD r1 0) = 1)) (gd ((ea_r H8 (Option.getD r1 0) 1) = some (Option.getD (ea_r H8 (Option.getD r1 0) 1) 0)) (gd (((Option.getD (ea_r H8 (Option.getD r1 0) 1) 0) < ea_n H8 ∧ ea_c H8 (Option.getD (ea_r H8 (Option.getD r1 0) 1) 0) = 20)) (gd ((¬ (0 : Int32) < 0)) (gd ((¬ (0 : Int32) < 0)) (gd ((¬ (120 : Int32) < 0)) (gd (((Int32.toNatClampNeg 0) + (Int32.toNatClampNeg 120) ≤ ea_l H8 (Option.getD (ea_r H8 (Option.getD r1 0) 1) 0))) (gd (((Int32.toNatClampNeg 0) + (Int32.toNatClampNeg 120) ≤ ea_l H8 (b0 + 43))) (ea_let (ea_wa H8 (b0 + 43) (va_cpy (ea_i H8 (Option.getD (ea_r H8 (Option.getD r1 0) 1) 0)) (ea_i H8 (b0 + 43)) (Int32.toNatClampNeg 0) (Int32.toNatClampNeg 0) (Int32.toNatClampNeg 120))) fun H20 => (gd (r1 = some (Option.getD r1 0)) (gd (((Option.getD r1 0) < ea_n H20 ∧ ea_c H20 (Option.getD r1 0) = 1)) (gd ((ea_r H20 (Option.getD r1 0) 2) = some (Option.getD (ea_r H20 (Option.getD r1 0) 2) 0)) (gd (((Option.getD (ea_r H20 (Option.getD r1 0) 2) 0) < ea_n H20 ∧ ea_c H20 (Option.getD (ea_r H20 (Option.getD r1 0) 2) 0) = 20)) (gd ((¬ (0 : Int32) < 0)) (gd ((¬ (0 : Int32) < 0)) (gd ((¬ (120 : Int32) < 0)) (gd (((Int32.toNatClampNeg 0) + (Int32.toNatClampNeg 120) ≤ ea_l H20 (Option.getD (ea_r H20 (Option.getD r1 0) 2) 0))) (gd (((Int32.toNatClampNeg 0) + (Int32.toNatClampNeg 120) ≤ ea_l H20 (b0 + 44))) (ea_let (ea_wa H20 (b0 + 44) (va_cpy (ea_i H20 (Option.getD (ea_r H20 (Option.getD r1 0) 2) 0)) (ea_i H20 (b0 + 44)) (Int32.toNatClampNeg 0) (Int32.toNatClampNeg 0) (Int32.toNatClampNeg 120))) fun H32 => (gd (r1 = some (Option.getD r1 0)) (gd (((Option.getD r1 0) < ea_n H32 ∧ ea_c H32 (Option.getD r1 0) = 1)) (gd ((ea_r H32 (Option.getD r1 0) 3) = some (Option.getD (ea_r H32 (Option.getD r1 0) 3) 0)) (gd (((Option.getD (ea_r H32 (Option.getD r1 0) 3) 0) < ea_n H32 ∧ ea_c H32 (Option.getD (ea_r H32 (Option.getD r1 0) 3) 0) = 20)) (gd ((¬ (0 : Int32) < 0)) (gd ((¬ (0 : Int32) < 0)) (gd ((¬ (120 : Int32) < 0)) (gd (((Int32.toNatClampNeg 0) + (Int32.toNatClampNeg 120) ≤ ea_l H32 (Option.getD (ea_r H32 (Option.getD r1 0) 3) 0))) (gd (((Int32.toNatClampNeg 0) + (Int32.toNatClampNeg 120) ≤ ea_l H32 (b0 + 45))) (ea_let (ea_wa H32 (b0 + 45) (va_cpy (ea_i H32 (Option.getD (ea_r H32 (Option.getD r1 0) 3) 0)) (ea_i H32 (b0 + 45)) (Int32.toNatClampNeg 0) (Int32.toNatClampNeg 0) (Int32.toNatClampNeg 120))) fun H44 => (gd (r1 = some (Option.getD r1 0)) (gd (((Option.getD r1 0) < ea_n H44 ∧ ea_c H44 (Option.getD r1 0) = 1)) (gd ((ea_r H44 (Option.getD r1 0) 4) = some (Option.getD (ea_r H44 (Option.getD r1 0) 4) 0)) (gd (((Option.getD (ea_r H44 (Option.getD r1 0) 4) 0) < ea_n H44 ∧ ea_c H44 (Option.getD (ea_r H44 (Option.getD r1 0) 4) 0) = 20)) (gd ((¬ (0 : Int32) < 0)) (gd ((¬ (0 : Int32) < 0)) (gd ((¬ (120 : Int32) < 0)) (gd (((Int32.toNatClampNeg 0) + (Int32.toNatClampNeg 120) ≤ ea_l H44 (Option.getD (ea_r H44 (Option.getD r1 0) 4) 0))) (gd (((Int32.toNatClampNeg 0) + (Int32.toNatClampNeg 120) ≤ ea_l H44 (b0 + 46))) (ea_let (ea_wa H44 (b0 + 46) (va_cpy (ea_i H44 (Option.getD (ea_r H44 (Option.getD r1 0) 4) 0)) (ea_i H44 (b0 + 46)) (Int32.toNatClampNeg 0) (Int32.toNatClampNeg 0) (Int32.toNatClampNeg 120))) fun H56 => (gd (r1 = some (Option.getD r1 0)) (gd (((Option.getD r1 0) < ea_n H56 ∧ ea_c H56 (Option.getD r1 0) = 1)) (gd ((ea_r H56 (Option.getD r1 0) 7) = some (Option.getD (ea_r H56 (Option.getD r1 0) 7) 0)) (gd (((Option.getD (ea_r H56 (Option.getD r1 0) 7) 0) < ea_n H56 ∧ ea_c H56 (Option.getD (ea_r H56 (Option.getD r1 0) 7) 0) = 20)) (gd ((¬ (0 : Int32) < 0)) (gd ((¬ (0 : Int32) < 0)) (gd ((¬ (120 : Int32) < 0)) (gd (((Int32.toNatClampNeg 0) + (Int32.toNatClampNeg 120) ≤ ea_l H56 (Option.getD (ea_r H56 (Option.getD r1 0) 7) 0))) (gd (((Int32.toNatClampNeg 0) + (Int32.toNatClampNeg 120) ≤ ea_l H56 (b0 + 49))) (ea_let (ea_wa H56 (b0 + 49) (va_cpy (ea_i H56 (Option.getD (ea_r H56 (Option.getD r1 0) 7) 0)) (ea_i H56 (b0 + 49)) (Int32.toNatClampNeg 0) (Int32.toNatClampNeg 0) (Int32.toNatClampNeg 120))) fun H68 => (gd (r1 = some (Option.getD r1 0)) (gd (((Option.getD r1 0) < ea_n H68 ∧ ea_c H68 (Option.getD r1 0) = 1)) (gd ((ea_r H68 (Option.getD r1 0) 5) = some (Option.getD (ea_r H68 (Option.getD r1 0) 5) 0)) (gd (((Option.getD (ea_r H68 (Option.getD r1 0) 5) 0) < ea_n H68 ∧ ea_c H68 (Option.getD (ea_r H68 (Option.getD r1 0) 5) 0) = 21)) (gd ((¬ (0 : Int32) < 0)) (gd ((¬ (0 : Int32) < 0)) (gd ((¬ (120 : Int32) < 0)) (gd (((Int32.toNatClampNeg 0) + (Int32.toNatClampNeg 120) ≤ ea_l H68 (Option.getD (ea_r H68 (Option.getD r1 0) 5) 0))) (gd (((Int32.toNatClampNeg 0) + (Int32.toNatClampNeg 120) ≤ ea_l H68 (b0 + 47))) (gd ((∀ i, i < (Int32.toNatClampNeg 120) → (ea_i H68 (Option.getD (ea_r H68 (Option.getD r1 0) 5) 0) ((Int32.toNatClampNeg 0) + i) = 0 ∨ ea_i H68 (Option.getD (ea_r H68 (Option.getD r1 0) 5) 0) ((Int32.toNatClampNeg 0) + i) = 1))) (ea_let (ea_wa H68 (b0 + 47) (va_cpy (ea_i H68 (Option.getD (ea_r H68 (Option.getD r1 0) 5) 0)) (ea_i H68 (b0 + 47)) (Int32.toNatClampNeg 0) (Int32.toNatClampNeg 0) (Int32.toNatClampNeg 120))) fun H80 => (gd (r1 = some (Option.getD r1 0)) (gd (((Option.getD r1 0) < ea_n H80 ∧ ea_c H80 (Option.getD r1 0) = 1)) (gd ((ea_r H80 (Option.getD r1 0) 6) = some (Option.getD (ea_r H80 (Option.getD r1 0) 6) 0)) (gd (((Option.getD (ea_r H80 (Option.getD r1 0) 6) 0) < ea_n H80 ∧ ea_c H80 (Option.getD (ea_r H80 (Option.getD r1 0) 6) 0) = 20)) (gd ((¬ (0 : Int32) < 0)) (gd ((¬ (0 : Int32) < 0)) (gd ((¬ (70 : Int32) < 0)) (gd (((Int32.toNatClampNeg 0) + (Int32.toNatClampNeg 70) ≤ ea_l H80 (Option.getD (ea_r H80 (Option.getD r1 0) 6) 0))) (gd (((Int32.toNatClampNeg 0) + (Int32.toNatClampNeg 70) ≤ ea_l H80 (b0 + 48))) (ea_let (ea_wa H80 (b0 + 48) (va_cpy (ea_i H80 (Option.getD (ea_r H80 (Option.getD r1 0) 6) 0)) (ea_i H80 (b0 + 48)) (Int32.toNatClampNeg 0) (Int32.toNatClampNeg 0) (Int32.toNatClampNeg 70))) fun H92 => (gd (r1 = some (Option.getD r1 0)) (gd (((Option.getD r1 0) < ea_n H92 ∧ ea_c H92 (Option.getD r1 0) = 1)) (gd ((ea_r H92 (Option.getD r1 0) 9) = some (Option.getD (ea_r H92 (Option.getD r1 0) 9) 0)) (gd (((Option.getD (ea_r H92 (Option.getD r1 0) 9) 0) < ea_n H92 ∧ ea_c H92 (Option.getD (ea_r H92 (Option.getD r1 0) 9) 0) = 20)) (gd ((¬ (0 : Int32) < 0)) (gd ((¬ (0 : Int32) < 0)) (gd ((¬ (70 : Int32) < 0)) (gd (((Int32.toNatClampNeg 0) + (Int32.toNatClampNeg 70) ≤ ea_l H92 (Option.getD (ea_r H92 (Option.getD r1 0) 9) 0))) (gd (((Int32.toNatClampNeg 0) + (Int32.toNatClampNeg 70) ≤ ea_l H92 (b0 + 51))) (ea_let (ea_wa H92 (b0 + 51) (va_cpy (ea_i H92 (Option.getD (ea_r H92 (Option.getD r1 0) 9) 0)) (ea_i H92 (b0 + 51)) (Int32.toNatClampNeg 0) (Int32.toNatClampNeg 0) (Int32.toNatClampNeg 70))) fun H104 => (gd (r1 = some (Option.getD r1 0)) (gd (((Option.getD r1 0) < ea_n H104 ∧ ea_c H104 (Option.getD r1 0) = 1)) (gd ((ea_r H104 (Option.getD r1 0) 8) = some (Option.getD (ea_r H104 (Option.getD r1 0) 8) 0)) (gd (((Option.getD (ea_r H104 (Option.getD r1 0) 8) 0) < ea_n H104 ∧ ea_c H104 (Option.getD (ea_r H104 (Option.getD r1 0) 8) 0) = 20)) (gd ((¬ (0 : Int32) < 0)) (gd ((¬ (0 : Int32) < 0)) (gd ((¬ (12 : Int32) < 0)) (gd (((Int32.toNatClampNeg 0) + (Int32.toNatClampNeg 12) ≤ ea_l H104 (Option.getD (ea_r H104 (Option.getD r1 0) 8) 0))) (gd (((Int32.toNatClampNeg 0) + (Int32.toNatClampNeg 12) ≤ ea_l H104 (b0 + 50))) (ea_let (ea_wa H104 (b0 + 50) (va_cpy (ea_i H104 (Option.getD (ea_r H104 (Option.getD r1 0) 8) 0)) (ea_i H104 (b0 + 50)) (Int32.toNatClampNeg 0) (Int32.toNatClampNeg 0) (Int32.toNatClampNeg 12))) fun H116 => (some ((), H116)))))))))))))))))))))))))))))))))))))))))))))))))))))))))))))))))))))))))))))))))))))))))))))))))))
theorem tX1_copy_at42 {d : Nat} {b0 : Nat} {h0 : ea_H} (hd : 2 ≤ d) : ∀ (f lbl : Nat) (r1 : Option Nat) (h : ea_H) (r : Unit) (h' : ea_H), gX1_copy_at42 b0 f lbl r1 h = some (r, h') → ShC b0 h → (lbl = 0 → ea_W mX1_copy d h0 none h' 0 [(0, vR (some (b0 + 42))), (1, vR r1)] [] h) := by
  intro f
  induction f with
  | zero => intro lbl r1 h r h' E; cases E
  | succ f ih =>
    intro lbl r1 h r h' E hs
    unfold gX1_copy_at42 at E
    intro el
    subst el
    refine ea_aload_n (pc := 0) dX1_copy_0 rfl 0 rfl ?_
    refine ea_aload_n (pc := 1) dX1_copy_1 rfl 1 rfl ?_
    obtain ⟨e1, E⟩ := gd_some E
    obtain ⟨f2, E⟩ := gd_some E
    refine ea_deref0 e1 ?_
    refine ea_getI (pc := 2) dX1_copy_2 ec_1 (k := 0) (Nat.le_of_ble_eq_true rfl) rfl (Or.inl ew_359) f2.1 f2.2 ?_
    refine ea_putI (pc := 5) dX1_copy_5 ec_1 (k := 0) (Nat.le_of_ble_eq_true rfl) rfl (Or.inl ⟨rfl, Or.inl ew_359⟩) rfl rfl (hs.1 42 (by decide)).1 (hs.1 42 (by decide)).2.1 ?_
    have hs3 : ShC b0 (ea_wi h (b0 + 42) 0 (ea_i h (Option.getD r1 0) 0)) := ShC_wi hs
    obtain ⟨H4, eH4, E⟩ := let_some E
    refine ea_nm eH4 ?_
    have hsH4 : ShC b0 H4 := by rw [eH4]; exact hs3
    refine ea_aload_n (pc := 8) dX1_copy_8 rfl 0 rfl ?_
    refine ea_aload_n (pc := 9) dX1_copy_9 rfl 1 rfl ?_
    obtain ⟨e5, E⟩ := gd_some E
    obtain ⟨f6, E⟩ := gd_some E
    refine ea_deref0 e5 ?_
    refine ea_getI (pc := 10) dX1_copy_10 ec_1 (k := 10) (Nat.le_of_ble_eq_true rfl) rfl (Or.inl ew_376) f6.1 f6.2 ?_
    refine ea_putI (pc := 13) dX1_copy_13 ec_1 (k := 10) (Nat.le_of_ble_eq_true rfl) rfl (Or.inl ⟨rfl, Or.inl ew_376⟩) rfl rfl (hsH4.1 42 (by decide)).1 (hsH4.1 42 (by decide)).2.1 ?_
    have hs7 : ShC b0 (ea_wi H4 (b0 + 42) 10 (ea_i H4 (Option.getD r1 0) 10)) := ShC_wi hsH4
    obtain ⟨H8, eH8, E⟩ := let_some E
    refine ea_nm eH8 ?_
    have hsH8 : ShC b0 H8 := by rw [eH8]; exact hs7
    refine ea_aload_n (pc := 16) dX1_copy_16 rfl 1 rfl ?_
    obtain ⟨e9, E⟩ := gd_some E
    obtain ⟨f10, E⟩ := gd_some E
    refine ea_deref0 e9 ?_
    refine ea_getR (pc := 17) dX1_copy_17 ec_1 (k := 1) (Nat.le_of_ble_eq_true rfl) rfl (Or.inl ew_361) f10.1 f10.2 rfl ?_
    refine ea_iconst (pc := 20) dX1_copy_20 (v := 0) rfl ?_
    refine ea_aload_n (pc := 21) dX1_copy_21 rfl 0 rfl ?_
    refine ea_getR (pc := 22) dX1_copy_22 ec_1 (k := 1) (Nat.le_of_ble_eq_true rfl) rfl (Or.inl ew_361) (hsH8.1 42 (by decide)).1 (hsH8.1 42 (by decide)).2.1 (hsH8.2 42 1 rfl) ?_
    refine ea_iconst (pc := 25) dX1_copy_25 (v := 0) rfl ?_
    refine ea_bipush (pc := 26) dX1_copy_26 (v := 120) rfl ?_
    obtain ⟨e11, E⟩ := gd_some E
    obtain ⟨f12, E⟩ := gd_some E
    obtain ⟨z13, E⟩ := gd_some E
    obtain ⟨z14, E⟩ := gd_some E
    obtain ⟨z15, E⟩ := gd_some E
    obtain ⟨z16, E⟩ := gd_some E
    obtain ⟨z17, E⟩ := gd_some E
    refine ea_deref4 e11 ?_
    refine ea_copyX (pc := 28) (sp := 0) (dp := 0) (n := 120) 0 (fun _ => rfl) (Or.inl rfl) rfl dX1_copy_28 ew_1324 ew_152 ew_151 ew_111 ⟨f12.1, f12.2⟩ ⟨(hsH8.1 43 (by decide)).1, (hsH8.1 43 (by decide)).2.1⟩ z13 z14 z15 z16 z17 (fun _ _ => rfl) (by omega) (Nat.le_of_ble_eq_true rfl) ?_
    have hs19 : ShC b0 (ea_wa H8 (b0 + 43) (va_cpy (ea_i H8 (Option.getD (ea_r H8 (Option.getD r1 0) 1) 0)) (ea_i H8 (b0 + 43)) (Int32.toNatClampNeg 0) (Int32.toNatClampNeg 0) (Int32.toNatClampNeg 120))) := ShC_wa hsH8
    obtain ⟨H20, eH20, E⟩ := let_some E
    refine ea_nm eH20 ?_
    have hsH20 : ShC b0 H20 := by rw [eH20]; exact hs19
    refine ea_aload_n (pc := 31) dX1_copy_31 rfl 1 rfl ?_
    obtain ⟨e21, E⟩ := gd_some E
    obtain ⟨f22, E⟩ := gd_some E
    refine ea_deref0 e21 ?_
    refine ea_getR (pc := 32) dX1_copy_32 ec_1 (k := 2) (Nat.le_of_ble_eq_true rfl) rfl (Or.inl ew_363) f22.1 f22.2 rfl ?_
    refine ea_iconst (pc := 35) dX1_copy_35 (v := 0) rfl ?_
    refine ea_aload_n (pc := 36) dX1_copy_36 rfl 0 rfl ?_
    refine ea_getR (pc := 37) dX1_copy_37 ec_1 (k := 2) (Nat.le_of_ble_eq_true rfl) rfl (Or.inl ew_363) (hsH20.1 42 (by decide)).1 (hsH20.1 42 (by decide)).2.1 (hsH20.2 42 2 rfl) ?_
    refine ea_iconst (pc := 40) dX1_copy_40 (v := 0) rfl ?_
    refine ea_bipush (pc := 41) dX1_copy_41 (v := 120) rfl ?_
    obtain ⟨e23, E⟩ := gd_some E
    obtain ⟨f24, E⟩ := gd_some E
    obtain ⟨z25, E⟩ := gd_some E
    obtain ⟨z26, E⟩ := gd_some E
    obtain ⟨z27, E⟩ := gd_some E
    obtain ⟨z28, E⟩ := gd_some E
    obtain ⟨z29, E⟩ := gd_some E
    refine ea_deref4 e23 ?_
    refine ea_copyX (pc := 43) (sp := 0) (dp := 0) (n := 120) 0 (fun _ => rfl) (Or.inl rfl) rfl dX1_copy_43 ew_1324 ew_152 ew_151 ew_111 ⟨f24.1, f24.2⟩ ⟨(hsH20.1 44 (by decide)).1, (hsH20.1 44 (by decide)).2.1⟩ z25 z26 z27 z28 z29 (fun _ _ => rfl) (by omega) (Nat.le_of_ble_eq_true rfl) ?_
    have hs31 : ShC b0 (ea_wa H20 (b0 + 44) (va_cpy (ea_i H20 (Option.getD (ea_r H20 (Option.getD r1 0) 2) 0)) (ea_i H20 (b0 + 44)) (Int32.toNatClampNeg 0) (Int32.toNatClampNeg 0) (Int32.toNatClampNeg 120))) := ShC_wa hsH20
    obtain ⟨H32, eH32, E⟩ := let_some E
    refine ea_nm eH32 ?_
    have hsH32 : ShC b0 H32 := by rw [eH32]; exact hs31
    refine ea_aload_n (pc := 46) dX1_copy_46 rfl 1 rfl ?_
    obtain ⟨e33, E⟩ := gd_some E
    obtain ⟨f34, E⟩ := gd_some E
    refine ea_deref0 e33 ?_
    refine ea_getR (pc := 47) dX1_copy_47 ec_1 (k := 3) (Nat.le_of_ble_eq_true rfl) rfl (Or.inl ew_365) f34.1 f34.2 rfl ?_
    refine ea_iconst (pc := 50) dX1_copy_50 (v := 0) rfl ?_
    refine ea_aload_n (pc := 51) dX1_copy_51 rfl 0 rfl ?_
    refine ea_getR (pc := 52) dX1_copy_52 ec_1 (k := 3) (Nat.le_of_ble_eq_true rfl) rfl (Or.inl ew_365) (hsH32.1 42 (by decide)).1 (hsH32.1 42 (by decide)).2.1 (hsH32.2 42 3 rfl) ?_
    refine ea_iconst (pc := 55) dX1_copy_55 (v := 0) rfl ?_
    refine ea_bipush (pc := 56) dX1_copy_56 (v := 120) rfl ?_
    obtain ⟨e35, E⟩ := gd_some E
    obtain ⟨f36, E⟩ := gd_some E
    obtain ⟨z37, E⟩ := gd_some E
    obtain ⟨z38, E⟩ := gd_some E
    obtain ⟨z39, E⟩ := gd_some E
    obtain ⟨z40, E⟩ := gd_some E
    obtain ⟨z41, E⟩ := gd_some E
    refine ea_deref4 e35 ?_
    refine ea_copyX (pc := 58) (sp := 0) (dp := 0) (n := 120) 0 (fun _ => rfl) (Or.inl rfl) rfl dX1_copy_58 ew_1324 ew_152 ew_151 ew_111 ⟨f36.1, f36.2⟩ ⟨(hsH32.1 45 (by decide)).1, (hsH32.1 45 (by decide)).2.1⟩ z37 z38 z39 z40 z41 (fun _ _ => rfl) (by omega) (Nat.le_of_ble_eq_true rfl) ?_
    have hs43 : ShC b0 (ea_wa H32 (b0 + 45) (va_cpy (ea_i H32 (Option.getD (ea_r H32 (Option.getD r1 0) 3) 0)) (ea_i H32 (b0 + 45)) (Int32.toNatClampNeg 0) (Int32.toNatClampNeg 0) (Int32.toNatClampNeg 120))) := ShC_wa hsH32
    obtain ⟨H44, eH44, E⟩ := let_some E
    refine ea_nm eH44 ?_
    have hsH44 : ShC b0 H44 := by rw [eH44]; exact hs43
    refine ea_aload_n (pc := 61) dX1_copy_61 rfl 1 rfl ?_
    obtain ⟨e45, E⟩ := gd_some E
    obtain ⟨f46, E⟩ := gd_some E
    refine ea_deref0 e45 ?_
    refine ea_getR (pc := 62) dX1_copy_62 ec_1 (k := 4) (Nat.le_of_ble_eq_true rfl) rfl (Or.inl ew_367) f46.1 f46.2 rfl ?_
    refine ea_iconst (pc := 65) dX1_copy_65 (v := 0) rfl ?_
    refine ea_aload_n (pc := 66) dX1_copy_66 rfl 0 rfl ?_
    refine ea_getR (pc := 67) dX1_copy_67 ec_1 (k := 4) (Nat.le_of_ble_eq_true rfl) rfl (Or.inl ew_367) (hsH44.1 42 (by decide)).1 (hsH44.1 42 (by decide)).2.1 (hsH44.2 42 4 rfl) ?_
    refine ea_iconst (pc := 70) dX1_copy_70 (v := 0) rfl ?_
    refine ea_bipush (pc := 71) dX1_copy_71 (v := 120) rfl ?_
    obtain ⟨e47, E⟩ := gd_some E
    obtain ⟨f48, E⟩ := gd_some E
    obtain ⟨z49, E⟩ := gd_some E
    obtain ⟨z50, E⟩ := gd_some E
    obtain ⟨z51, E⟩ := gd_some E
    obtain ⟨z52, E⟩ := gd_some E
    obtain ⟨z53, E⟩ := gd_some E
    refine ea_deref4 e47 ?_
    refine ea_copyX (pc := 73) (sp := 0) (dp := 0) (n := 120) 0 (fun _ => rfl) (Or.inl rfl) rfl dX1_copy_73 ew_1324 ew_152 ew_151 ew_111 ⟨f48.1, f48.2⟩ ⟨(hsH44.1 46 (by decide)).1, (hsH44.1 46 (by decide)).2.1⟩ z49 z50 z51 z52 z53 (fun _ _ => rfl) (by omega) (Nat.le_of_ble_eq_true rfl) ?_
    have hs55 : ShC b0 (ea_wa H44 (b0 + 46) (va_cpy (ea_i H44 (Option.getD (ea_r H44 (Option.getD r1 0) 4) 0)) (ea_i H44 (b0 + 46)) (Int32.toNatClampNeg 0) (Int32.toNatClampNeg 0) (Int32.toNatClampNeg 120))) := ShC_wa hsH44
    obtain ⟨H56, eH56, E⟩ := let_some E
    refine ea_nm eH56 ?_
    have hsH56 : ShC b0 H56 := by rw [eH56]; exact hs55
    refine ea_aload_n (pc := 76) dX1_copy_76 rfl 1 rfl ?_
    obtain ⟨e57, E⟩ := gd_some E
    obtain ⟨f58, E⟩ := gd_some E
    refine ea_deref0 e57 ?_
    refine ea_getR (pc := 77) dX1_copy_77 ec_1 (k := 7) (Nat.le_of_ble_eq_true rfl) rfl (Or.inl ew_373) f58.1 f58.2 rfl ?_
    refine ea_iconst (pc := 80) dX1_copy_80 (v := 0) rfl ?_
    refine ea_aload_n (pc := 81) dX1_copy_81 rfl 0 rfl ?_
    refine ea_getR (pc := 82) dX1_copy_82 ec_1 (k := 7) (Nat.le_of_ble_eq_true rfl) rfl (Or.inl ew_373) (hsH56.1 42 (by decide)).1 (hsH56.1 42 (by decide)).2.1 (hsH56.2 42 7 rfl) ?_
    refine ea_iconst (pc := 85) dX1_copy_85 (v := 0) rfl ?_
    refine ea_bipush (pc := 86) dX1_copy_86 (v := 120) rfl ?_
    obtain ⟨e59, E⟩ := gd_some E
    obtain ⟨f60, E⟩ := gd_some E
    obtain ⟨z61, E⟩ := gd_some E
    obtain ⟨z62, E⟩ := gd_some E
    obtain ⟨z63, E⟩ := gd_some E
    obtain ⟨z64, E⟩ := gd_some E
    obtain ⟨z65, E⟩ := gd_some E
    refine ea_deref4 e59 ?_
    refine ea_copyX (pc := 88) (sp := 0) (dp := 0) (n := 120) 0 (fun _ => rfl) (Or.inl rfl) rfl dX1_copy_88 ew_1324 ew_152 ew_151 ew_111 ⟨f60.1, f60.2⟩ ⟨(hsH56.1 49 (by decide)).1, (hsH56.1 49 (by decide)).2.1⟩ z61 z62 z63 z64 z65 (fun _ _ => rfl) (by omega) (Nat.le_of_ble_eq_true rfl) ?_
    have hs67 : ShC b0 (ea_wa H56 (b0 + 49) (va_cpy (ea_i H56 (Option.getD (ea_r H56 (Option.getD r1 0) 7) 0)) (ea_i H56 (b0 + 49)) (Int32.toNatClampNeg 0) (Int32.toNatClampNeg 0) (Int32.toNatClampNeg 120))) := ShC_wa hsH56
    obtain ⟨H68, eH68, E⟩ := let_some E
    refine ea_nm eH68 ?_
    have hsH68 : ShC b0 H68 := by rw [eH68]; exact hs67
    refine ea_aload_n (pc := 91) dX1_copy_91 rfl 1 rfl ?_
    obtain ⟨e69, E⟩ := gd_some E
    obtain ⟨f70, E⟩ := gd_some E
    refine ea_deref0 e69 ?_
    refine ea_getR (pc := 92) dX1_copy_92 ec_1 (k := 5) (Nat.le_of_ble_eq_true rfl) rfl (Or.inl ew_369) f70.1 f70.2 rfl ?_
    refine ea_iconst (pc := 95) dX1_copy_95 (v := 0) rfl ?_
    refine ea_aload_n (pc := 96) dX1_copy_96 rfl 0 rfl ?_
    refine ea_getR (pc := 97) dX1_copy_97 ec_1 (k := 5) (Nat.le_of_ble_eq_true rfl) rfl (Or.inl ew_369) (hsH68.1 42 (by decide)).1 (hsH68.1 42 (by decide)).2.1 (hsH68.2 42 5 rfl) ?_
    refine ea_iconst (pc := 100) dX1_copy_100 (v := 0) rfl ?_
    refine ea_bipush (pc := 101) dX1_copy_101 (v := 120) rfl ?_
    obtain ⟨e71, E⟩ := gd_some E
    obtain ⟨f72, E⟩ := gd_some E
    obtain ⟨z73, E⟩ := gd_some E
    obtain ⟨z74, E⟩ := gd_some E
    obtain ⟨z75, E⟩ := gd_some E
    obtain ⟨z76, E⟩ := gd_some E
    obtain ⟨z77, E⟩ := gd_some E
    obtain ⟨z78, E⟩ := gd_some E
    refine ea_deref4 e71 ?_
    refine ea_copyX (pc := 103) (sp := 0) (dp := 0) (n := 120) 1 (fun _ => rfl) (Or.inr rfl) rfl dX1_copy_103 ew_1324 ew_152 ew_151 ew_111 ⟨f72.1, f72.2⟩ ⟨(hsH68.1 47 (by decide)).1, (hsH68.1 47 (by decide)).2.1⟩ z73 z74 z75 z76 z77 (fun i hi => ea_bf (z78 i hi)) (by omega) (Nat.le_of_ble_eq_true rfl) ?_
    have hs79 : ShC b0 (ea_wa H68 (b0 + 47) (va_cpy (ea_i H68 (Option.getD (ea_r H68 (Option.getD r1 0) 5) 0)) (ea_i H68 (b0 + 47)) (Int32.toNatClampNeg 0) (Int32.toNatClampNeg 0) (Int32.toNatClampNeg 120))) := ShC_wa hsH68
    obtain ⟨H80, eH80, E⟩ := let_some E
    refine ea_nm eH80 ?_
    have hsH80 : ShC b0 H80 := by rw [eH80]; exact hs79
    refine ea_aload_n (pc := 106) dX1_copy_106 rfl 1 rfl ?_
    obtain ⟨e81, E⟩ := gd_some E
    obtain ⟨f82, E⟩ := gd_some E
    refine ea_deref0 e81 ?_
    refine ea_getR (pc := 107) dX1_copy_107 ec_1 (k := 6) (Nat.le_of_ble_eq_true rfl) rfl (Or.inl ew_371) f82.1 f82.2 rfl ?_
    refine ea_iconst (pc := 110) dX1_copy_110 (v := 0) rfl ?_
    refine ea_aload_n (pc := 111) dX1_copy_111 rfl 0 rfl ?_
    refine ea_getR (pc := 112) dX1_copy_112 ec_1 (k := 6) (Nat.le_of_ble_eq_true rfl) rfl (Or.inl ew_371) (hsH80.1 42 (by decide)).1 (hsH80.1 42 (by decide)).2.1 (hsH80.2 42 6 rfl) ?_
    refine ea_iconst (pc := 115) dX1_copy_115 (v := 0) rfl ?_
    refine ea_bipush (pc := 116) dX1_copy_116 (v := 70) rfl ?_
    obtain ⟨e83, E⟩ := gd_some E
    obtain ⟨f84, E⟩ := gd_some E
    obtain ⟨z85, E⟩ := gd_some E
    obtain ⟨z86, E⟩ := gd_some E
    obtain ⟨z87, E⟩ := gd_some E
    obtain ⟨z88, E⟩ := gd_some E
    obtain ⟨z89, E⟩ := gd_some E
    refine ea_deref4 e83 ?_
    refine ea_copyX (pc := 118) (sp := 0) (dp := 0) (n := 70) 0 (fun _ => rfl) (Or.inl rfl) rfl dX1_copy_118 ew_1324 ew_152 ew_151 ew_111 ⟨f84.1, f84.2⟩ ⟨(hsH80.1 48 (by decide)).1, (hsH80.1 48 (by decide)).2.1⟩ z85 z86 z87 z88 z89 (fun _ _ => rfl) (by omega) (Nat.le_of_ble_eq_true rfl) ?_
    have hs91 : ShC b0 (ea_wa H80 (b0 + 48) (va_cpy (ea_i H80 (Option.getD (ea_r H80 (Option.getD r1 0) 6) 0)) (ea_i H80 (b0 + 48)) (Int32.toNatClampNeg 0) (Int32.toNatClampNeg 0) (Int32.toNatClampNeg 70))) := ShC_wa hsH80
    obtain ⟨H92, eH92, E⟩ := let_some E
    refine ea_nm eH92 ?_
    have hsH92 : ShC b0 H92 := by rw [eH92]; exact hs91
    refine ea_aload_n (pc := 121) dX1_copy_121 rfl 1 rfl ?_
    obtain ⟨e93, E⟩ := gd_some E
    obtain ⟨f94, E⟩ := gd_some E
    refine ea_deref0 e93 ?_
    refine ea_getR (pc := 122) dX1_copy_122 ec_1 (k := 9) (Nat.le_of_ble_eq_true rfl) rfl (Or.inl ew_375) f94.1 f94.2 rfl ?_
    refine ea_iconst (pc := 125) dX1_copy_125 (v := 0) rfl ?_
    refine ea_aload_n (pc := 126) dX1_copy_126 rfl 0 rfl ?_
    refine ea_getR (pc := 127) dX1_copy_127 ec_1 (k := 9) (Nat.le_of_ble_eq_true rfl) rfl (Or.inl ew_375) (hsH92.1 42 (by decide)).1 (hsH92.1 42 (by decide)).2.1 (hsH92.2 42 9 rfl) ?_
    refine ea_iconst (pc := 130) dX1_copy_130 (v := 0) rfl ?_
    refine ea_bipush (pc := 131) dX1_copy_131 (v := 70) rfl ?_
    obtain ⟨e95, E⟩ := gd_some E
    obtain ⟨f96, E⟩ := gd_some E
    obtain ⟨z97, E⟩ := gd_some E
    obtain ⟨z98, E⟩ := gd_some E
    obtain ⟨z99, E⟩ := gd_some E
    obtain ⟨z100, E⟩ := gd_some E
    obtain ⟨z101, E⟩ := gd_some E
    refine ea_deref4 e95 ?_
    refine ea_copyX (pc := 133) (sp := 0) (dp := 0) (n := 70) 0 (fun _ => rfl) (Or.inl rfl) rfl dX1_copy_133 ew_1324 ew_152 ew_151 ew_111 ⟨f96.1, f96.2⟩ ⟨(hsH92.1 51 (by decide)).1, (hsH92.1 51 (by decide)).2.1⟩ z97 z98 z99 z100 z101 (fun _ _ => rfl) (by omega) (Nat.le_of_ble_eq_true rfl) ?_
    have hs103 : ShC b0 (ea_wa H92 (b0 + 51) (va_cpy (ea_i H92 (Option.getD (ea_r H92 (Option.getD r1 0) 9) 0)) (ea_i H92 (b0 + 51)) (Int32.toNatClampNeg 0) (Int32.toNatClampNeg 0) (Int32.toNatClampNeg 70))) := ShC_wa hsH92
    obtain ⟨H104, eH104, E⟩ := let_some E
    refine ea_nm eH104 ?_
    have hsH104 : ShC b0 H104 := by rw [eH104]; exact hs103
    refine ea_aload_n (pc := 136) dX1_copy_136 rfl 1 rfl ?_
    obtain ⟨e105, E⟩ := gd_some E
    obtain ⟨f106, E⟩ := gd_some E
    refine ea_deref0 e105 ?_
    refine ea_getR (pc := 137) dX1_copy_137 ec_1 (k := 8) (Nat.le_of_ble_eq_true rfl) rfl (Or.inl ew_374) f106.1 f106.2 rfl ?_
    refine ea_iconst (pc := 140) dX1_copy_140 (v := 0) rfl ?_
    refine ea_aload_n (pc := 141) dX1_copy_141 rfl 0 rfl ?_
    refine ea_getR (pc := 142) dX1_copy_142 ec_1 (k := 8) (Nat.le_of_ble_eq_true rfl) rfl (Or.inl ew_374) (hsH104.1 42 (by decide)).1 (hsH104.1 42 (by decide)).2.1 (hsH104.2 42 8 rfl) ?_
    refine ea_iconst (pc := 145) dX1_copy_145 (v := 0) rfl ?_
    refine ea_bipush (pc := 146) dX1_copy_146 (v := 12) rfl ?_
    obtain ⟨e107, E⟩ := gd_some E
    obtain ⟨f108, E⟩ := gd_some E
    obtain ⟨z109, E⟩ := gd_some E
    obtain ⟨z110, E⟩ := gd_some E
    obtain ⟨z111, E⟩ := gd_some E
    obtain ⟨z112, E⟩ := gd_some E
    obtain ⟨z113, E⟩ := gd_some E
    refine ea_deref4 e107 ?_
    refine ea_copyX (pc := 148) (sp := 0) (dp := 0) (n := 12) 0 (fun _ => rfl) (Or.inl rfl) rfl dX1_copy_148 ew_1324 ew_152 ew_151 ew_111 ⟨f108.1, f108.2⟩ ⟨(hsH104.1 50 (by decide)).1, (hsH104.1 50 (by decide)).2.1⟩ z109 z110 z111 z112 z113 (fun _ _ => rfl) (by omega) (Nat.le_of_ble_eq_true rfl) ?_
    have hs115 : ShC b0 (ea_wa H104 (b0 + 50) (va_cpy (ea_i H104 (Option.getD (ea_r H104 (Option.getD r1 0) 8) 0)) (ea_i H104 (b0 + 50)) (Int32.toNatClampNeg 0) (Int32.toNatClampNeg 0) (Int32.toNatClampNeg 12))) := ShC_wa hsH104
    obtain ⟨H116, eH116, E⟩ := let_some E
    refine ea_nm eH116 ?_
    have hsH116 : ShC b0 H116 := by rw [eH116]; exact hs115
    exact ea_vretO (pc := 151) dX1_copy_151 rfl E
noncomputable def qX1_copy_at42 (b0 : Nat) (r1 : Option Nat) (h : ea_H) : Option (Unit × ea_H) := gX1_copy_at42 b0 1000000000 0 r1 h
def okX1_copy_at42 (b0 : Nat) (r1 : Option Nat) (h : ea_H) : Prop := ∃ x, qX1_copy_at42 b0 r1 h = some x
noncomputable def wX1_copy_at42 (b0 : Nat) (r1 : Option Nat) (h : ea_H) : ea_H := ((qX1_copy_at42 b0 r1 h).getD ((), h)).2
theorem sX1_copy_at42 {d : Nat} {b0 : Nat} {r1 : Option Nat} {h : ea_H} (hd : 2 ≤ d) (hs : ShC b0 h) (K : okX1_copy_at42 b0 r1 h) : ea_Met mX1_copy d [vR (some (b0 + 42)), vR r1] h none (wX1_copy_at42 b0 r1 h) := by
  obtain ⟨⟨x, y⟩, K⟩ := K
  unfold wX1_copy_at42
  rw [K]
  unfold qX1_copy_at42 at K
  exact ea_enter rfl (Nat.le_of_ble_eq_true rfl) ((tX1_copy_at42 hd 1000000000 0 r1 h x y K hs) rfl)
theorem zX1_copy_at42 {b0 : Nat} : ∀ (f lbl : Nat) (r1 : Option Nat) (h : ea_H) (r : Unit) (h' : ea_H), gX1_copy_at42 b0 f lbl r1 h = some (r, h') → ShC b0 h → ShC b0 h' := by
  intro f
  induction f with
  | zero => intro lbl r1 h r h' E; cases E
  | succ f ih =>
    intro lbl r1 h r h' E hs
    unfold gX1_copy_at42 at E
    obtain ⟨e1, E⟩ := gd_some E
    obtain ⟨f2, E⟩ := gd_some E
    obtain ⟨H4, eH4, E⟩ := let_some E
    have hsH4 : ShC b0 H4 := by rw [eH4]; exact (ShC_wi hs)
    obtain ⟨e5, E⟩ := gd_some E
    obtain ⟨f6, E⟩ := gd_some E
    obtain ⟨H8, eH8, E⟩ := let_some E
    have hsH8 : ShC b0 H8 := by rw [eH8]; exact (ShC_wi hsH4)
    obtain ⟨e9, E⟩ := gd_some E
    obtain ⟨f10, E⟩ := gd_some E
    obtain ⟨e11, E⟩ := gd_some E
    obtain ⟨f12, E⟩ := gd_some E
    obtain ⟨z13, E⟩ := gd_some E
    obtain ⟨z14, E⟩ := gd_some E
    obtain ⟨z15, E⟩ := gd_some E
    obtain ⟨z16, E⟩ := gd_some E
    obtain ⟨z17, E⟩ := gd_some E
    obtain ⟨H20, eH20, E⟩ := let_some E
    have hsH20 : ShC b0 H20 := by rw [eH20]; exact (ShC_wa hsH8)
    obtain ⟨e21, E⟩ := gd_some E
    obtain ⟨f22, E⟩ := gd_some E
    obtain ⟨e23, E⟩ := gd_some E
    obtain ⟨f24, E⟩ := gd_some E
    obtain ⟨z25, E⟩ := gd_some E
    obtain ⟨z26, E⟩ := gd_some E
    obtain ⟨z27, E⟩ := gd_some E
    obtain ⟨z28, E⟩ := gd_some E
    obtain ⟨z29, E⟩ := gd_some E
    obtain ⟨H32, eH32, E⟩ := let_some E
    have hsH32 : ShC b0 H32 := by rw [eH32]; exact (ShC_wa hsH20)
    obtain ⟨e33, E⟩ := gd_some E
    obtain ⟨f34, E⟩ := gd_some E
    obtain ⟨e35, E⟩ := gd_some E
    obtain ⟨f36, E⟩ := gd_some E
    obtain ⟨z37, E⟩ := gd_some E
    obtain ⟨z38, E⟩ := gd_some E
    obtain ⟨z39, E⟩ := gd_some E
    obtain ⟨z40, E⟩ := gd_some E
    obtain ⟨z41, E⟩ := gd_some E
    obtain ⟨H44, eH44, E⟩ := let_some E
    have hsH44 : ShC b0 H44 := by rw [eH44]; exact (ShC_wa hsH32)
    obtain ⟨e45, E⟩ := gd_some E
    obtain ⟨f46, E⟩ := gd_some E
    obtain ⟨e47, E⟩ := gd_some E
    obtain ⟨f48, E⟩ := gd_some E
    obtain ⟨z49, E⟩ := gd_some E
    obtain ⟨z50, E⟩ := gd_some E
    obtain ⟨z51, E⟩ := gd_some E
    obtain ⟨z52, E⟩ := gd_some E
    obtain ⟨z53, E⟩ := gd_some E
    obtain ⟨H56, eH56, E⟩ := let_some E
    have hsH56 : ShC b0 H56 := by rw [eH56]; exact (ShC_wa hsH44)
    obtain ⟨e57, E⟩ := gd_some E
    obtain ⟨f58, E⟩ := gd_some E
    obtain ⟨e59, E⟩ := gd_some E
    obtain ⟨f60, E⟩ := gd_some E
    obtain ⟨z61, E⟩ := gd_some E
    obtain ⟨z62, E⟩ := gd_some E
    obtain ⟨z63, E⟩ := gd_some E
    obtain ⟨z64, E⟩ := gd_some E
    obtain ⟨z65, E⟩ := gd_some E
    obtain ⟨H68, eH68, E⟩ := let_some E
    have hsH68 : ShC b0 H68 := by rw [eH68]; exact (ShC_wa hsH56)
    obtain ⟨e69, E⟩ := gd_some E
    obtain ⟨f70, E⟩ := gd_some E
    obtain ⟨e71, E⟩ := gd_some E
    obtain ⟨f72, E⟩ := gd_some E
    obtain ⟨z73, E⟩ := gd_some E
    obtain ⟨z74, E⟩ := gd_some E
    obtain ⟨z75, E⟩ := gd_some E
    obtain ⟨z76, E⟩ := gd_some E
    obtain ⟨z77, E⟩ := gd_some E
    obtain ⟨z78, E⟩ := gd_some E
    obtain ⟨H80, eH80, E⟩ := let_some E
    have hsH80 : ShC b0 H80 := by rw [eH80]; exact (ShC_wa hsH68)
    obtain ⟨e81, E⟩ := gd_some E
    obtain ⟨f82, E⟩ := gd_some E
    obtain ⟨e83, E⟩ := gd_some E
    obtain ⟨f84, E⟩ := gd_some E
    obtain ⟨z85, E⟩ := gd_some E
    obtain ⟨z86, E⟩ := gd_some E
    obtain ⟨z87, E⟩ := gd_some E
    obtain ⟨z88, E⟩ := gd_some E
    obtain ⟨z89, E⟩ := gd_some E
    obtain ⟨H92, eH92, E⟩ := let_some E
    have hsH92 : ShC b0 H92 := by rw [eH92]; exact (ShC_wa hsH80)
    obtain ⟨e93, E⟩ := gd_some E
    obtain ⟨f94, E⟩ := gd_some E
    obtain ⟨e95, E⟩ := gd_some E
    obtain ⟨f96, E⟩ := gd_some E
    obtain ⟨z97, E⟩ := gd_some E
    obtain ⟨z98, E⟩ := gd_some E
    obtain ⟨z99, E⟩ := gd_some E
    obtain ⟨z100, E⟩ := gd_some E
    obtain ⟨z101, E⟩ := gd_some E
    obtain ⟨H104, eH104, E⟩ := let_some E
    have hsH104 : ShC b0 H104 := by rw [eH104]; exact (ShC_wa hsH92)
    obtain ⟨e105, E⟩ := gd_some E
    obtain ⟨f106, E⟩ := gd_some E
    obtain ⟨e107, E⟩ := gd_some E
    obtain ⟨f108, E⟩ := gd_some E
    obtain ⟨z109, E⟩ := gd_some E
    obtain ⟨z110, E⟩ := gd_some E
    obtain ⟨z111, E⟩ := gd_some E
    obtain ⟨z112, E⟩ := gd_some E
    obtain ⟨z113, E⟩ := gd_some E
    obtain ⟨H116, eH116, E⟩ := let_some E
    have hsH116 : ShC b0 H116 := by rw [eH116]; exact (ShC_wa hsH104)
    exact ea_shO E hsH116
theorem shX1_copy_at42 {b0 : Nat} {r1 : Option Nat} {h : ea_H} (hs : ShC b0 h) : ShC b0 (wX1_copy_at42 b0 r1 h) := by
  unfold wX1_copy_at42
  cases K : qX1_copy_at42 b0 r1 h with
  | none => exact hs
  | some x => obtain ⟨x, y⟩ := x; unfold qX1_copy_at42 at K; exact zX1_copy_at42 _ _ _ _ _ _ K hs
noncomputable def gX1_sumOfMinutes_at32 (b0 : Nat) : Nat → Nat → Int32 → Int32 → ea_H → Option (Int32 × ea_H)
  | 0, _, _, _, _ => none
  | f + 1, lbl, x1, x2, h =>
    if lbl = 0 then (gX1_sumOfMinutes_at32 b0 f 4 (0 : Int32) (0 : Int32) h) else
    if lbl = 4 then (if (ea_i h (b0 + 32) 0) ≤ x2 then (some (x1, h)) else (gd (vp_in x2 120) (if (ea_i h (b0 + 33) (Int32.toNatClampNeg x2)) = (2 : Int32) then (gd (vp_in x2 120) (gX1_sumOfMinutes_at32 b0 f 4 ((x1 + (ea_i h (b0 + 39) (Int32.toNatClampNeg x2))) : Int32) ((x2 + (1 : Int32)) : Int32) h)) else (gd (vp_in x2 120) (if (ea_i h (b0 + 33) (Int32.toNatClampNeg x2)) = (0 : Int32) then (gX1_sumOfMinutes_at32 b0 f 4 ((x1 + (10080 : Int32)) : Int32) ((x2 + (1 : Int32)) : Int32) h) else (gd (vp_in x2 120) (if (ea_i h (b0 + 33) (Int32.toNatClampNeg x2)) = (1 : Int32) then (gX1_sumOfMinutes_at32 b0 f 4 ((x1 + (10080 : Int32)) : Int32) ((x2 + (1 : Int32)) : Int32) h) else (gX1_sumOfMinutes_at32 b0 f 4 (x1 : Int32) ((x2 + (1 : Int32)) : Int32) h)))))))) else none
theorem tX1_sumOfMinutes_at32 {d : Nat} {b0 : Nat} {h0 : ea_H} (hd : 1 ≤ d) : ∀ (f lbl : Nat) (x1 : Int32) (x2 : Int32) (h : ea_H) (r : Int32) (h' : ea_H), gX1_sumOfMinutes_at32 b0 f lbl x1 x2 h = some (r, h') → ShC b0 h → (lbl = 0 → ea_W mX1_sumOfMinutes d h0 (some (vI r)) h' 0 [(0, vR (some (b0 + 32)))] [] h) ∧ (lbl = 4 → ea_W mX1_sumOfMinutes d h0 (some (vI r)) h' 4 [(0, vR (some (b0 + 32))), (1, vI x1), (2, vI x2)] [] h) := by
  intro f
  induction f with
  | zero => intro lbl x1 x2 h r h' E; cases E
  | succ f ih =>
    intro lbl x1 x2 h r h' E hs
    unfold gX1_sumOfMinutes_at32 at E
    refine ⟨?_, ?_⟩
    · intro el
      subst el
      have E := (if_pos rfl).symm.trans E
      refine ea_iconst (pc := 0) dX1_sumOfMinutes_0 (v := 0) rfl ?_
      refine ea_istore_n (pc := 1) (lv' := [(0, vR (some (b0 + 32))), (1, vI 0)]) dX1_sumOfMinutes_1 rfl (Nat.le_of_ble_eq_true rfl) [1, 0] rfl ?_
      refine ea_iconst (pc := 2) dX1_sumOfMinutes_2 (v := 0) rfl ?_
      refine ea_istore_n (pc := 3) (lv' := [(0, vR (some (b0 + 32))), (1, vI 0), (2, vI 0)]) dX1_sumOfMinutes_3 rfl (Nat.le_of_ble_eq_true rfl) [1, 2, 0] rfl ?_
      exact ((ih 4 (0 : Int32) (0 : Int32) h _ _ E hs).2 rfl)
    intro el
    subst el
    have E := (if_neg (by decide)).symm.trans E
    have E := (if_pos rfl).symm.trans E
    refine ea_iload_n (pc := 4) dX1_sumOfMinutes_4 rfl 2 rfl ?_
    refine ea_aload_n (pc := 5) dX1_sumOfMinutes_5 rfl 0 rfl ?_
    refine ea_getI (pc := 6) dX1_sumOfMinutes_6 ec_1 (k := 0) (Nat.le_of_ble_eq_true rfl) rfl (Or.inl ew_359) (hs.1 32 (by decide)).1 (hs.1 32 (by decide)).2.1 ?_
    refine ea_icmp_ge (pc := 9) (tgt := 65) dX1_sumOfMinutes_9 rfl (fun c8 => ?_) (fun c8 => ?_)
    · have E := (if_pos c8).symm.trans E
      refine ea_iload_n (pc := 65) dX1_sumOfMinutes_65 rfl 1 rfl ?_
      exact ea_iretO (pc := 66) dX1_sumOfMinutes_66 rfl rfl E
    · have E := (if_neg c8).symm.trans E
      refine ea_aload_n (pc := 12) dX1_sumOfMinutes_12 rfl 0 rfl ?_
      refine ea_getR (pc := 13) dX1_sumOfMinutes_13 ec_1 (k := 1) (Nat.le_of_ble_eq_true rfl) rfl (Or.inl ew_361) (hs.1 32 (by decide)).1 (hs.1 32 (by decide)).2.1 (hs.2 32 1 rfl) ?_
      refine ea_iload_n (pc := 16) dX1_sumOfMinutes_16 rfl 2 rfl ?_
      obtain ⟨z1, E⟩ := gd_some E
      refine ea_iald (pc := 17) dX1_sumOfMinutes_17 (hs.1 33 (by decide)).1 (hs.1 33 (by decide)).2.1 (ea_vpl (hs.1 33 (by decide)).2.2 z1) ?_
      refine ea_iconst (pc := 18) dX1_sumOfMinutes_18 (v := 2) rfl ?_
      refine ea_icmp_ne (pc := 19) (tgt := 34) dX1_sumOfMinutes_19 rfl (fun c7 => ?_) (fun c7 => ?_)
      · have E := (if_neg c7).symm.trans E
        refine ea_aload_n (pc := 34) dX1_sumOfMinutes_34 rfl 0 rfl ?_
        refine ea_getR (pc := 35) dX1_sumOfMinutes_35 ec_1 (k := 1) (Nat.le_of_ble_eq_true rfl) rfl (Or.inl ew_361) (hs.1 32 (by decide)).1 (hs.1 32 (by decide)).2.1 (hs.2 32 1 rfl) ?_
        refine ea_iload_n (pc := 38) dX1_sumOfMinutes_38 rfl 2 rfl ?_
        obtain ⟨z2, E⟩ := gd_some E
        refine ea_iald (pc := 39) dX1_sumOfMinutes_39 (hs.1 33 (by decide)).1 (hs.1 33 (by decide)).2.1 (ea_vpl (hs.1 33 (by decide)).2.2 z2) ?_
        refine ea_if_eq (pc := 40) (tgt := 53) dX1_sumOfMinutes_40 rfl (fun c5 => ?_) (fun c5 => ?_)
        · have E := (if_pos c5).symm.trans E
          refine ea_iincW (pc := 53) (v := 10080) (lv' := [(0, vR (some (b0 + 32))), (1, vI (x1 + (10080 : Int32))), (2, vI x2)]) dX1_sumOfMinutes_53 1 rfl rfl (Nat.le_of_ble_eq_true rfl) [1, 0, 2] rfl ?_
          refine ea_iinc (pc := 59) (v := 1) (lv' := [(0, vR (some (b0 + 32))), (1, vI (x1 + (10080 : Int32))), (2, vI (x2 + (1 : Int32)))]) dX1_sumOfMinutes_59 2 rfl rfl (Nat.le_of_ble_eq_true rfl) [1, 2, 0] rfl ?_
          refine ea_goto (pc := 62) (tgt := 4) dX1_sumOfMinutes_62 rfl ?_
          exact ((ih 4 ((x1 + (10080 : Int32)) : Int32) ((x2 + (1 : Int32)) : Int32) h _ _ E hs).2 rfl)
        · have E := (if_neg c5).symm.trans E
          refine ea_aload_n (pc := 43) dX1_sumOfMinutes_43 rfl 0 rfl ?_
          refine ea_getR (pc := 44) dX1_sumOfMinutes_44 ec_1 (k := 1) (Nat.le_of_ble_eq_true rfl) rfl (Or.inl ew_361) (hs.1 32 (by decide)).1 (hs.1 32 (by decide)).2.1 (hs.2 32 1 rfl) ?_
          refine ea_iload_n (pc := 47) dX1_sumOfMinutes_47 rfl 2 rfl ?_
          obtain ⟨z3, E⟩ := gd_some E
          refine ea_iald (pc := 48) dX1_sumOfMinutes_48 (hs.1 33 (by decide)).1 (hs.1 33 (by decide)).2.1 (ea_vpl (hs.1 33 (by decide)).2.2 z3) ?_
          refine ea_iconst (pc := 49) dX1_sumOfMinutes_49 (v := 1) rfl ?_
          refine ea_icmp_ne (pc := 50) (tgt := 59) dX1_sumOfMinutes_50 rfl (fun c4 => ?_) (fun c4 => ?_)
          · have E := (if_neg c4).symm.trans E
            refine ea_iinc (pc := 59) (v := 1) (lv' := [(0, vR (some (b0 + 32))), (1, vI x1), (2, vI (x2 + (1 : Int32)))]) dX1_sumOfMinutes_59 2 rfl rfl (Nat.le_of_ble_eq_true rfl) [1, 2, 0] rfl ?_
            refine ea_goto (pc := 62) (tgt := 4) dX1_sumOfMinutes_62 rfl ?_
            exact ((ih 4 (x1 : Int32) ((x2 + (1 : Int32)) : Int32) h _ _ E hs).2 rfl)
          · have E := (if_pos c4).symm.trans E
            refine ea_iincW (pc := 53) (v := 10080) (lv' := [(0, vR (some (b0 + 32))), (1, vI (x1 + (10080 : Int32))), (2, vI x2)]) dX1_sumOfMinutes_53 1 rfl rfl (Nat.le_of_ble_eq_true rfl) [1, 0, 2] rfl ?_
            refine ea_iinc (pc := 59) (v := 1) (lv' := [(0, vR (some (b0 + 32))), (1, vI (x1 + (10080 : Int32))), (2, vI (x2 + (1 : Int32)))]) dX1_sumOfMinutes_59 2 rfl rfl (Nat.le_of_ble_eq_true rfl) [1, 2, 0] rfl ?_
            refine ea_goto (pc := 62) (tgt := 4) dX1_sumOfMinutes_62 rfl ?_
            exact ((ih 4 ((x1 + (10080 : Int32)) : Int32) ((x2 + (1 : Int32)) : Int32) h _ _ E hs).2 rfl)
      · have E := (if_pos c7).symm.trans E
        refine ea_iload_n (pc := 22) dX1_sumOfMinutes_22 rfl 1 rfl ?_
        refine ea_aload_n (pc := 23) dX1_sumOfMinutes_23 rfl 0 rfl ?_
        refine ea_getR (pc := 24) dX1_sumOfMinutes_24 ec_1 (k := 7) (Nat.le_of_ble_eq_true rfl) rfl (Or.inl ew_373) (hs.1 32 (by decide)).1 (hs.1 32 (by decide)).2.1 (hs.2 32 7 rfl) ?_
        refine ea_iload_n (pc := 27) dX1_sumOfMinutes_27 rfl 2 rfl ?_
        obtain ⟨z6, E⟩ := gd_some E
        refine ea_iald (pc := 28) dX1_sumOfMinutes_28 (hs.1 39 (by decide)).1 (hs.1 39 (by decide)).2.1 (ea_vpl (hs.1 39 (by decide)).2.2 z6) ?_
        refine ea_iadd (pc := 29) dX1_sumOfMinutes_29 ?_
        refine ea_istore_n (pc := 30) (lv' := [(0, vR (some (b0 + 32))), (1, vI (x1 + (ea_i h (b0 + 39) (Int32.toNatClampNeg x2)))), (2, vI x2)]) dX1_sumOfMinutes_30 rfl (Nat.le_of_ble_eq_true rfl) [1, 0, 2] rfl ?_
        refine ea_goto (pc := 31) (tgt := 59) dX1_sumOfMinutes_31 rfl ?_
        refine ea_iinc (pc := 59) (v := 1) (lv' := [(0, vR (some (b0 + 32))), (1, vI (x1 + (ea_i h (b0 + 39) (Int32.toNatClampNeg x2)))), (2, vI (x2 + (1 : Int32)))]) dX1_sumOfMinutes_59 2 rfl rfl (Nat.le_of_ble_eq_true rfl) [1, 2, 0] rfl ?_
        refine ea_goto (pc := 62) (tgt := 4) dX1_sumOfMinutes_62 rfl ?_
        exact ((ih 4 ((x1 + (ea_i h (b0 + 39) (Int32.toNatClampNeg x2))) : Int32) ((x2 + (1 : Int32)) : Int32) h _ _ E hs).2 rfl)
noncomputable def qX1_sumOfMinutes_at32 (b0 : Nat) (h : ea_H) : Option (Int32 × ea_H) := gX1_sumOfMinutes_at32 b0 1000000000 0 0 0 h
def okX1_sumOfMinutes_at32 (b0 : Nat) (h : ea_H) : Prop := ∃ x, qX1_sumOfMinutes_at32 b0 h = some x
noncomputable def vX1_sumOfMinutes_at32 (b0 : Nat) (h : ea_H) : Int32 := ((qX1_sumOfMinutes_at32 b0 h).getD (0, h)).1
noncomputable def wX1_sumOfMinutes_at32 (b0 : Nat) (h : ea_H) : ea_H := ((qX1_sumOfMinutes_at32 b0 h).getD (0, h)).2
theorem sX1_sumOfMinutes_at32 {d : Nat} {b0 : Nat} {h : ea_H} (hd : 1 ≤ d) (hs : ShC b0 h) (K : okX1_sumOfMinutes_at32 b0 h) : ea_Met mX1_sumOfMinutes d [vR (some (b0 + 32))] h (some (vI (vX1_sumOfMinutes_at32 b0 h))) (wX1_sumOfMinutes_at32 b0 h) := by
  obtain ⟨⟨x, y⟩, K⟩ := K
  unfold wX1_sumOfMinutes_at32 vX1_sumOfMinutes_at32
  rw [K]
  unfold qX1_sumOfMinutes_at32 at K
  exact ea_enter rfl (Nat.le_of_ble_eq_true rfl) ((tX1_sumOfMinutes_at32 hd 1000000000 0 0 0 h x y K hs).1 rfl)
theorem zX1_sumOfMinutes_at32 {b0 : Nat} : ∀ (f lbl : Nat) (x1 : Int32) (x2 : Int32) (h : ea_H) (r : Int32) (h' : ea_H), gX1_sumOfMinutes_at32 b0 f lbl x1 x2 h = some (r, h') → ShC b0 h → ShC b0 h' := by
  intro f
  induction f with
  | zero => intro lbl x1 x2 h r h' E; cases E
  | succ f ih =>
    intro lbl x1 x2 h r h' E hs
    unfold gX1_sumOfMinutes_at32 at E
    by_cases el0 : lbl = 0
    · have E := (if_pos el0).symm.trans E
      exact ih 4 (0 : Int32) (0 : Int32) h _ _ E hs
    have E := (if_neg el0).symm.trans E
    by_cases el1 : lbl = 4
    · have E := (if_pos el1).symm.trans E
      by_cases c8 : (ea_i h (b0 + 32) 0) ≤ x2
      · have E := (if_pos c8).symm.trans E
        exact ea_shO E hs
      have E := (if_neg c8).symm.trans E
      obtain ⟨z1, E⟩ := gd_some E
      by_cases c7 : (ea_i h (b0 + 33) (Int32.toNatClampNeg x2)) = (2 : Int32)
      · have E := (if_pos c7).symm.trans E
        obtain ⟨z6, E⟩ := gd_some E
        exact ih 4 ((x1 + (ea_i h (b0 + 39) (Int32.toNatClampNeg x2))) : Int32) ((x2 + (1 : Int32)) : Int32) h _ _ E hs
      have E := (if_neg c7).symm.trans E
      obtain ⟨z2, E⟩ := gd_some E
      by_cases c5 : (ea_i h (b0 + 33) (Int32.toNatClampNeg x2)) = (0 : Int32)
      · have E := (if_pos c5).symm.trans E
        exact ih 4 ((x1 + (10080 : Int32)) : Int32) ((x2 + (1 : Int32)) : Int32) h _ _ E hs
      have E := (if_neg c5).symm.trans E
      obtain ⟨z3, E⟩ := gd_some E
      by_cases c4 : (ea_i h (b0 + 33) (Int32.toNatClampNeg x2)) = (1 : Int32)
      · have E := (if_pos c4).symm.trans E
        exact ih 4 ((x1 + (10080 : Int32)) : Int32) ((x2 + (1 : Int32)) : Int32) h _ _ E hs
      have E := (if_neg c4).symm.trans E
      exact ih 4 (x1 : Int32) ((x2 + (1 : Int32)) : Int32) h _ _ E hs
    have E := (if_neg el1).symm.trans E
    cases E
theorem shX1_sumOfMinutes_at32 {b0 : Nat} {h : ea_H} (hs : ShC b0 h) : ShC b0 (wX1_sumOfMinutes_at32 b0 h) := by
  unfold wX1_sumOfMinutes_at32
  cases K : qX1_sumOfMinutes_at32 b0 h with
  | none => exact hs
  | some x => obtain ⟨x, y⟩ := x; unfold qX1_sumOfMinutes_at32 at K; exact zX1_sumOfMinutes_at32 _ _ _ _ _ _ _ K hs
noncomputable def gX1_sumOfMinutes_at42 (b0 : Nat) : Nat → Nat → Int32 → Int32 → ea_H → Option (Int32 × ea_H)
  | 0, _, _, _, _ => none
  | f + 1, lbl, x1, x2, h =>
    if lbl = 0 then (gX1_sumOfMinutes_at42 b0 f 4 (0 : Int32) (0 : Int32) h) else
    if lbl = 4 then (if (ea_i h (b0 + 42) 0) ≤ x2 then (some (x1, h)) else (gd (vp_in x2 120) (if (ea_i h (b0 + 43) (Int32.toNatClampNeg x2)) = (2 : Int32) then (gd (vp_in x2 120) (gX1_sumOfMinutes_at42 b0 f 4 ((x1 + (ea_i h (b0 + 49) (Int32.toNatClampNeg x2))) : Int32) ((x2 + (1 : Int32)) : Int32) h)) else (gd (vp_in x2 120) (if (ea_i h (b0 + 43) (Int32.toNatClampNeg x2)) = (0 : Int32) then (gX1_sumOfMinutes_at42 b0 f 4 ((x1 + (10080 : Int32)) : Int32) ((x2 + (1 : Int32)) : Int32) h) else (gd (vp_in x2 120) (if (ea_i h (b0 + 43) (Int32.toNatClampNeg x2)) = (1 : Int32) then (gX1_sumOfMinutes_at42 b0 f 4 ((x1 + (10080 : Int32)) : Int32) ((x2 + (1 : Int32)) : Int32) h) else (gX1_sumOfMinutes_at42 b0 f 4 (x1 : Int32) ((x2 + (1 : Int32)) : Int32) h)))))))) else none
theorem tX1_sumOfMinutes_at42 {d : Nat} {b0 : Nat} {h0 : ea_H} (hd : 1 ≤ d) : ∀ (f lbl : Nat) (x1 : Int32) (x2 : Int32) (h : ea_H) (r : Int32) (h' : ea_H), gX1_sumOfMinutes_at42 b0 f lbl x1 x2 h = some (r, h') → ShC b0 h → (lbl = 0 → ea_W mX1_sumOfMinutes d h0 (some (vI r)) h' 0 [(0, vR (some (b0 + 42)))] [] h) ∧ (lbl = 4 → ea_W mX1_sumOfMinutes d h0 (some (vI r)) h' 4 [(0, vR (some (b0 + 42))), (1, vI x1), (2, vI x2)] [] h) := by
  intro f
  induction f with
  | zero => intro lbl x1 x2 h r h' E; cases E
  | succ f ih =>
    intro lbl x1 x2 h r h' E hs
    unfold gX1_sumOfMinutes_at42 at E
    refine ⟨?_, ?_⟩
    · intro el
      subst el
      have E := (if_pos rfl).symm.trans E
      refine ea_iconst (pc := 0) dX1_sumOfMinutes_0 (v := 0) rfl ?_
      refine ea_istore_n (pc := 1) (lv' := [(0, vR (some (b0 + 42))), (1, vI 0)]) dX1_sumOfMinutes_1 rfl (Nat.le_of_ble_eq_true rfl) [1, 0] rfl ?_
      refine ea_iconst (pc := 2) dX1_sumOfMinutes_2 (v := 0) rfl ?_
      refine ea_istore_n (pc := 3) (lv' := [(0, vR (some (b0 + 42))), (1, vI 0), (2, vI 0)]) dX1_sumOfMinutes_3 rfl (Nat.le_of_ble_eq_true rfl) [1, 2, 0] rfl ?_
      exact ((ih 4 (0 : Int32) (0 : Int32) h _ _ E hs).2 rfl)
    intro el
    subst el
    have E := (if_neg (by decide)).symm.trans E
    have E := (if_pos rfl).symm.trans E
    refine ea_iload_n (pc := 4) dX1_sumOfMinutes_4 rfl 2 rfl ?_
    refine ea_aload_n (pc := 5) dX1_sumOfMinutes_5 rfl 0 rfl ?_
    refine ea_getI (pc := 6) dX1_sumOfMinutes_6 ec_1 (k := 0) (Nat.le_of_ble_eq_true rfl) rfl (Or.inl ew_359) (hs.1 42 (by decide)).1 (hs.1 42 (by decide)).2.1 ?_
    refine ea_icmp_ge (pc := 9) (tgt := 65) dX1_sumOfMinutes_9 rfl (fun c8 => ?_) (fun c8 => ?_)
    · have E := (if_pos c8).symm.trans E
      refine ea_iload_n (pc := 65) dX1_sumOfMinutes_65 rfl 1 rfl ?_
      exact ea_iretO (pc := 66) dX1_sumOfMinutes_66 rfl rfl E
    · have E := (if_neg c8).symm.trans E
      refine ea_aload_n (pc := 12) dX1_sumOfMinutes_12 rfl 0 rfl ?_
      refine ea_getR (pc := 13) dX1_sumOfMinutes_13 ec_1 (k := 1) (Nat.le_of_ble_eq_true rfl) rfl (Or.inl ew_361) (hs.1 42 (by decide)).1 (hs.1 42 (by decide)).2.1 (hs.2 42 1 rfl) ?_
      refine ea_iload_n (pc := 16) dX1_sumOfMinutes_16 rfl 2 rfl ?_
      obtain ⟨z1, E⟩ := gd_some E
      refine ea_iald (pc := 17) dX1_sumOfMinutes_17 (hs.1 43 (by decide)).1 (hs.1 43 (by decide)).2.1 (ea_vpl (hs.1 43 (by decide)).2.2 z1) ?_
      refine ea_iconst (pc := 18) dX1_sumOfMinutes_18 (v := 2) rfl ?_
      refine ea_icmp_ne (pc := 19) (tgt := 34) dX1_sumOfMinutes_19 rfl (fun c7 => ?_) (fun c7 => ?_)
      · have E := (if_neg c7).symm.trans E
        refine ea_aload_n (pc := 34) dX1_sumOfMinutes_34 rfl 0 rfl ?_
        refine ea_getR (pc := 35) dX1_sumOfMinutes_35 ec_1 (k := 1) (Nat.le_of_ble_eq_true rfl) rfl (Or.inl ew_361) (hs.1 42 (by decide)).1 (hs.1 42 (by decide)).2.1 (hs.2 42 1 rfl) ?_
        refine ea_iload_n (pc := 38) dX1_sumOfMinutes_38 rfl 2 rfl ?_
        obtain ⟨z2, E⟩ := gd_some E
        refine ea_iald (pc := 39) dX1_sumOfMinutes_39 (hs.1 43 (by decide)).1 (hs.1 43 (by decide)).2.1 (ea_vpl (hs.1 43 (by decide)).2.2 z2) ?_
        refine ea_if_eq (pc := 40) (tgt := 53) dX1_sumOfMinutes_40 rfl (fun c5 => ?_) (fun c5 => ?_)
        · have E := (if_pos c5).symm.trans E
          refine ea_iincW (pc := 53) (v := 10080) (lv' := [(0, vR (some (b0 + 42))), (1, vI (x1 + (10080 : Int32))), (2, vI x2)]) dX1_sumOfMinutes_53 1 rfl rfl (Nat.le_of_ble_eq_true rfl) [1, 0, 2] rfl ?_
          refine ea_iinc (pc := 59) (v := 1) (lv' := [(0, vR (some (b0 + 42))), (1, vI (x1 + (10080 : Int32))), (2, vI (x2 + (1 : Int32)))]) dX1_sumOfMinutes_59 2 rfl rfl (Nat.le_of_ble_eq_true rfl) [1, 2, 0] rfl ?_
          refine ea_goto (pc := 62) (tgt := 4) dX1_sumOfMinutes_62 rfl ?_
          exact ((ih 4 ((x1 + (10080 : Int32)) : Int32) ((x2 + (1 : Int32)) : Int32) h _ _ E hs).2 rfl)
        · have E := (if_neg c5).symm.trans E
          refine ea_aload_n (pc := 43) dX1_sumOfMinutes_43 rfl 0 rfl ?_
          refine ea_getR (pc := 44) dX1_sumOfMinutes_44 ec_1 (k := 1) (Nat.le_of_ble_eq_true rfl) rfl (Or.inl ew_361) (hs.1 42 (by decide)).1 (hs.1 42 (by decide)).2.1 (hs.2 42 1 rfl) ?_
          refine ea_iload_n (pc := 47) dX1_sumOfMinutes_47 rfl 2 rfl ?_
          obtain ⟨z3, E⟩ := gd_some E
          refine ea_iald (pc := 48) dX1_sumOfMinutes_48 (hs.1 43 (by decide)).1 (hs.1 43 (by decide)).2.1 (ea_vpl (hs.1 43 (by decide)).2.2 z3) ?_
          refine ea_iconst (pc := 49) dX1_sumOfMinutes_49 (v := 1) rfl ?_
          refine ea_icmp_ne (pc := 50) (tgt := 59) dX1_sumOfMinutes_50 rfl (fun c4 => ?_) (fun c4 => ?_)
          · have E := (if_neg c4).symm.trans E
            refine ea_iinc (pc := 59) (v := 1) (lv' := [(0, vR (some (b0 + 42))), (1, vI x1), (2, vI (x2 + (1 : Int32)))]) dX1_sumOfMinutes_59 2 rfl rfl (Nat.le_of_ble_eq_true rfl) [1, 2, 0] rfl ?_
            refine ea_goto (pc := 62) (tgt := 4) dX1_sumOfMinutes_62 rfl ?_
            exact ((ih 4 (x1 : Int32) ((x2 + (1 : Int32)) : Int32) h _ _ E hs).2 rfl)
          · have E := (if_pos c4).symm.trans E
            refine ea_iincW (pc := 53) (v := 10080) (lv' := [(0, vR (some (b0 + 42))), (1, vI (x1 + (10080 : Int32))), (2, vI x2)]) dX1_sumOfMinutes_53 1 rfl rfl (Nat.le_of_ble_eq_true rfl) [1, 0, 2] rfl ?_
            refine ea_iinc (pc := 59) (v := 1) (lv' := [(0, vR (some (b0 + 42))), (1, vI (x1 + (10080 : Int32))), (2, vI (x2 + (1 : Int32)))]) dX1_sumOfMinutes_59 2 rfl rfl (Nat.le_of_ble_eq_true rfl) [1, 2, 0] rfl ?_
            refine ea_goto (pc := 62) (tgt := 4) dX1_sumOfMinutes_62 rfl ?_
            exact ((ih 4 ((x1 + (10080 : Int32)) : Int32) ((x2 + (1 : Int32)) : Int32) h _ _ E hs).2 rfl)
      · have E := (if_pos c7).symm.trans E
        refine ea_iload_n (pc := 22) dX1_sumOfMinutes_22 rfl 1 rfl ?_
        refine ea_aload_n (pc := 23) dX1_sumOfMinutes_23 rfl 0 rfl ?_
        refine ea_getR (pc := 24) dX1_sumOfMinutes_24 ec_1 (k := 7) (Nat.le_of_ble_eq_true rfl) rfl (Or.inl ew_373) (hs.1 42 (by decide)).1 (hs.1 42 (by decide)).2.1 (hs.2 42 7 rfl) ?_
        refine ea_iload_n (pc := 27) dX1_sumOfMinutes_27 rfl 2 rfl ?_
        obtain ⟨z6, E⟩ := gd_some E
        refine ea_iald (pc := 28) dX1_sumOfMinutes_28 (hs.1 49 (by decide)).1 (hs.1 49 (by decide)).2.1 (ea_vpl (hs.1 49 (by decide)).2.2 z6) ?_
        refine ea_iadd (pc := 29) dX1_sumOfMinutes_29 ?_
        refine ea_istore_n (pc := 30) (lv' := [(0, vR (some (b0 + 42))), (1, vI (x1 + (ea_i h (b0 + 49) (Int32.toNatClampNeg x2)))), (2, vI x2)]) dX1_sumOfMinutes_30 rfl (Nat.le_of_ble_eq_true rfl) [1, 0, 2] rfl ?_
        refine ea_goto (pc := 31) (tgt := 59) dX1_sumOfMinutes_31 rfl ?_
        refine ea_iinc (pc := 59) (v := 1) (lv' := [(0, vR (some (b0 + 42))), (1, vI (x1 + (ea_i h (b0 + 49) (Int32.toNatClampNeg x2)))), (2, vI (x2 + (1 : Int32)))]) dX1_sumOfMinutes_59 2 rfl rfl (Nat.le_of_ble_eq_true rfl) [1, 2, 0] rfl ?_
        refine ea_goto (pc := 62) (tgt := 4) dX1_sumOfMinutes_62 rfl ?_
        exact ((ih 4 ((x1 + (ea_i h (b0 + 49) (Int32.toNatClampNeg x2))) : Int32) ((x2 + (1 : Int32)) : Int32) h _ _ E hs).2 rfl)
noncomputable def qX1_sumOfMinutes_at42 (b0 : Nat) (h : ea_H) : Option (Int32 × ea_H) := gX1_sumOfMinutes_at42 b0 1000000000 0 0 0 h
def okX1_sumOfMinutes_at42 (b0 : Nat) (h : ea_H) : Prop := ∃ x, qX1_sumOfMinutes_at42 b0 h = some x
noncomputable def vX1_sumOfMinutes_at42 (b0 : Nat) (h : ea_H) : Int32 := ((qX1_sumOfMinutes_at42 b0 h).getD (0, h)).1
noncomputable def wX1_sumOfMinutes_at42 (b0 : Nat) (h : ea_H) : ea_H := ((qX1_sumOfMinutes_at42 b0 h).getD (0, h)).2
theorem sX1_sumOfMinutes_at42 {d : Nat} {b0 : Nat} {h : ea_H} (hd : 1 ≤ d) (hs : ShC b0 h) (K : okX1_sumOfMinutes_at42 b0 h) : ea_Met mX1_sumOfMinutes d [vR (some (b0 + 42))] h (some (vI (vX1_sumOfMinutes_at42 b0 h))) (wX1_sumOfMinutes_at42 b0 h) := by
  obtain ⟨⟨x, y⟩, K⟩ := K
  unfold wX1_sumOfMinutes_at42 vX1_sumOfMinutes_at42
  rw [K]
  unfold qX1_sumOfMinutes_at42 at K
  exact ea_enter rfl (Nat.le_of_ble_eq_true rfl) ((tX1_sumOfMinutes_at42 hd 1000000000 0 0 0 h x y K hs).1 rfl)
theorem zX1_sumOfMinutes_at42 {b0 : Nat} : ∀ (f lbl : Nat) (x1 : Int32) (x2 : Int32) (h : ea_H) (r : Int32) (h' : ea_H), gX1_sumOfMinutes_at42 b0 f lbl x1 x2 h = some (r, h') → ShC b0 h → ShC b0 h' := by
  intro f
  induction f with
  | zero => intro lbl x1 x2 h r h' E; cases E
  | succ f ih =>
    intro lbl x1 x2 h r h' E hs
    unfold gX1_sumOfMinutes_at42 at E
    by_cases el0 : lbl = 0
    · have E := (if_pos el0).symm.trans E
      exact ih 4 (0 : Int32) (0 : Int32) h _ _ E hs
    have E := (if_neg el0).symm.trans E
    by_cases el1 : lbl = 4
    · have E := (if_pos el1).symm.trans E
      by_cases c8 : (ea_i h (b0 + 42) 0) ≤ x2
      · have E := (if_pos c8).symm.trans E
        exact ea_shO E hs
      have E := (if_neg c8).symm.trans E
      obtain ⟨z1, E⟩ := gd_some E
      by_cases c7 : (ea_i h (b0 + 43) (Int32.toNatClampNeg x2)) = (2 : Int32)
      · have E := (if_pos c7).symm.trans E
        obtain ⟨z6, E⟩ := gd_some E
        exact ih 4 ((x1 + (ea_i h (b0 + 49) (Int32.toNatClampNeg x2))) : Int32) ((x2 + (1 : Int32)) : Int32) h _ _ E hs
      have E := (if_neg c7).symm.trans E
      obtain ⟨z2, E⟩ := gd_some E
      by_cases c5 : (ea_i h (b0 + 43) (Int32.toNatClampNeg x2)) = (0 : Int32)
      · have E := (if_pos c5).symm.trans E
        exact ih 4 ((x1 + (10080 : Int32)) : Int32) ((x2 + (1 : Int32)) : Int32) h _ _ E hs
      have E := (if_neg c5).symm.trans E
      obtain ⟨z3, E⟩ := gd_some E
      by_cases c4 : (ea_i h (b0 + 43) (Int32.toNatClampNeg x2)) = (1 : Int32)
      · have E := (if_pos c4).symm.trans E
        exact ih 4 ((x1 + (10080 : Int32)) : Int32) ((x2 + (1 : Int32)) : Int32) h _ _ E hs
      have E := (if_neg c4).symm.trans E
      exact ih 4 (x1 : Int32) ((x2 + (1 : Int32)) : Int32) h _ _ E hs
    have E := (if_neg el1).symm.trans E
    cases E
theorem shX1_sumOfMinutes_at42 {b0 : Nat} {h : ea_H} (hs : ShC b0 h) : ShC b0 (wX1_sumOfMinutes_at42 b0 h) := by
  unfold wX1_sumOfMinutes_at42
  cases K : qX1_sumOfMinutes_at42 b0 h with
  | none => exact hs
  | some x => obtain ⟨x, y⟩ := x; unfold qX1_sumOfMinutes_at42 at K; exact zX1_sumOfMinutes_at42 _ _ _ _ _ _ _ K hs
noncomputable def gX2_learn (b0 : Nat) (a0 : Nat) : Nat → Nat → Int32 → Int32 → Int32 → Int32 → Int32 → ea_H → Option (Int32 × ea_H)
  | 0, _, _, _, _, _, _, _ => none
  | f + 1, lbl, x1, x2, x3, x4, x5, h =>
    if lbl = 0 then (gd ((a0 < ea_n h ∧ ea_c h a0 = 2)) (gX2_learn b0 a0 f 15 (x1 : Int32) (x2 : Int32) ((-1000) : Int32) ((-1000) : Int32) ((ea_i h a0 1) : Int32) h)) else
    if lbl = 15 then (gd ((a0 < ea_n h ∧ ea_c h a0 = 2)) (if (ea_i h a0 2) < x5 then (if x3 = ((-1000) : Int32) then (some ((0 : Int32), h)) else (gd ((a0 < ea_n h ∧ ea_c h a0 = 2)) (ea_let (ea_wi h a0 1 x3) fun H5 => (gd ((a0 < ea_n H5 ∧ ea_c H5 a0 = 2)) (ea_let (ea_wi H5 a0 2 x4) fun H8 => (some ((1 : Int32), H8))))))) else (gd ((a0 < ea_n h ∧ ea_c h a0 = 2)) (gd ((a0 < ea_n h ∧ ea_c h a0 = 2)) (if (vX2_shown ((x1 - (ea_i h a0 0)) : Int32) (x5 : Int32) h) = (x2 - (ea_i h a0 0)) then (if x3 = ((-1000) : Int32) then (gX2_learn b0 a0 f 15 (x1 : Int32) (x2 : Int32) (x5 : Int32) (x5 : Int32) ((x5 + (1 : Int32)) : Int32) h) else (gX2_learn b0 a0 f 15 (x1 : Int32) (x2 : Int32) (x3 : Int32) (x5 : Int32) ((x5 + (1 : Int32)) : Int32) h)) else (gX2_learn b0 a0 f 15 (x1 : Int32) (x2 : Int32) (x3 : Int32) (x4 : Int32) ((x5 + (1 : Int32)) : Int32) h)))))) else none
theorem tX2_learn {d : Nat} {b0 : Nat} {a0 : Nat} {h0 : ea_H} (hd : 2 ≤ d) : ∀ (f lbl : Nat) (x1 : Int32) (x2 : Int32) (x3 : Int32) (x4 : Int32) (x5 : Int32) (h : ea_H) (r : Int32) (h' : ea_H), gX2_learn b0 a0 f lbl x1 x2 x3 x4 x5 h = some (r, h') → ShC b0 h → (lbl = 0 → ea_W mX2_learn d h0 (some (vI r)) h' 0 [(0, vR (some a0)), (1, vI x1), (2, vI x2)] [] h) ∧ (lbl = 15 → ea_W mX2_learn d h0 (some (vI r)) h' 15 [(0, vR (some a0)), (1, vI x1), (2, vI x2), (3, vI x3), (4, vI x4), (5, vI x5)] [] h) := by
  intro f
  induction f with
  | zero => intro lbl x1 x2 x3 x4 x5 h r h' E; cases E
  | succ f ih =>
    intro lbl x1 x2 x3 x4 x5 h r h' E hs
    unfold gX2_learn at E
    refine ⟨?_, ?_⟩
    · intro el
      subst el
      have E := (if_pos rfl).symm.trans E
      refine ea_sipush (pc := 0) dX2_learn_0 (v := (-1000)) rfl ?_
      refine ea_istore_n (pc := 3) (lv' := [(0, vR (some a0)), (1, vI x1), (2, vI x2), (3, vI (-1000))]) dX2_learn_3 rfl (Nat.le_of_ble_eq_true rfl) [1, 2, 3, 0] rfl ?_
      refine ea_sipush (pc := 4) dX2_learn_4 (v := (-1000)) rfl ?_
      refine ea_istore (pc := 7) (lv' := [(0, vR (some a0)), (1, vI x1), (2, vI x2), (3, vI (-1000)), (4, vI (-1000))]) dX2_learn_7 (Nat.le_of_ble_eq_true rfl) [1, 2, 3, 4, 0] rfl ?_
      refine ea_aload_n (pc := 9) dX2_learn_9 rfl 0 rfl ?_
      obtain ⟨f1, E⟩ := gd_some E
      refine ea_getI (pc := 10) dX2_learn_10 ec_2 (k := 1) (Nat.le_of_ble_eq_true rfl) rfl (Or.inl ew_426) f1.1 f1.2 ?_
      refine ea_istore (pc := 13) (lv' := [(0, vR (some a0)), (1, vI x1), (2, vI x2), (3, vI (-1000)), (4, vI (-1000)), (5, vI (ea_i h a0 1))]) dX2_learn_13 (Nat.le_of_ble_eq_true rfl) [1, 2, 3, 4, 5, 0] rfl ?_
      exact ((ih 15 (x1 : Int32) (x2 : Int32) ((-1000) : Int32) ((-1000) : Int32) ((ea_i h a0 1) : Int32) h _ _ E hs).2 rfl)
    intro el
    subst el
    have E := (if_neg (by decide)).symm.trans E
    have E := (if_pos rfl).symm.trans E
    refine ea_iload (pc := 15) dX2_learn_15 5 rfl ?_
    refine ea_aload_n (pc := 17) dX2_learn_17 rfl 0 rfl ?_
    obtain ⟨f2, E⟩ := gd_some E
    refine ea_getI (pc := 18) dX2_learn_18 ec_2 (k := 2) (Nat.le_of_ble_eq_true rfl) rfl (Or.inl ew_428) f2.1 f2.2 ?_
    refine ea_icmp_gt (pc := 21) (tgt := 68) dX2_learn_21 rfl (fun c15 => ?_) (fun c15 => ?_)
    · have E := (if_pos c15).symm.trans E
      refine ea_iload_n (pc := 68) dX2_learn_68 rfl 3 rfl ?_
      refine ea_sipush (pc := 69) dX2_learn_69 (v := (-1000)) rfl ?_
      refine ea_icmp_ne (pc := 72) (tgt := 77) dX2_learn_72 rfl (fun c9 => ?_) (fun c9 => ?_)
      · have E := (if_neg c9).symm.trans E
        refine ea_aload_n (pc := 77) dX2_learn_77 rfl 0 rfl ?_
        refine ea_iload_n (pc := 78) dX2_learn_78 rfl 3 rfl ?_
        obtain ⟨f3, E⟩ := gd_some E
        refine ea_putI (pc := 79) dX2_learn_79 ec_2 (k := 1) (Nat.le_of_ble_eq_true rfl) rfl (Or.inl ⟨rfl, Or.inl ew_426⟩) rfl rfl f3.1 f3.2 ?_
        have hs4 : ShC b0 (ea_wi h a0 1 x3) := ShC_wi hs
        obtain ⟨H5, eH5, E⟩ := let_some E
        refine ea_nm eH5 ?_
        have hsH5 : ShC b0 H5 := by rw [eH5]; exact hs4
        refine ea_aload_n (pc := 82) dX2_learn_82 rfl 0 rfl ?_
        refine ea_iload (pc := 83) dX2_learn_83 4 rfl ?_
        obtain ⟨f6, E⟩ := gd_some E
        refine ea_putI (pc := 85) dX2_learn_85 ec_2 (k := 2) (Nat.le_of_ble_eq_true rfl) rfl (Or.inl ⟨rfl, Or.inl ew_428⟩) rfl rfl f6.1 f6.2 ?_
        have hs7 : ShC b0 (ea_wi H5 a0 2 x4) := ShC_wi hsH5
        obtain ⟨H8, eH8, E⟩ := let_some E
        refine ea_nm eH8 ?_
        have hsH8 : ShC b0 H8 := by rw [eH8]; exact hs7
        refine ea_iconst (pc := 88) dX2_learn_88 (v := 1) rfl ?_
        exact ea_iretO (pc := 89) dX2_learn_89 rfl (ea_bn (Or.inr rfl)) E
      · have E := (if_pos c9).symm.trans E
        refine ea_iconst (pc := 75) dX2_learn_75 (v := 0) rfl ?_
        exact ea_iretO (pc := 76) dX2_learn_76 rfl (ea_bn (Or.inl rfl)) E
    · have E := (if_neg c15).symm.trans E
      refine ea_iload_n (pc := 24) dX2_learn_24 rfl 1 rfl ?_
      refine ea_aload_n (pc := 25) dX2_learn_25 rfl 0 rfl ?_
      obtain ⟨f10, E⟩ := gd_some E
      refine ea_getI (pc := 26) dX2_learn_26 ec_2 (k := 0) (Nat.le_of_ble_eq_true rfl) rfl (Or.inl ew_424) f10.1 f10.2 ?_
      refine ea_isub (pc := 29) dX2_learn_29 ?_
      refine ea_iload (pc := 30) dX2_learn_30 5 rfl ?_
      refine ea_callS (pc := 32) (d' := d - 1) (As := [vI (x1 - (ea_i h a0 0)), vI x5]) (st := []) dX2_learn_32 kX2_shown (sX2_shown (d := d - 1) (by omega)) (by omega) rfl (Nat.le_of_ble_eq_true rfl) ew_1284 ew_1285 ?_
      refine ea_iload_n (pc := 35) dX2_learn_35 rfl 2 rfl ?_
      refine ea_aload_n (pc := 36) dX2_learn_36 rfl 0 rfl ?_
      obtain ⟨f12, E⟩ := gd_some E
      refine ea_getI (pc := 37) dX2_learn_37 ec_2 (k := 0) (Nat.le_of_ble_eq_true rfl) rfl (Or.inl ew_424) f12.1 f12.2 ?_
      refine ea_isub (pc := 40) dX2_learn_40 ?_
      refine ea_icmp_ne (pc := 41) (tgt := 62) dX2_learn_41 rfl (fun c14 => ?_) (fun c14 => ?_)
      · have E := (if_neg c14).symm.trans E
        refine ea_iinc (pc := 62) (v := 1) (lv' := [(0, vR (some a0)), (1, vI x1), (2, vI x2), (3, vI x3), (4, vI x4), (5, vI (x5 + (1 : Int32)))]) dX2_learn_62 5 rfl rfl (Nat.le_of_ble_eq_true rfl) [1, 2, 3, 4, 5, 0] rfl ?_
        refine ea_goto (pc := 65) (tgt := 15) dX2_learn_65 rfl ?_
        exact ((ih 15 (x1 : Int32) (x2 : Int32) (x3 : Int32) (x4 : Int32) ((x5 + (1 : Int32)) : Int32) h _ _ E hs).2 rfl)
      · have E := (if_pos c14).symm.trans E
        refine ea_iload_n (pc := 44) dX2_learn_44 rfl 3 rfl ?_
        refine ea_sipush (pc := 45) dX2_learn_45 (v := (-1000)) rfl ?_
        refine ea_icmp_ne (pc := 48) (tgt := 56) dX2_learn_48 rfl (fun c13 => ?_) (fun c13 => ?_)
        · have E := (if_neg c13).symm.trans E
          refine ea_iload_n (pc := 56) dX2_learn_56 rfl 3 rfl ?_
          refine ea_istore_n (pc := 57) (lv' := [(0, vR (some a0)), (1, vI x1), (2, vI x2), (3, vI x3), (5, vI x5)]) dX2_learn_57 rfl (Nat.le_of_ble_eq_true rfl) [1, 2, 3, 0, 5] rfl ?_
          refine ea_iload (pc := 58) dX2_learn_58 4 rfl ?_
          refine ea_istore (pc := 60) (lv' := [(0, vR (some a0)), (1, vI x1), (2, vI x2), (3, vI x3), (4, vI x5), (5, vI x5)]) dX2_learn_60 (Nat.le_of_ble_eq_true rfl) [1, 2, 3, 4, 0, 5] rfl ?_
          refine ea_iinc (pc := 62) (v := 1) (lv' := [(0, vR (some a0)), (1, vI x1), (2, vI x2), (3, vI x3), (4, vI x5), (5, vI (x5 + (1 : Int32)))]) dX2_learn_62 5 rfl rfl (Nat.le_of_ble_eq_true rfl) [1, 2, 3, 4, 5, 0] rfl ?_
          refine ea_goto (pc := 65) (tgt := 15) dX2_learn_65 rfl ?_
          exact ((ih 15 (x1 : Int32) (x2 : Int32) (x3 : Int32) (x5 : Int32) ((x5 + (1 : Int32)) : Int32) h _ _ E hs).2 rfl)
        · have E := (if_pos c13).symm.trans E
          refine ea_iload (pc := 51) dX2_learn_51 5 rfl ?_
          refine ea_goto (pc := 53) (tgt := 57) dX2_learn_53 rfl ?_
          refine ea_istore_n (pc := 57) (lv' := [(0, vR (some a0)), (1, vI x1), (2, vI x2), (3, vI x5), (5, vI x5)]) dX2_learn_57 rfl (Nat.le_of_ble_eq_true rfl) [1, 2, 3, 0, 5] rfl ?_
          refine ea_iload (pc := 58) dX2_learn_58 4 rfl ?_
          refine ea_istore (pc := 60) (lv' := [(0, vR (some a0)), (1, vI x1), (2, vI x2), (3, vI x5), (4, vI x5), (5, vI x5)]) dX2_learn_60 (Nat.le_of_ble_eq_true rfl) [1, 2, 3, 4, 0, 5] rfl ?_
          refine ea_iinc (pc := 62) (v := 1) (lv' := [(0, vR (some a0)), (1, vI x1), (2, vI x2), (3, vI x5), (4, vI x5), (5, vI (x5 + (1 : Int32)))]) dX2_learn_62 5 rfl rfl (Nat.le_of_ble_eq_true rfl) [1, 2, 3, 4, 5, 0] rfl ?_
          refine ea_goto (pc := 65) (tgt := 15) dX2_learn_65 rfl ?_
          exact ((ih 15 (x1 : Int32) (x2 : Int32) (x5 : Int32) (x5 : Int32) ((x5 + (1 : Int32)) : Int32) h _ _ E hs).2 rfl)
noncomputable def qX2_learn (b0 : Nat) (a0 : Nat) (x1 : Int32) (x2 : Int32) (h : ea_H) : Option (Int32 × ea_H) := gX2_learn b0 a0 1000000000 0 x1 x2 0 0 0 h
def okX2_learn (b0 : Nat) (a0 : Nat) (x1 : Int32) (x2 : Int32) (h : ea_H) : Prop := ∃ x, qX2_learn b0 a0 x1 x2 h = some x
noncomputable def vX2_learn (b0 : Nat) (a0 : Nat) (x1 : Int32) (x2 : Int32) (h : ea_H) : Int32 := ((qX2_learn b0 a0 x1 x2 h).getD (0, h)).1
noncomputable def wX2_learn (b0 : Nat) (a0 : Nat) (x1 : Int32) (x2 : Int32) (h : ea_H) : ea_H := ((qX2_learn b0 a0 x1 x2 h).getD (0, h)).2
theorem sX2_learn {d : Nat} {b0 : Nat} {a0 : Nat} {x1 : Int32} {x2 : Int32} {h : ea_H} (hd : 2 ≤ d) (hs : ShC b0 h) (K : okX2_learn b0 a0 x1 x2 h) : ea_Met mX2_learn d [vR (some a0), vI x1, vI x2] h (some (vI (vX2_learn b0 a0 x1 x2 h))) (wX2_learn b0 a0 x1 x2 h) := by
  obtain ⟨⟨x, y⟩, K⟩ := K
  unfold wX2_learn vX2_learn
  rw [K]
  unfold qX2_learn at K
  exact ea_enter rfl (Nat.le_of_ble_eq_true rfl) ((tX2_learn hd 1000000000 0 x1 x2 0 0 0 h x y K hs).1 rfl)
theorem zX2_learn {b0 : Nat} {a0 : Nat} : ∀ (f lbl : Nat) (x1 : Int32) (x2 : Int32) (x3 : Int32) (x4 : Int32) (x5 : Int32) (h : ea_H) (r : Int32) (h' : ea_H), gX2_learn b0 a0 f lbl x1 x2 x3 x4 x5 h = some (r, h') → ShC b0 h → ShC b0 h' := by
  intro f
  induction f with
  | zero => intro lbl x1 x2 x3 x4 x5 h r h' E; cases E
  | succ f ih =>
    intro lbl x1 x2 x3 x4 x5 h r h' E hs
    unfold gX2_learn at E
    by_cases el0 : lbl = 0
    · have E := (if_pos el0).symm.trans E
      obtain ⟨f1, E⟩ := gd_some E
      exact ih 15 (x1 : Int32) (x2 : Int32) ((-1000) : Int32) ((-1000) : Int32) ((ea_i h a0 1) : Int32) h _ _ E hs
    have E := (if_neg el0).symm.trans E
    by_cases el1 : lbl = 15
    · have E := (if_pos el1).symm.trans E
      obtain ⟨f2, E⟩ := gd_some E
      by_cases c15 : (ea_i h a0 2) < x5
      · have E := (if_pos c15).symm.trans E
        by_cases c9 : x3 = ((-1000) : Int32)
        · have E := (if_pos c9).symm.trans E
          exact ea_shO E hs
        have E := (if_neg c9).symm.trans E
        obtain ⟨f3, E⟩ := gd_some E
        obtain ⟨H5, eH5, E⟩ := let_some E
        have hsH5 : ShC b0 H5 := by rw [eH5]; exact (ShC_wi hs)
        obtain ⟨f6, E⟩ := gd_some E
        obtain ⟨H8, eH8, E⟩ := let_some E
        have hsH8 : ShC b0 H8 := by rw [eH8]; exact (ShC_wi hsH5)
        exact ea_shO E hsH8
      have E := (if_neg c15).symm.trans E
      obtain ⟨f10, E⟩ := gd_some E
      obtain ⟨f12, E⟩ := gd_some E
      by_cases c14 : (vX2_shown ((x1 - (ea_i h a0 0)) : Int32) (x5 : Int32) h) = (x2 - (ea_i h a0 0))
      · have E := (if_pos c14).symm.trans E
        by_cases c13 : x3 = ((-1000) : Int32)
        · have E := (if_pos c13).symm.trans E
          exact ih 15 (x1 : Int32) (x2 : Int32) (x5 : Int32) (x5 : Int32) ((x5 + (1 : Int32)) : Int32) h _ _ E hs
        have E := (if_neg c13).symm.trans E
        exact ih 15 (x1 : Int32) (x2 : Int32) (x3 : Int32) (x5 : Int32) ((x5 + (1 : Int32)) : Int32) h _ _ E hs
      have E := (if_neg c14).symm.trans E
      exact ih 15 (x1 : Int32) (x2 : Int32) (x3 : Int32) (x4 : Int32) ((x5 + (1 : Int32)) : Int32) h _ _ E hs
    have E := (if_neg el1).symm.trans E
    cases E
theorem shX2_learn {b0 : Nat} {a0 : Nat} {x1 : Int32} {x2 : Int32} {h : ea_H} (hs : ShC b0 h) : ShC b0 (wX2_learn b0 a0 x1 x2 h) := by
  unfold wX2_learn
  cases K : qX2_learn b0 a0 x1 x2 h with
  | none => exact hs
  | some x => obtain ⟨x, y⟩ := x; unfold qX2_learn at K; exact zX2_learn _ _ _ _ _ _ _ _ _ _ K hs
noncomputable def gX2_mayShow (b0 : Nat) (a0 : Nat) : Nat → Nat → Int32 → Int32 → Int32 → ea_H → Option (Int32 × ea_H)
  | 0, _, _, _, _, _ => none
  | f + 1, lbl, x1, x2, x3, h =>
    if lbl = 0 then (gd ((a0 < ea_n h ∧ ea_c h a0 = 2)) (if x2 < (vX2_shown (x1 : Int32) ((ea_i h a0 1) : Int32) h) then (some ((0 : Int32), h)) else (gd ((a0 < ea_n h ∧ ea_c h a0 = 2)) (if x2 ≤ (vX2_shown (x1 : Int32) ((ea_i h a0 2) : Int32) h) then (gd ((a0 < ea_n h ∧ ea_c h a0 = 2)) (gX2_mayShow b0 a0 f 31 (x1 : Int32) (x2 : Int32) ((ea_i h a0 1) : Int32) h)) else (some ((0 : Int32), h)))))) else
    if lbl = 31 then (gd ((a0 < ea_n h ∧ ea_c h a0 = 2)) (if (ea_i h a0 2) < x3 then (some ((0 : Int32), h)) else (if (vX2_shown (x1 : Int32) (x3 : Int32) h) = x2 then (some ((1 : Int32), h)) else (gX2_mayShow b0 a0 f 31 (x1 : Int32) (x2 : Int32) ((x3 + (1 : Int32)) : Int32) h)))) else none
theorem tX2_mayShow {d : Nat} {b0 : Nat} {a0 : Nat} {h0 : ea_H} (hd : 2 ≤ d) : ∀ (f lbl : Nat) (x1 : Int32) (x2 : Int32) (x3 : Int32) (h : ea_H) (r : Int32) (h' : ea_H), gX2_mayShow b0 a0 f lbl x1 x2 x3 h = some (r, h') → ShC b0 h → (lbl = 0 → ea_W mX2_mayShow d h0 (some (vI r)) h' 0 [(0, vR (some a0)), (1, vI x1), (2, vI x2)] [] h) ∧ (lbl = 31 → ea_W mX2_mayShow d h0 (some (vI r)) h' 31 [(0, vR (some a0)), (1, vI x1), (2, vI x2), (3, vI x3)] [] h) := by
  intro f
  induction f with
  | zero => intro lbl x1 x2 x3 h r h' E; cases E
  | succ f ih =>
    intro lbl x1 x2 x3 h r h' E hs
    unfold gX2_mayShow at E
    refine ⟨?_, ?_⟩
    · intro el
      subst el
      have E := (if_pos rfl).symm.trans E
      refine ea_iload_n (pc := 0) dX2_mayShow_0 rfl 1 rfl ?_
      refine ea_aload_n (pc := 1) dX2_mayShow_1 rfl 0 rfl ?_
      obtain ⟨f1, E⟩ := gd_some E
      refine ea_getI (pc := 2) dX2_mayShow_2 ec_2 (k := 1) (Nat.le_of_ble_eq_true rfl) rfl (Or.inl ew_426) f1.1 f1.2 ?_
      refine ea_callS (pc := 5) (d' := d - 1) (As := [vI x1, vI (ea_i h a0 1)]) (st := []) dX2_mayShow_5 kX2_shown (sX2_shown (d := d - 1) (by omega)) (by omega) rfl (Nat.le_of_ble_eq_true rfl) ew_1284 ew_1285 ?_
      refine ea_iload_n (pc := 8) dX2_mayShow_8 rfl 2 rfl ?_
      refine ea_icmp_gt (pc := 9) (tgt := 24) dX2_mayShow_9 rfl (fun c7 => ?_) (fun c7 => ?_)
      · have E := (if_pos c7).symm.trans E
        refine ea_iconst (pc := 24) dX2_mayShow_24 (v := 0) rfl ?_
        exact ea_iretO (pc := 25) dX2_mayShow_25 rfl (ea_bn (Or.inl rfl)) E
      · have E := (if_neg c7).symm.trans E
        refine ea_iload_n (pc := 12) dX2_mayShow_12 rfl 1 rfl ?_
        refine ea_aload_n (pc := 13) dX2_mayShow_13 rfl 0 rfl ?_
        obtain ⟨f3, E⟩ := gd_some E
        refine ea_getI (pc := 14) dX2_mayShow_14 ec_2 (k := 2) (Nat.le_of_ble_eq_true rfl) rfl (Or.inl ew_428) f3.1 f3.2 ?_
        refine ea_callS (pc := 17) (d' := d - 1) (As := [vI x1, vI (ea_i h a0 2)]) (st := []) dX2_mayShow_17 kX2_shown (sX2_shown (d := d - 1) (by omega)) (by omega) rfl (Nat.le_of_ble_eq_true rfl) ew_1284 ew_1285 ?_
        refine ea_iload_n (pc := 20) dX2_mayShow_20 rfl 2 rfl ?_
        refine ea_icmp_ge (pc := 21) (tgt := 26) dX2_mayShow_21 rfl (fun c6 => ?_) (fun c6 => ?_)
        · have E := (if_pos c6).symm.trans E
          refine ea_aload_n (pc := 26) dX2_mayShow_26 rfl 0 rfl ?_
          obtain ⟨f5, E⟩ := gd_some E
          refine ea_getI (pc := 27) dX2_mayShow_27 ec_2 (k := 1) (Nat.le_of_ble_eq_true rfl) rfl (Or.inl ew_426) f5.1 f5.2 ?_
          refine ea_istore_n (pc := 30) (lv' := [(0, vR (some a0)), (1, vI x1), (2, vI x2), (3, vI (ea_i h a0 1))]) dX2_mayShow_30 rfl (Nat.le_of_ble_eq_true rfl) [1, 2, 3, 0] rfl ?_
          exact ((ih 31 (x1 : Int32) (x2 : Int32) ((ea_i h a0 1) : Int32) h _ _ E hs).2 rfl)
        · have E := (if_neg c6).symm.trans E
          refine ea_iconst (pc := 24) dX2_mayShow_24 (v := 0) rfl ?_
          exact ea_iretO (pc := 25) dX2_mayShow_25 rfl (ea_bn (Or.inl rfl)) E
    intro el
    subst el
    have E := (if_neg (by decide)).symm.trans E
    have E := (if_pos rfl).symm.trans E
    refine ea_iload_n (pc := 31) dX2_mayShow_31 rfl 3 rfl ?_
    refine ea_aload_n (pc := 32) dX2_mayShow_32 rfl 0 rfl ?_
    obtain ⟨f8, E⟩ := gd_some E
    refine ea_getI (pc := 33) dX2_mayShow_33 ec_2 (k := 2) (Nat.le_of_ble_eq_true rfl) rfl (Or.inl ew_428) f8.1 f8.2 ?_
    refine ea_icmp_gt (pc := 36) (tgt := 56) dX2_mayShow_36 rfl (fun c11 => ?_) (fun c11 => ?_)
    · have E := (if_pos c11).symm.trans E
      refine ea_iconst (pc := 56) dX2_mayShow_56 (v := 0) rfl ?_
      exact ea_iretO (pc := 57) dX2_mayShow_57 rfl (ea_bn (Or.inl rfl)) E
    · have E := (if_neg c11).symm.trans E
      refine ea_iload_n (pc := 39) dX2_mayShow_39 rfl 1 rfl ?_
      refine ea_iload_n (pc := 40) dX2_mayShow_40 rfl 3 rfl ?_
      refine ea_callS (pc := 41) (d' := d - 1) (As := [vI x1, vI x3]) (st := []) dX2_mayShow_41 kX2_shown (sX2_shown (d := d - 1) (by omega)) (by omega) rfl (Nat.le_of_ble_eq_true rfl) ew_1284 ew_1285 ?_
      refine ea_iload_n (pc := 44) dX2_mayShow_44 rfl 2 rfl ?_
      refine ea_icmp_ne (pc := 45) (tgt := 50) dX2_mayShow_45 rfl (fun c10 => ?_) (fun c10 => ?_)
      · have E := (if_neg c10).symm.trans E
        refine ea_iinc (pc := 50) (v := 1) (lv' := [(0, vR (some a0)), (1, vI x1), (2, vI x2), (3, vI (x3 + (1 : Int32)))]) dX2_mayShow_50 3 rfl rfl (Nat.le_of_ble_eq_true rfl) [1, 2, 3, 0] rfl ?_
        refine ea_goto (pc := 53) (tgt := 31) dX2_mayShow_53 rfl ?_
        exact ((ih 31 (x1 : Int32) (x2 : Int32) ((x3 + (1 : Int32)) : Int32) h _ _ E hs).2 rfl)
      · have E := (if_pos c10).symm.trans E
        refine ea_iconst (pc := 48) dX2_mayShow_48 (v := 1) rfl ?_
        exact ea_iretO (pc := 49) dX2_mayShow_49 rfl (ea_bn (Or.inr rfl)) E
noncomputable def qX2_mayShow (b0 : Nat) (a0 : Nat) (x1 : Int32) (x2 : Int32) (h : ea_H) : Option (Int32 × ea_H) := gX2_mayShow b0 a0 1000000000 0 x1 x2 0 h
def okX2_mayShow (b0 : Nat) (a0 : Nat) (x1 : Int32) (x2 : Int32) (h : ea_H) : Prop := ∃ x, qX2_mayShow b0 a0 x1 x2 h = some x
noncomputable def vX2_mayShow (b0 : Nat) (a0 : Nat) (x1 : Int32) (x2 : Int32) (h : ea_H) : Int32 := ((qX2_mayShow b0 a0 x1 x2 h).getD (0, h)).1
noncomputable def wX2_mayShow (b0 : Nat) (a0 : Nat) (x1 : Int32) (x2 : Int32) (h : ea_H) : ea_H := ((qX2_mayShow b0 a0 x1 x2 h).getD (0, h)).2
theorem sX2_mayShow {d : Nat} {b0 : Nat} {a0 : Nat} {x1 : Int32} {x2 : Int32} {h : ea_H} (hd : 2 ≤ d) (hs : ShC b0 h) (K : okX2_mayShow b0 a0 x1 x2 h) : ea_Met mX2_mayShow d [vR (some a0), vI x1, vI x2] h (some (vI (vX2_mayShow b0 a0 x1 x2 h))) (wX2_mayShow b0 a0 x1 x2 h) := by
  obtain ⟨⟨x, y⟩, K⟩ := K
  unfold wX2_mayShow vX2_mayShow
  rw [K]
  unfold qX2_mayShow at K
  exact ea_enter rfl (Nat.le_of_ble_eq_true rfl) ((tX2_mayShow hd 1000000000 0 x1 x2 0 h x y K hs).1 rfl)
theorem zX2_mayShow {b0 : Nat} {a0 : Nat} : ∀ (f lbl : Nat) (x1 : Int32) (x2 : Int32) (x3 : Int32) (h : ea_H) (r : Int32) (h' : ea_H), gX2_mayShow b0 a0 f lbl x1 x2 x3 h = some (r, h') → ShC b0 h → ShC b0 h' := by
  intro f
  induction f with
  | zero => intro lbl x1 x2 x3 h r h' E; cases E
  | succ f ih =>
    intro lbl x1 x2 x3 h r h' E hs
    unfold gX2_mayShow at E
    by_cases el0 : lbl = 0
    · have E := (if_pos el0).symm.trans E
      obtain ⟨f1, E⟩ := gd_some E
      by_cases c7 : x2 < (vX2_shown (x1 : Int32) ((ea_i h a0 1) : Int32) h)
      · have E := (if_pos c7).symm.trans E
        exact ea_shO E hs
      have E := (if_neg c7).symm.trans E
      obtain ⟨f3, E⟩ := gd_some E
      by_cases c6 : x2 ≤ (vX2_shown (x1 : Int32) ((ea_i h a0 2) : Int32) h)
      · have E := (if_pos c6).symm.trans E
        obtain ⟨f5, E⟩ := gd_some E
        exact ih 31 (x1 : Int32) (x2 : Int32) ((ea_i h a0 1) : Int32) h _ _ E hs
      have E := (if_neg c6).symm.trans E
      exact ea_shO E hs
    have E := (if_neg el0).symm.trans E
    by_cases el1 : lbl = 31
    · have E := (if_pos el1).symm.trans E
      obtain ⟨f8, E⟩ := gd_some E
      by_cases c11 : (ea_i h a0 2) < x3
      · have E := (if_pos c11).symm.trans E
        exact ea_shO E hs
      have E := (if_neg c11).symm.trans E
      by_cases c10 : (vX2_shown (x1 : Int32) (x3 : Int32) h) = x2
      · have E := (if_pos c10).symm.trans E
        exact ea_shO E hs
      have E := (if_neg c10).symm.trans E
      exact ih 31 (x1 : Int32) (x2 : Int32) ((x3 + (1 : Int32)) : Int32) h _ _ E hs
    have E := (if_neg el1).symm.trans E
    cases E
theorem shX2_mayShow {b0 : Nat} {a0 : Nat} {x1 : Int32} {x2 : Int32} {h : ea_H} (hs : ShC b0 h) : ShC b0 (wX2_mayShow b0 a0 x1 x2 h) := by
  unfold wX2_mayShow
  cases K : qX2_mayShow b0 a0 x1 x2 h with
  | none => exact hs
  | some x => obtain ⟨x, y⟩ := x; unfold qX2_mayShow at K; exact zX2_mayShow _ _ _ _ _ _ _ _ K hs
noncomputable def gX2_least (b0 : Nat) (a0 : Nat) : Nat → Nat → Int32 → Int32 → ea_H → Option (Int32 × ea_H)
  | 0, _, _, _, _ => none
  | f + 1, lbl, x1, x2, h =>
    if lbl = 0 then (gd ((a0 < ea_n h ∧ ea_c h a0 = 2)) (gX2_least b0 a0 f 5 (x1 : Int32) ((ea_i h a0 0) : Int32) h)) else
    if lbl = 5 then (if (10079 : Int32) < x2 then (some (((-1) : Int32), h)) else (gd ((a0 < ea_n h ∧ ea_c h a0 = 2)) (gd ((a0 < ea_n h ∧ ea_c h a0 = 2)) (gd ((a0 < ea_n h ∧ ea_c h a0 = 2)) (gd ((okX2_mayShow b0 a0 ((x2 - (ea_i h a0 0)) : Int32) ((x1 - (ea_i h a0 0)) : Int32) h)) (ea_let (wX2_mayShow b0 a0 ((x2 - (ea_i h a0 0)) : Int32) ((x1 - (ea_i h a0 0)) : Int32) h) fun H7 => (if (vX2_mayShow b0 a0 ((x2 - (ea_i h a0 0)) : Int32) ((x1 - (ea_i h a0 0)) : Int32) h) = (0 : Int32) then (gX2_least b0 a0 f 5 (x1 : Int32) ((x2 + (1 : Int32)) : Int32) H7) else (some (x2, H7))))))))) else none
theorem tX2_least {d : Nat} {b0 : Nat} {a0 : Nat} {h0 : ea_H} (hd : 3 ≤ d) : ∀ (f lbl : Nat) (x1 : Int32) (x2 : Int32) (h : ea_H) (r : Int32) (h' : ea_H), gX2_least b0 a0 f lbl x1 x2 h = some (r, h') → ShC b0 h → (lbl = 0 → ea_W mX2_least d h0 (some (vI r)) h' 0 [(0, vR (some a0)), (1, vI x1)] [] h) ∧ (lbl = 5 → ea_W mX2_least d h0 (some (vI r)) h' 5 [(0, vR (some a0)), (1, vI x1), (2, vI x2)] [] h) := by
  intro f
  induction f with
  | zero => intro lbl x1 x2 h r h' E; cases E
  | succ f ih =>
    intro lbl x1 x2 h r h' E hs
    unfold gX2_least at E
    refine ⟨?_, ?_⟩
    · intro el
      subst el
      have E := (if_pos rfl).symm.trans E
      refine ea_aload_n (pc := 0) dX2_least_0 rfl 0 rfl ?_
      obtain ⟨f1, E⟩ := gd_some E
      refine ea_getI (pc := 1) dX2_least_1 ec_2 (k := 0) (Nat.le_of_ble_eq_true rfl) rfl (Or.inl ew_424) f1.1 f1.2 ?_
      refine ea_istore_n (pc := 4) (lv' := [(0, vR (some a0)), (1, vI x1), (2, vI (ea_i h a0 0))]) dX2_least_4 rfl (Nat.le_of_ble_eq_true rfl) [1, 2, 0] rfl ?_
      exact ((ih 5 (x1 : Int32) ((ea_i h a0 0) : Int32) h _ _ E hs).2 rfl)
    intro el
    subst el
    have E := (if_neg (by decide)).symm.trans E
    have E := (if_pos rfl).symm.trans E
    refine ea_iload_n (pc := 5) dX2_least_5 rfl 2 rfl ?_
    refine ea_sipush (pc := 6) dX2_least_6 (v := 10079) rfl ?_
    refine ea_icmp_gt (pc := 9) (tgt := 39) dX2_least_9 rfl (fun c9 => ?_) (fun c9 => ?_)
    · have E := (if_pos c9).symm.trans E
      refine ea_iconst (pc := 39) dX2_least_39 (v := (-1)) rfl ?_
      exact ea_iretO (pc := 40) dX2_least_40 rfl rfl E
    · have E := (if_neg c9).symm.trans E
      refine ea_aload_n (pc := 12) dX2_least_12 rfl 0 rfl ?_
      refine ea_iload_n (pc := 13) dX2_least_13 rfl 2 rfl ?_
      refine ea_aload_n (pc := 14) dX2_least_14 rfl 0 rfl ?_
      obtain ⟨f2, E⟩ := gd_some E
      refine ea_getI (pc := 15) dX2_least_15 ec_2 (k := 0) (Nat.le_of_ble_eq_true rfl) rfl (Or.inl ew_424) f2.1 f2.2 ?_
      refine ea_isub (pc := 18) dX2_least_18 ?_
      refine ea_iload_n (pc := 19) dX2_least_19 rfl 1 rfl ?_
      refine ea_aload_n (pc := 20) dX2_least_20 rfl 0 rfl ?_
      obtain ⟨f3, E⟩ := gd_some E
      refine ea_getI (pc := 21) dX2_least_21 ec_2 (k := 0) (Nat.le_of_ble_eq_true rfl) rfl (Or.inl ew_424) f3.1 f3.2 ?_
      refine ea_isub (pc := 24) dX2_least_24 ?_
      obtain ⟨f4, E⟩ := gd_some E
      obtain ⟨z5, E⟩ := gd_some E
      refine ea_callV (pc := 25) (d' := d - 1) (As := [vI (x2 - (ea_i h a0 0)), vI (x1 - (ea_i h a0 0))]) (st := []) dX2_least_25 kX2_mayShow (sX2_mayShow (d := d - 1) (by omega) hs z5) (by omega) rfl (Nat.le_of_ble_eq_true rfl) ew_1299 ew_1301 ew_44 (ci := 2) rfl (by decide) f4.1 f4.2 ?_
      have hs6 : ShC b0 (wX2_mayShow b0 a0 ((x2 - (ea_i h a0 0)) : Int32) ((x1 - (ea_i h a0 0)) : Int32) h) := shX2_mayShow hs
      obtain ⟨H7, eH7, E⟩ := let_some E
      refine ea_nm eH7 ?_
      have hsH7 : ShC b0 H7 := by rw [eH7]; exact hs6
      refine ea_if_eq (pc := 28) (tgt := 33) dX2_least_28 rfl (fun c8 => ?_) (fun c8 => ?_)
      · have E := (if_pos c8).symm.trans E
        refine ea_iinc (pc := 33) (v := 1) (lv' := [(0, vR (some a0)), (1, vI x1), (2, vI (x2 + (1 : Int32)))]) dX2_least_33 2 rfl rfl (Nat.le_of_ble_eq_true rfl) [1, 2, 0] rfl ?_
        refine ea_goto (pc := 36) (tgt := 5) dX2_least_36 rfl ?_
        exact ((ih 5 (x1 : Int32) ((x2 + (1 : Int32)) : Int32) H7 _ _ E hsH7).2 rfl)
      · have E := (if_neg c8).symm.trans E
        refine ea_iload_n (pc := 31) dX2_least_31 rfl 2 rfl ?_
        exact ea_iretO (pc := 32) dX2_least_32 rfl rfl E
noncomputable def qX2_least (b0 : Nat) (a0 : Nat) (x1 : Int32) (h : ea_H) : Option (Int32 × ea_H) := gX2_least b0 a0 1000000000 0 x1 0 h
def okX2_least (b0 : Nat) (a0 : Nat) (x1 : Int32) (h : ea_H) : Prop := ∃ x, qX2_least b0 a0 x1 h = some x
noncomputable def vX2_least (b0 : Nat) (a0 : Nat) (x1 : Int32) (h : ea_H) : Int32 := ((qX2_least b0 a0 x1 h).getD (0, h)).1
noncomputable def wX2_least (b0 : Nat) (a0 : Nat) (x1 : Int32) (h : ea_H) : ea_H := ((qX2_least b0 a0 x1 h).getD (0, h)).2
theorem sX2_least {d : Nat} {b0 : Nat} {a0 : Nat} {x1 : Int32} {h : ea_H} (hd : 3 ≤ d) (hs : ShC b0 h) (K : okX2_least b0 a0 x1 h) : ea_Met mX2_least d [vR (some a0), vI x1] h (some (vI (vX2_least b0 a0 x1 h))) (wX2_least b0 a0 x1 h) := by
  obtain ⟨⟨x, y⟩, K⟩ := K
  unfold wX2_least vX2_least
  rw [K]
  unfold qX2_least at K
  exact ea_enter rfl (Nat.le_of_ble_eq_true rfl) ((tX2_least hd 1000000000 0 x1 0 h x y K hs).1 rfl)
theorem zX2_least {b0 : Nat} {a0 : Nat} : ∀ (f lbl : Nat) (x1 : Int32) (x2 : Int32) (h : ea_H) (r : Int32) (h' : ea_H), gX2_least b0 a0 f lbl x1 x2 h = some (r, h') → ShC b0 h → ShC b0 h' := by
  intro f
  induction f with
  | zero => intro lbl x1 x2 h r h' E; cases E
  | succ f ih =>
    intro lbl x1 x2 h r h' E hs
    unfold gX2_least at E
    by_cases el0 : lbl = 0
    · have E := (if_pos el0).symm.trans E
      obtain ⟨f1, E⟩ := gd_some E
      exact ih 5 (x1 : Int32) ((ea_i h a0 0) : Int32) h _ _ E hs
    have E := (if_neg el0).symm.trans E
    by_cases el1 : lbl = 5
    · have E := (if_pos el1).symm.trans E
      by_cases c9 : (10079 : Int32) < x2
      · have E := (if_pos c9).symm.trans E
        exact ea_shO E hs
      have E := (if_neg c9).symm.trans E
      obtain ⟨f2, E⟩ := gd_some E
      obtain ⟨f3, E⟩ := gd_some E
      obtain ⟨f4, E⟩ := gd_some E
      obtain ⟨z5, E⟩ := gd_some E
      obtain ⟨H7, eH7, E⟩ := let_some E
      have hsH7 : ShC b0 H7 := by rw [eH7]; exact (shX2_mayShow hs)
      by_cases c8 : (vX2_mayShow b0 a0 ((x2 - (ea_i h a0 0)) : Int32) ((x1 - (ea_i h a0 0)) : Int32) h) = (0 : Int32)
      · have E := (if_pos c8).symm.trans E
        exact ih 5 (x1 : Int32) ((x2 + (1 : Int32)) : Int32) H7 _ _ E hsH7
      have E := (if_neg c8).symm.trans E
      exact ea_shO E hsH7
    have E := (if_neg el1).symm.trans E
    cases E
theorem shX2_least {b0 : Nat} {a0 : Nat} {x1 : Int32} {h : ea_H} (hs : ShC b0 h) : ShC b0 (wX2_least b0 a0 x1 h) := by
  unfold wX2_least
  cases K : qX2_least b0 a0 x1 h with
  | none => exact hs
  | some x => obtain ⟨x, y⟩ := x; unfold qX2_least at K; exact zX2_least _ _ _ _ _ _ _ K hs
noncomputable def gX2_greatest (b0 : Nat) (a0 : Nat) : Nat → Nat → Int32 → Int32 → ea_H → Option (Int32 × ea_H)
  | 0, _, _, _, _ => none
  | f + 1, lbl, x1, x2, h =>
    if lbl = 0 then (gX2_greatest b0 a0 f 4 (x1 : Int32) (10079 : Int32) h) else
    if lbl = 4 then (gd ((a0 < ea_n h ∧ ea_c h a0 = 2)) (if x2 < (ea_i h a0 0) then (some (((-1) : Int32), h)) else (gd ((a0 < ea_n h ∧ ea_c h a0 = 2)) (gd ((a0 < ea_n h ∧ ea_c h a0 = 2)) (gd ((a0 < ea_n h ∧ ea_c h a0 = 2)) (gd ((okX2_mayShow b0 a0 ((x2 - (ea_i h a0 0)) : Int32) ((x1 - (ea_i h a0 0)) : Int32) h)) (ea_let (wX2_mayShow b0 a0 ((x2 - (ea_i h a0 0)) : Int32) ((x1 - (ea_i h a0 0)) : Int32) h) fun H7 => (if (vX2_mayShow b0 a0 ((x2 - (ea_i h a0 0)) : Int32) ((x1 - (ea_i h a0 0)) : Int32) h) = (0 : Int32) then (gX2_greatest b0 a0 f 4 (x1 : Int32) ((x2 + ((-1) : Int32)) : Int32) H7) else (some (x2, H7)))))))))) else none
theorem tX2_greatest {d : Nat} {b0 : Nat} {a0 : Nat} {h0 : ea_H} (hd : 3 ≤ d) : ∀ (f lbl : Nat) (x1 : Int32) (x2 : Int32) (h : ea_H) (r : Int32) (h' : ea_H), gX2_greatest b0 a0 f lbl x1 x2 h = some (r, h') → ShC b0 h → (lbl = 0 → ea_W mX2_greatest d h0 (some (vI r)) h' 0 [(0, vR (some a0)), (1, vI x1)] [] h) ∧ (lbl = 4 → ea_W mX2_greatest d h0 (some (vI r)) h' 4 [(0, vR (some a0)), (1, vI x1), (2, vI x2)] [] h) := by
  intro f
  induction f with
  | zero => intro lbl x1 x2 h r h' E; cases E
  | succ f ih =>
    intro lbl x1 x2 h r h' E hs
    unfold gX2_greatest at E
    refine ⟨?_, ?_⟩
    · intro el
      subst el
      have E := (if_pos rfl).symm.trans E
      refine ea_sipush (pc := 0) dX2_greatest_0 (v := 10079) rfl ?_
      refine ea_istore_n (pc := 3) (lv' := [(0, vR (some a0)), (1, vI x1), (2, vI 10079)]) dX2_greatest_3 rfl (Nat.le_of_ble_eq_true rfl) [1, 2, 0] rfl ?_
      exact ((ih 4 (x1 : Int32) (10079 : Int32) h _ _ E hs).2 rfl)
    intro el
    subst el
    have E := (if_neg (by decide)).symm.trans E
    have E := (if_pos rfl).symm.trans E
    refine ea_iload_n (pc := 4) dX2_greatest_4 rfl 2 rfl ?_
    refine ea_aload_n (pc := 5) dX2_greatest_5 rfl 0 rfl ?_
    obtain ⟨f1, E⟩ := gd_some E
    refine ea_getI (pc := 6) dX2_greatest_6 ec_2 (k := 0) (Nat.le_of_ble_eq_true rfl) rfl (Or.inl ew_424) f1.1 f1.2 ?_
    refine ea_icmp_lt (pc := 9) (tgt := 39) dX2_greatest_9 rfl (fun c9 => ?_) (fun c9 => ?_)
    · have E := (if_pos c9).symm.trans E
      refine ea_iconst (pc := 39) dX2_greatest_39 (v := (-1)) rfl ?_
      exact ea_iretO (pc := 40) dX2_greatest_40 rfl rfl E
    · have E := (if_neg c9).symm.trans E
      refine ea_aload_n (pc := 12) dX2_greatest_12 rfl 0 rfl ?_
      refine ea_iload_n (pc := 13) dX2_greatest_13 rfl 2 rfl ?_
      refine ea_aload_n (pc := 14) dX2_greatest_14 rfl 0 rfl ?_
      obtain ⟨f2, E⟩ := gd_some E
      refine ea_getI (pc := 15) dX2_greatest_15 ec_2 (k := 0) (Nat.le_of_ble_eq_true rfl) rfl (Or.inl ew_424) f2.1 f2.2 ?_
      refine ea_isub (pc := 18) dX2_greatest_18 ?_
      refine ea_iload_n (pc := 19) dX2_greatest_19 rfl 1 rfl ?_
      refine ea_aload_n (pc := 20) dX2_greatest_20 rfl 0 rfl ?_
      obtain ⟨f3, E⟩ := gd_some E
      refine ea_getI (pc := 21) dX2_greatest_21 ec_2 (k := 0) (Nat.le_of_ble_eq_true rfl) rfl (Or.inl ew_424) f3.1 f3.2 ?_
      refine ea_isub (pc := 24) dX2_greatest_24 ?_
      obtain ⟨f4, E⟩ := gd_some E
      obtain ⟨z5, E⟩ := gd_some E
      refine ea_callV (pc := 25) (d' := d - 1) (As := [vI (x2 - (ea_i h a0 0)), vI (x1 - (ea_i h a0 0))]) (st := []) dX2_greatest_25 kX2_mayShow (sX2_mayShow (d := d - 1) (by omega) hs z5) (by omega) rfl (Nat.le_of_ble_eq_true rfl) ew_1299 ew_1301 ew_44 (ci := 2) rfl (by decide) f4.1 f4.2 ?_
      have hs6 : ShC b0 (wX2_mayShow b0 a0 ((x2 - (ea_i h a0 0)) : Int32) ((x1 - (ea_i h a0 0)) : Int32) h) := shX2_mayShow hs
      obtain ⟨H7, eH7, E⟩ := let_some E
      refine ea_nm eH7 ?_
      have hsH7 : ShC b0 H7 := by rw [eH7]; exact hs6
      refine ea_if_eq (pc := 28) (tgt := 33) dX2_greatest_28 rfl (fun c8 => ?_) (fun c8 => ?_)
      · have E := (if_pos c8).symm.trans E
        refine ea_iinc (pc := 33) (v := (-1)) (lv' := [(0, vR (some a0)), (1, vI x1), (2, vI (x2 + ((-1) : Int32)))]) dX2_greatest_33 2 rfl rfl (Nat.le_of_ble_eq_true rfl) [1, 2, 0] rfl ?_
        refine ea_goto (pc := 36) (tgt := 4) dX2_greatest_36 rfl ?_
        exact ((ih 4 (x1 : Int32) ((x2 + ((-1) : Int32)) : Int32) H7 _ _ E hsH7).2 rfl)
      · have E := (if_neg c8).symm.trans E
        refine ea_iload_n (pc := 31) dX2_greatest_31 rfl 2 rfl ?_
        exact ea_iretO (pc := 32) dX2_greatest_32 rfl rfl E
noncomputable def qX2_greatest (b0 : Nat) (a0 : Nat) (x1 : Int32) (h : ea_H) : Option (Int32 × ea_H) := gX2_greatest b0 a0 1000000000 0 x1 0 h
def okX2_greatest (b0 : Nat) (a0 : Nat) (x1 : Int32) (h : ea_H) : Prop := ∃ x, qX2_greatest b0 a0 x1 h = some x
noncomputable def vX2_greatest (b0 : Nat) (a0 : Nat) (x1 : Int32) (h : ea_H) : Int32 := ((qX2_greatest b0 a0 x1 h).getD (0, h)).1
noncomputable def wX2_greatest (b0 : Nat) (a0 : Nat) (x1 : Int32) (h : ea_H) : ea_H := ((qX2_greatest b0 a0 x1 h).getD (0, h)).2
theorem sX2_greatest {d : Nat} {b0 : Nat} {a0 : Nat} {x1 : Int32} {h : ea_H} (hd : 3 ≤ d) (hs : ShC b0 h) (K : okX2_greatest b0 a0 x1 h) : ea_Met mX2_greatest d [vR (some a0), vI x1] h (some (vI (vX2_greatest b0 a0 x1 h))) (wX2_greatest b0 a0 x1 h) := by
  obtain ⟨⟨x, y⟩, K⟩ := K
  unfold wX2_greatest vX2_greatest
  rw [K]
  unfold qX2_greatest at K
  exact ea_enter rfl (Nat.le_of_ble_eq_true rfl) ((tX2_greatest hd 1000000000 0 x1 0 h x y K hs).1 rfl)
theorem zX2_greatest {b0 : Nat} {a0 : Nat} : ∀ (f lbl : Nat) (x1 : Int32) (x2 : Int32) (h : ea_H) (r : Int32) (h' : ea_H), gX2_greatest b0 a0 f lbl x1 x2 h = some (r, h') → ShC b0 h → ShC b0 h' := by
  intro f
  induction f with
  | zero => intro lbl x1 x2 h r h' E; cases E
  | succ f ih =>
    intro lbl x1 x2 h r h' E hs
    unfold gX2_greatest at E
    by_cases el0 : lbl = 0
    · have E := (if_pos el0).symm.trans E
      exact ih 4 (x1 : Int32) (10079 : Int32) h _ _ E hs
    have E := (if_neg el0).symm.trans E
    by_cases el1 : lbl = 4
    · have E := (if_pos el1).symm.trans E
      obtain ⟨f1, E⟩ := gd_some E
      by_cases c9 : x2 < (ea_i h a0 0)
      · have E := (if_pos c9).symm.trans E
        exact ea_shO E hs
      have E := (if_neg c9).symm.trans E
      obtain ⟨f2, E⟩ := gd_some E
      obtain ⟨f3, E⟩ := gd_some E
      obtain ⟨f4, E⟩ := gd_some E
      obtain ⟨z5, E⟩ := gd_some E
      obtain ⟨H7, eH7, E⟩ := let_some E
      have hsH7 : ShC b0 H7 := by rw [eH7]; exact (shX2_mayShow hs)
      by_cases c8 : (vX2_mayShow b0 a0 ((x2 - (ea_i h a0 0)) : Int32) ((x1 - (ea_i h a0 0)) : Int32) h) = (0 : Int32)
      · have E := (if_pos c8).symm.trans E
        exact ih 4 (x1 : Int32) ((x2 + ((-1) : Int32)) : Int32) H7 _ _ E hsH7
      have E := (if_neg c8).symm.trans E
      exact ea_shO E hsH7
    have E := (if_neg el1).symm.trans E
    cases E
theorem shX2_greatest {b0 : Nat} {a0 : Nat} {x1 : Int32} {h : ea_H} (hs : ShC b0 h) : ShC b0 (wX2_greatest b0 a0 x1 h) := by
  unfold wX2_greatest
  cases K : qX2_greatest b0 a0 x1 h with
  | none => exact hs
  | some x => obtain ⟨x, y⟩ := x; unfold qX2_greatest at K; exact zX2_greatest _ _ _ _ _ _ _ K hs
noncomputable def gX3_sitsIn (b0 : Nat) : Nat → Nat → Int32 → Int32 → ea_H → Option (Int32 × ea_H)
  | 0, _, _, _, _ => none
  | f + 1, lbl, x1, x2, h =>
    if lbl = 0 then (gX3_sitsIn b0 f 2 (x1 : Int32) (0 : Int32) h) else
    if lbl = 2 then (if (ea_i h (b0 + 16) 0) ≤ x2 then (some ((0 : Int32), h)) else (gd (vp_in x2 8) (if (ea_i h (b0 + 17) (Int32.toNatClampNeg x2)) = x1 then (some ((1 : Int32), h)) else (gX3_sitsIn b0 f 2 (x1 : Int32) ((x2 + (1 : Int32)) : Int32) h)))) else none
theorem tX3_sitsIn {d : Nat} {b0 : Nat} {h0 : ea_H} (hd : 1 ≤ d) : ∀ (f lbl : Nat) (x1 : Int32) (x2 : Int32) (h : ea_H) (r : Int32) (h' : ea_H), gX3_sitsIn b0 f lbl x1 x2 h = some (r, h') → ShC b0 h → (lbl = 0 → ea_W mX3_sitsIn d h0 (some (vI r)) h' 0 [(0, vR (some (b0 + 16))), (1, vI x1)] [] h) ∧ (lbl = 2 → ea_W mX3_sitsIn d h0 (some (vI r)) h' 2 [(0, vR (some (b0 + 16))), (1, vI x1), (2, vI x2)] [] h) := by
  intro f
  induction f with
  | zero => intro lbl x1 x2 h r h' E; cases E
  | succ f ih =>
    intro lbl x1 x2 h r h' E hs
    unfold gX3_sitsIn at E
    refine ⟨?_, ?_⟩
    · intro el
      subst el
      have E := (if_pos rfl).symm.trans E
      refine ea_iconst (pc := 0) dX3_sitsIn_0 (v := 0) rfl ?_
      refine ea_istore_n (pc := 1) (lv' := [(0, vR (some (b0 + 16))), (1, vI x1), (2, vI 0)]) dX3_sitsIn_1 rfl (Nat.le_of_ble_eq_true rfl) [1, 2, 0] rfl ?_
      exact ((ih 2 (x1 : Int32) (0 : Int32) h _ _ E hs).2 rfl)
    intro el
    subst el
    have E := (if_neg (by decide)).symm.trans E
    have E := (if_pos rfl).symm.trans E
    refine ea_iload_n (pc := 2) dX3_sitsIn_2 rfl 2 rfl ?_
    refine ea_aload_n (pc := 3) dX3_sitsIn_3 rfl 0 rfl ?_
    refine ea_getI (pc := 4) dX3_sitsIn_4 ec_3 (k := 0) (Nat.le_of_ble_eq_true rfl) rfl (Or.inl ew_261) (hs.1 16 (by decide)).1 (hs.1 16 (by decide)).2.1 ?_
    refine ea_icmp_ge (pc := 7) (tgt := 28) dX3_sitsIn_7 rfl (fun c3 => ?_) (fun c3 => ?_)
    · have E := (if_pos c3).symm.trans E
      refine ea_iconst (pc := 28) dX3_sitsIn_28 (v := 0) rfl ?_
      exact ea_iretO (pc := 29) dX3_sitsIn_29 rfl (ea_bn (Or.inl rfl)) E
    · have E := (if_neg c3).symm.trans E
      refine ea_aload_n (pc := 10) dX3_sitsIn_10 rfl 0 rfl ?_
      refine ea_getR (pc := 11) dX3_sitsIn_11 ec_3 (k := 1) (Nat.le_of_ble_eq_true rfl) rfl (Or.inl ew_263) (hs.1 16 (by decide)).1 (hs.1 16 (by decide)).2.1 (hs.2 16 1 rfl) ?_
      refine ea_iload_n (pc := 14) dX3_sitsIn_14 rfl 2 rfl ?_
      obtain ⟨z1, E⟩ := gd_some E
      refine ea_iald (pc := 15) dX3_sitsIn_15 (hs.1 17 (by decide)).1 (hs.1 17 (by decide)).2.1 (ea_vpl (hs.1 17 (by decide)).2.2 z1) ?_
      refine ea_iload_n (pc := 16) dX3_sitsIn_16 rfl 1 rfl ?_
      refine ea_icmp_ne (pc := 17) (tgt := 22) dX3_sitsIn_17 rfl (fun c2 => ?_) (fun c2 => ?_)
      · have E := (if_neg c2).symm.trans E
        refine ea_iinc (pc := 22) (v := 1) (lv' := [(0, vR (some (b0 + 16))), (1, vI x1), (2, vI (x2 + (1 : Int32)))]) dX3_sitsIn_22 2 rfl rfl (Nat.le_of_ble_eq_true rfl) [1, 2, 0] rfl ?_
        refine ea_goto (pc := 25) (tgt := 2) dX3_sitsIn_25 rfl ?_
        exact ((ih 2 (x1 : Int32) ((x2 + (1 : Int32)) : Int32) h _ _ E hs).2 rfl)
      · have E := (if_pos c2).symm.trans E
        refine ea_iconst (pc := 20) dX3_sitsIn_20 (v := 1) rfl ?_
        exact ea_iretO (pc := 21) dX3_sitsIn_21 rfl (ea_bn (Or.inr rfl)) E
noncomputable def qX3_sitsIn (b0 : Nat) (x1 : Int32) (h : ea_H) : Option (Int32 × ea_H) := gX3_sitsIn b0 1000000000 0 x1 0 h
def okX3_sitsIn (b0 : Nat) (x1 : Int32) (h : ea_H) : Prop := ∃ x, qX3_sitsIn b0 x1 h = some x
noncomputable def vX3_sitsIn (b0 : Nat) (x1 : Int32) (h : ea_H) : Int32 := ((qX3_sitsIn b0 x1 h).getD (0, h)).1
noncomputable def wX3_sitsIn (b0 : Nat) (x1 : Int32) (h : ea_H) : ea_H := ((qX3_sitsIn b0 x1 h).getD (0, h)).2
theorem sX3_sitsIn {d : Nat} {b0 : Nat} {x1 : Int32} {h : ea_H} (hd : 1 ≤ d) (hs : ShC b0 h) (K : okX3_sitsIn b0 x1 h) : ea_Met mX3_sitsIn d [vR (some (b0 + 16)), vI x1] h (some (vI (vX3_sitsIn b0 x1 h))) (wX3_sitsIn b0 x1 h) := by
  obtain ⟨⟨x, y⟩, K⟩ := K
  unfold wX3_sitsIn vX3_sitsIn
  rw [K]
  unfold qX3_sitsIn at K
  exact ea_enter rfl (Nat.le_of_ble_eq_true rfl) ((tX3_sitsIn hd 1000000000 0 x1 0 h x y K hs).1 rfl)
theorem zX3_sitsIn {b0 : Nat} : ∀ (f lbl : Nat) (x1 : Int32) (x2 : Int32) (h : ea_H) (r : Int32) (h' : ea_H), gX3_sitsIn b0 f lbl x1 x2 h = some (r, h') → ShC b0 h → ShC b0 h' := by
  intro f
  induction f with
  | zero => intro lbl x1 x2 h r h' E; cases E
  | succ f ih =>
    intro lbl x1 x2 h r h' E hs
    unfold gX3_sitsIn at E
    by_cases el0 : lbl = 0
    · have E := (if_pos el0).symm.trans E
      exact ih 2 (x1 : Int32) (0 : Int32) h _ _ E hs
    have E := (if_neg el0).symm.trans E
    by_cases el1 : lbl = 2
    · have E := (if_pos el1).symm.trans E
      by_cases c3 : (ea_i h (b0 + 16) 0) ≤ x2
      · have E := (if_pos c3).symm.trans E
        exact ea_shO E hs
      have E := (if_neg c3).symm.trans E
      obtain ⟨z1, E⟩ := gd_some E
      by_cases c2 : (ea_i h (b0 + 17) (Int32.toNatClampNeg x2)) = x1
      · have E := (if_pos c2).symm.trans E
        exact ea_shO E hs
      have E := (if_neg c2).symm.trans E
      exact ih 2 (x1 : Int32) ((x2 + (1 : Int32)) : Int32) h _ _ E hs
    have E := (if_neg el1).symm.trans E
    cases E
theorem shX3_sitsIn {b0 : Nat} {x1 : Int32} {h : ea_H} (hs : ShC b0 h) : ShC b0 (wX3_sitsIn b0 x1 h) := by
  unfold wX3_sitsIn
  cases K : qX3_sitsIn b0 x1 h with
  | none => exact hs
  | some x => obtain ⟨x, y⟩ := x; unfold qX3_sitsIn at K; exact zX3_sitsIn _ _ _ _ _ _ _ K hs
noncomputable def gX3_begin (b0 : Nat) : Nat → Nat → Int32 → Int32 → ea_H → Option (Unit × ea_H)
  | 0, _, _, _, _ => none
  | f + 1, lbl, x1, x2, h =>
    if lbl = 0 then (gX3_begin b0 f 2 (x1 : Int32) (0 : Int32) h) else
    if lbl = 2 then (if (ea_i h (b0 + 16) 0) ≤ x2 then (some ((), h)) else (gd (vp_in x2 8) (gd (vp_in x2 8) (ea_let (ea_wi h (b0 + 20) (Int32.toNatClampNeg x2) ((ea_i h (b0 + 18) (Int32.toNatClampNeg x2)) * x1)) fun H4 => (gX3_begin b0 f 2 (x1 : Int32) ((x2 + (1 : Int32)) : Int32) H4))))) else none
theorem tX3_begin {d : Nat} {b0 : Nat} {h0 : ea_H} (hd : 1 ≤ d) : ∀ (f lbl : Nat) (x1 : Int32) (x2 : Int32) (h : ea_H) (r : Unit) (h' : ea_H), gX3_begin b0 f lbl x1 x2 h = some (r, h') → ShC b0 h → (lbl = 0 → ea_W mX3_begin d h0 none h' 0 [(0, vR (some (b0 + 16))), (1, vI x1)] [] h) ∧ (lbl = 2 → ea_W mX3_begin d h0 none h' 2 [(0, vR (some (b0 + 16))), (1, vI x1), (2, vI x2)] [] h) := by
  intro f
  induction f with
  | zero => intro lbl x1 x2 h r h' E; cases E
  | succ f ih =>
    intro lbl x1 x2 h r h' E hs
    unfold gX3_begin at E
    refine ⟨?_, ?_⟩
    · intro el
      subst el
      have E := (if_pos rfl).symm.trans E
      refine ea_iconst (pc := 0) dX3_begin_0 (v := 0) rfl ?_
      refine ea_istore_n (pc := 1) (lv' := [(0, vR (some (b0 + 16))), (1, vI x1), (2, vI 0)]) dX3_begin_1 rfl (Nat.le_of_ble_eq_true rfl) [1, 2, 0] rfl ?_
      exact ((ih 2 (x1 : Int32) (0 : Int32) h _ _ E hs).2 rfl)
    intro el
    subst el
    have E := (if_neg (by decide)).symm.trans E
    have E := (if_pos rfl).symm.trans E
    refine ea_iload_n (pc := 2) dX3_begin_2 rfl 2 rfl ?_
    refine ea_aload_n (pc := 3) dX3_begin_3 rfl 0 rfl ?_
    refine ea_getI (pc := 4) dX3_begin_4 ec_3 (k := 0) (Nat.le_of_ble_eq_true rfl) rfl (Or.inl ew_261) (hs.1 16 (by decide)).1 (hs.1 16 (by decide)).2.1 ?_
    refine ea_icmp_ge (pc := 7) (tgt := 30) dX3_begin_7 rfl (fun c5 => ?_) (fun c5 => ?_)
    · have E := (if_pos c5).symm.trans E
      exact ea_vretO (pc := 30) dX3_begin_30 rfl E
    · have E := (if_neg c5).symm.trans E
      refine ea_aload_n (pc := 10) dX3_begin_10 rfl 0 rfl ?_
      refine ea_getR (pc := 11) dX3_begin_11 ec_3 (k := 4) (Nat.le_of_ble_eq_true rfl) rfl (Or.inl ew_267) (hs.1 16 (by decide)).1 (hs.1 16 (by decide)).2.1 (hs.2 16 4 rfl) ?_
      refine ea_iload_n (pc := 14) dX3_begin_14 rfl 2 rfl ?_
      refine ea_aload_n (pc := 15) dX3_begin_15 rfl 0 rfl ?_
      refine ea_getR (pc := 16) dX3_begin_16 ec_3 (k := 2) (Nat.le_of_ble_eq_true rfl) rfl (Or.inl ew_265) (hs.1 16 (by decide)).1 (hs.1 16 (by decide)).2.1 (hs.2 16 2 rfl) ?_
      refine ea_iload_n (pc := 19) dX3_begin_19 rfl 2 rfl ?_
      obtain ⟨z1, E⟩ := gd_some E
      refine ea_iald (pc := 20) dX3_begin_20 (hs.1 18 (by decide)).1 (hs.1 18 (by decide)).2.1 (ea_vpl (hs.1 18 (by decide)).2.2 z1) ?_
      refine ea_iload_n (pc := 21) dX3_begin_21 rfl 1 rfl ?_
      refine ea_imul (pc := 22) dX3_begin_22 ?_
      obtain ⟨z2, E⟩ := gd_some E
      refine ea_iast (pc := 23) dX3_begin_23 (hs.1 20 (by decide)).1 (hs.1 20 (by decide)).2.1 (ea_vpl (hs.1 20 (by decide)).2.2 z2) ?_
      have hs3 : ShC b0 (ea_wi h (b0 + 20) (Int32.toNatClampNeg x2) ((ea_i h (b0 + 18) (Int32.toNatClampNeg x2)) * x1)) := ShC_wi hs
      obtain ⟨H4, eH4, E⟩ := let_some E
      refine ea_nm eH4 ?_
      have hsH4 : ShC b0 H4 := by rw [eH4]; exact hs3
      refine ea_iinc (pc := 24) (v := 1) (lv' := [(0, vR (some (b0 + 16))), (1, vI x1), (2, vI (x2 + (1 : Int32)))]) dX3_begin_24 2 rfl rfl (Nat.le_of_ble_eq_true rfl) [1, 2, 0] rfl ?_
      refine ea_goto (pc := 27) (tgt := 2) dX3_begin_27 rfl ?_
      exact ((ih 2 (x1 : Int32) ((x2 + (1 : Int32)) : Int32) H4 _ _ E hsH4).2 rfl)
noncomputable def qX3_begin (b0 : Nat) (x1 : Int32) (h : ea_H) : Option (Unit × ea_H) := gX3_begin b0 1000000000 0 x1 0 h
def okX3_begin (b0 : Nat) (x1 : Int32) (h : ea_H) : Prop := ∃ x, qX3_begin b0 x1 h = some x
noncomputable def wX3_begin (b0 : Nat) (x1 : Int32) (h : ea_H) : ea_H := ((qX3_begin b0 x1 h).getD ((), h)).2
theorem sX3_begin {d : Nat} {b0 : Nat} {x1 : Int32} {h : ea_H} (hd : 1 ≤ d) (hs : ShC b0 h) (K : okX3_begin b0 x1 h) : ea_Met mX3_begin d [vR (some (b0 + 16)), vI x1] h none (wX3_begin b0 x1 h) := by
  obtain ⟨⟨x, y⟩, K⟩ := K
  unfold wX3_begin
  rw [K]
  unfold qX3_begin at K
  exact ea_enter rfl (Nat.le_of_ble_eq_true rfl) ((tX3_begin hd 1000000000 0 x1 0 h x y K hs).1 rfl)
theorem zX3_begin {b0 : Nat} : ∀ (f lbl : Nat) (x1 : Int32) (x2 : Int32) (h : ea_H) (r : Unit) (h' : ea_H), gX3_begin b0 f lbl x1 x2 h = some (r, h') → ShC b0 h → ShC b0 h' := by
  intro f
  induction f with
  | zero => intro lbl x1 x2 h r h' E; cases E
  | succ f ih =>
    intro lbl x1 x2 h r h' E hs
    unfold gX3_begin at E
    by_cases el0 : lbl = 0
    · have E := (if_pos el0).symm.trans E
      exact ih 2 (x1 : Int32) (0 : Int32) h _ _ E hs
    have E := (if_neg el0).symm.trans E
    by_cases el1 : lbl = 2
    · have E := (if_pos el1).symm.trans E
      by_cases c5 : (ea_i h (b0 + 16) 0) ≤ x2
      · have E := (if_pos c5).symm.trans E
        exact ea_shO E hs
      have E := (if_neg c5).symm.trans E
      obtain ⟨z1, E⟩ := gd_some E
      obtain ⟨z2, E⟩ := gd_some E
      obtain ⟨H4, eH4, E⟩ := let_some E
      have hsH4 : ShC b0 H4 := by rw [eH4]; exact (ShC_wi hs)
      exact ih 2 (x1 : Int32) ((x2 + (1 : Int32)) : Int32) H4 _ _ E hsH4
    have E := (if_neg el1).symm.trans E
    cases E
theorem shX3_begin {b0 : Nat} {x1 : Int32} {h : ea_H} (hs : ShC b0 h) : ShC b0 (wX3_begin b0 x1 h) := by
  unfold wX3_begin
  cases K : qX3_begin b0 x1 h with
  | none => exact hs
  | some x => obtain ⟨x, y⟩ := x; unfold qX3_begin at K; exact zX3_begin _ _ _ _ _ _ _ K hs
noncomputable def gX3_sortsOne (b0 : Nat) : Nat → Nat → Int32 → Int32 → Int32 → ea_H → Option (Int32 × ea_H)
  | 0, _, _, _, _, _ => none
  | f + 1, lbl, x1, x2, x3, h =>
    if lbl = 0 then (gX3_sortsOne b0 f 2 (x1 : Int32) (x2 : Int32) (0 : Int32) h) else
    if lbl = 2 then (if (ea_i h (b0 + 16) 0) ≤ x3 then (some ((0 : Int32), h)) else (gd (vp_in x3 8) (if (ea_i h (b0 + 17) (Int32.toNatClampNeg x3)) = x1 then (gd (vp_in x3 8) (if (ea_i h (b0 + 20) (Int32.toNatClampNeg x3)) ≤ (0 : Int32) then (gX3_sortsOne b0 f 2 (x1 : Int32) (x2 : Int32) ((x3 + (1 : Int32)) : Int32) h) else (gd (vp_in x3 8) (if (((ea_i h (b0 + 19) (Int32.toNatClampNeg x3)) >>> (x2 &&& 31)) &&& (1 : Int32)) = (1 : Int32) then (gd (vp_in x3 8) (gd (vp_in x3 8) (ea_let (ea_wi h (b0 + 20) (Int32.toNatClampNeg x3) ((ea_i h (b0 + 20) (Int32.toNatClampNeg x3)) - (1 : Int32))) fun H7 => (some ((1 : Int32), H7))))) else (gX3_sortsOne b0 f 2 (x1 : Int32) (x2 : Int32) ((x3 + (1 : Int32)) : Int32) h))))) else (gX3_sortsOne b0 f 2 (x1 : Int32) (x2 : Int32) ((x3 + (1 : Int32)) : Int32) h)))) else none
theorem tX3_sortsOne {d : Nat} {b0 : Nat} {h0 : ea_H} (hd : 1 ≤ d) : ∀ (f lbl : Nat) (x1 : Int32) (x2 : Int32) (x3 : Int32) (h : ea_H) (r : Int32) (h' : ea_H), gX3_sortsOne b0 f lbl x1 x2 x3 h = some (r, h') → ShC b0 h → (lbl = 0 → ea_W mX3_sortsOne d h0 (some (vI r)) h' 0 [(0, vR (some (b0 + 16))), (1, vI x1), (2, vI x2)] [] h) ∧ (lbl = 2 → ea_W mX3_sortsOne d h0 (some (vI r)) h' 2 [(0, vR (some (b0 + 16))), (1, vI x1), (2, vI x2), (3, vI x3)] [] h) := by
  intro f
  induction f with
  | zero => intro lbl x1 x2 x3 h r h' E; cases E
  | succ f ih =>
    intro lbl x1 x2 x3 h r h' E hs
    unfold gX3_sortsOne at E
    refine ⟨?_, ?_⟩
    · intro el
      subst el
      have E := (if_pos rfl).symm.trans E
      refine ea_iconst (pc := 0) dX3_sortsOne_0 (v := 0) rfl ?_
      refine ea_istore_n (pc := 1) (lv' := [(0, vR (some (b0 + 16))), (1, vI x1), (2, vI x2), (3, vI 0)]) dX3_sortsOne_1 rfl (Nat.le_of_ble_eq_true rfl) [1, 2, 3, 0] rfl ?_
      exact ((ih 2 (x1 : Int32) (x2 : Int32) (0 : Int32) h _ _ E hs).2 rfl)
    intro el
    subst el
    have E := (if_neg (by decide)).symm.trans E
    have E := (if_pos rfl).symm.trans E
    refine ea_iload_n (pc := 2) dX3_sortsOne_2 rfl 3 rfl ?_
    refine ea_aload_n (pc := 3) dX3_sortsOne_3 rfl 0 rfl ?_
    refine ea_getI (pc := 4) dX3_sortsOne_4 ec_3 (k := 0) (Nat.le_of_ble_eq_true rfl) rfl (Or.inl ew_261) (hs.1 16 (by decide)).1 (hs.1 16 (by decide)).2.1 ?_
    refine ea_icmp_ge (pc := 7) (tgt := 61) dX3_sortsOne_7 rfl (fun c11 => ?_) (fun c11 => ?_)
    · have E := (if_pos c11).symm.trans E
      refine ea_iconst (pc := 61) dX3_sortsOne_61 (v := 0) rfl ?_
      exact ea_iretO (pc := 62) dX3_sortsOne_62 rfl (ea_bn (Or.inl rfl)) E
    · have E := (if_neg c11).symm.trans E
      refine ea_aload_n (pc := 10) dX3_sortsOne_10 rfl 0 rfl ?_
      refine ea_getR (pc := 11) dX3_sortsOne_11 ec_3 (k := 1) (Nat.le_of_ble_eq_true rfl) rfl (Or.inl ew_263) (hs.1 16 (by decide)).1 (hs.1 16 (by decide)).2.1 (hs.2 16 1 rfl) ?_
      refine ea_iload_n (pc := 14) dX3_sortsOne_14 rfl 3 rfl ?_
      obtain ⟨z1, E⟩ := gd_some E
      refine ea_iald (pc := 15) dX3_sortsOne_15 (hs.1 17 (by decide)).1 (hs.1 17 (by decide)).2.1 (ea_vpl (hs.1 17 (by decide)).2.2 z1) ?_
      refine ea_iload_n (pc := 16) dX3_sortsOne_16 rfl 1 rfl ?_
      refine ea_icmp_ne (pc := 17) (tgt := 55) dX3_sortsOne_17 rfl (fun c10 => ?_) (fun c10 => ?_)
      · have E := (if_neg c10).symm.trans E
        refine ea_iinc (pc := 55) (v := 1) (lv' := [(0, vR (some (b0 + 16))), (1, vI x1), (2, vI x2), (3, vI (x3 + (1 : Int32)))]) dX3_sortsOne_55 3 rfl rfl (Nat.le_of_ble_eq_true rfl) [1, 2, 3, 0] rfl ?_
        refine ea_goto (pc := 58) (tgt := 2) dX3_sortsOne_58 rfl ?_
        exact ((ih 2 (x1 : Int32) (x2 : Int32) ((x3 + (1 : Int32)) : Int32) h _ _ E hs).2 rfl)
      · have E := (if_pos c10).symm.trans E
        refine ea_aload_n (pc := 20) dX3_sortsOne_20 rfl 0 rfl ?_
        refine ea_getR (pc := 21) dX3_sortsOne_21 ec_3 (k := 4) (Nat.le_of_ble_eq_true rfl) rfl (Or.inl ew_267) (hs.1 16 (by decide)).1 (hs.1 16 (by decide)).2.1 (hs.2 16 4 rfl) ?_
        refine ea_iload_n (pc := 24) dX3_sortsOne_24 rfl 3 rfl ?_
        obtain ⟨z2, E⟩ := gd_some E
        refine ea_iald (pc := 25) dX3_sortsOne_25 (hs.1 20 (by decide)).1 (hs.1 20 (by decide)).2.1 (ea_vpl (hs.1 20 (by decide)).2.2 z2) ?_
        refine ea_if_le (pc := 26) (tgt := 55) dX3_sortsOne_26 rfl (fun c9 => ?_) (fun c9 => ?_)
        · have E := (if_pos c9).symm.trans E
          refine ea_iinc (pc := 55) (v := 1) (lv' := [(0, vR (some (b0 + 16))), (1, vI x1), (2, vI x2), (3, vI (x3 + (1 : Int32)))]) dX3_sortsOne_55 3 rfl rfl (Nat.le_of_ble_eq_true rfl) [1, 2, 3, 0] rfl ?_
          refine ea_goto (pc := 58) (tgt := 2) dX3_sortsOne_58 rfl ?_
          exact ((ih 2 (x1 : Int32) (x2 : Int32) ((x3 + (1 : Int32)) : Int32) h _ _ E hs).2 rfl)
        · have E := (if_neg c9).symm.trans E
          refine ea_aload_n (pc := 29) dX3_sortsOne_29 rfl 0 rfl ?_
          refine ea_getR (pc := 30) dX3_sortsOne_30 ec_3 (k := 3) (Nat.le_of_ble_eq_true rfl) rfl (Or.inl ew_266) (hs.1 16 (by decide)).1 (hs.1 16 (by decide)).2.1 (hs.2 16 3 rfl) ?_
          refine ea_iload_n (pc := 33) dX3_sortsOne_33 rfl 3 rfl ?_
          obtain ⟨z3, E⟩ := gd_some E
          refine ea_iald (pc := 34) dX3_sortsOne_34 (hs.1 19 (by decide)).1 (hs.1 19 (by decide)).2.1 (ea_vpl (hs.1 19 (by decide)).2.2 z3) ?_
          refine ea_iload_n (pc := 35) dX3_sortsOne_35 rfl 2 rfl ?_
          refine ea_ishr (pc := 36) dX3_sortsOne_36 ?_
          refine ea_iconst (pc := 37) dX3_sortsOne_37 (v := 1) rfl ?_
          refine ea_iand (pc := 38) dX3_sortsOne_38 ?_
          refine ea_iconst (pc := 39) dX3_sortsOne_39 (v := 1) rfl ?_
          refine ea_icmp_ne (pc := 40) (tgt := 55) dX3_sortsOne_40 rfl (fun c8 => ?_) (fun c8 => ?_)
          · have E := (if_neg c8).symm.trans E
            refine ea_iinc (pc := 55) (v := 1) (lv' := [(0, vR (some (b0 + 16))), (1, vI x1), (2, vI x2), (3, vI (x3 + (1 : Int32)))]) dX3_sortsOne_55 3 rfl rfl (Nat.le_of_ble_eq_true rfl) [1, 2, 3, 0] rfl ?_
            refine ea_goto (pc := 58) (tgt := 2) dX3_sortsOne_58 rfl ?_
            exact ((ih 2 (x1 : Int32) (x2 : Int32) ((x3 + (1 : Int32)) : Int32) h _ _ E hs).2 rfl)
          · have E := (if_pos c8).symm.trans E
            refine ea_aload_n (pc := 43) dX3_sortsOne_43 rfl 0 rfl ?_
            refine ea_getR (pc := 44) dX3_sortsOne_44 ec_3 (k := 4) (Nat.le_of_ble_eq_true rfl) rfl (Or.inl ew_267) (hs.1 16 (by decide)).1 (hs.1 16 (by decide)).2.1 (hs.2 16 4 rfl) ?_
            refine ea_iload_n (pc := 47) dX3_sortsOne_47 rfl 3 rfl ?_
            refine ea_dup2 (pc := 48) dX3_sortsOne_48 rfl rfl ?_
            obtain ⟨z4, E⟩ := gd_some E
            refine ea_iald (pc := 49) dX3_sortsOne_49 (hs.1 20 (by decide)).1 (hs.1 20 (by decide)).2.1 (ea_vpl (hs.1 20 (by decide)).2.2 z4) ?_
            refine ea_iconst (pc := 50) dX3_sortsOne_50 (v := 1) rfl ?_
            refine ea_isub (pc := 51) dX3_sortsOne_51 ?_
            obtain ⟨z5, E⟩ := gd_some E
            refine ea_iast (pc := 52) dX3_sortsOne_52 (hs.1 20 (by decide)).1 (hs.1 20 (by decide)).2.1 (ea_vpl (hs.1 20 (by decide)).2.2 z5) ?_
            have hs6 : ShC b0 (ea_wi h (b0 + 20) (Int32.toNatClampNeg x3) ((ea_i h (b0 + 20) (Int32.toNatClampNeg x3)) - (1 : Int32))) := ShC_wi hs
            obtain ⟨H7, eH7, E⟩ := let_some E
            refine ea_nm eH7 ?_
            have hsH7 : ShC b0 H7 := by rw [eH7]; exact hs6
            refine ea_iconst (pc := 53) dX3_sortsOne_53 (v := 1) rfl ?_
            exact ea_iretO (pc := 54) dX3_sortsOne_54 rfl (ea_bn (Or.inr rfl)) E
noncomputable def qX3_sortsOne (b0 : Nat) (x1 : Int32) (x2 : Int32) (h : ea_H) : Option (Int32 × ea_H) := gX3_sortsOne b0 1000000000 0 x1 x2 0 h
def okX3_sortsOne (b0 : Nat) (x1 : Int32) (x2 : Int32) (h : ea_H) : Prop := ∃ x, qX3_sortsOne b0 x1 x2 h = some x
noncomputable def vX3_sortsOne (b0 : Nat) (x1 : Int32) (x2 : Int32) (h : ea_H) : Int32 := ((qX3_sortsOne b0 x1 x2 h).getD (0, h)).1
noncomputable def wX3_sortsOne (b0 : Nat) (x1 : Int32) (x2 : Int32) (h : ea_H) : ea_H := ((qX3_sortsOne b0 x1 x2 h).getD (0, h)).2
theorem sX3_sortsOne {d : Nat} {b0 : Nat} {x1 : Int32} {x2 : Int32} {h : ea_H} (hd : 1 ≤ d) (hs : ShC b0 h) (K : okX3_sortsOne b0 x1 x2 h) : ea_Met mX3_sortsOne d [vR (some (b0 + 16)), vI x1, vI x2] h (some (vI (vX3_sortsOne b0 x1 x2 h))) (wX3_sortsOne b0 x1 x2 h) := by
  obtain ⟨⟨x, y⟩, K⟩ := K
  unfold wX3_sortsOne vX3_sortsOne
  rw [K]
  unfold qX3_sortsOne at K
  exact ea_enter rfl (Nat.le_of_ble_eq_true rfl) ((tX3_sortsOne hd 1000000000 0 x1 x2 0 h x y K hs).1 rfl)
theorem zX3_sortsOne {b0 : Nat} : ∀ (f lbl : Nat) (x1 : Int32) (x2 : Int32) (x3 : Int32) (h : ea_H) (r : Int32) (h' : ea_H), gX3_sortsOne b0 f lbl x1 x2 x3 h = some (r, h') → ShC b0 h → ShC b0 h' := by
  intro f
  induction f with
  | zero => intro lbl x1 x2 x3 h r h' E; cases E
  | succ f ih =>
    intro lbl x1 x2 x3 h r h' E hs
    unfold gX3_sortsOne at E
    by_cases el0 : lbl = 0
    · have E := (if_pos el0).symm.trans E
      exact ih 2 (x1 : Int32) (x2 : Int32) (0 : Int32) h _ _ E hs
    have E := (if_neg el0).symm.trans E
    by_cases el1 : lbl = 2
    · have E := (if_pos el1).symm.trans E
      by_cases c11 : (ea_i h (b0 + 16) 0) ≤ x3
      · have E := (if_pos c11).symm.trans E
        exact ea_shO E hs
      have E := (if_neg c11).symm.trans E
      obtain ⟨z1, E⟩ := gd_some E
      by_cases c10 : (ea_i h (b0 + 17) (Int32.toNatClampNeg x3)) = x1
      · have E := (if_pos c10).symm.trans E
        obtain ⟨z2, E⟩ := gd_some E
        by_cases c9 : (ea_i h (b0 + 20) (Int32.toNatClampNeg x3)) ≤ (0 : Int32)
        · have E := (if_pos c9).symm.trans E
          exact ih 2 (x1 : Int32) (x2 : Int32) ((x3 + (1 : Int32)) : Int32) h _ _ E hs
        have E := (if_neg c9).symm.trans E
        obtain ⟨z3, E⟩ := gd_some E
        by_cases c8 : (((ea_i h (b0 + 19) (Int32.toNatClampNeg x3)) >>> (x2 &&& 31)) &&& (1 : Int32)) = (1 : Int32)
        · have E := (if_pos c8).symm.trans E
          obtain ⟨z4, E⟩ := gd_some E
          obtain ⟨z5, E⟩ := gd_some E
          obtain ⟨H7, eH7, E⟩ := let_some E
          have hsH7 : ShC b0 H7 := by rw [eH7]; exact (ShC_wi hs)
          exact ea_shO E hsH7
        have E := (if_neg c8).symm.trans E
        exact ih 2 (x1 : Int32) (x2 : Int32) ((x3 + (1 : Int32)) : Int32) h _ _ E hs
      have E := (if_neg c10).symm.trans E
      exact ih 2 (x1 : Int32) (x2 : Int32) ((x3 + (1 : Int32)) : Int32) h _ _ E hs
    have E := (if_neg el1).symm.trans E
    cases E
theorem shX3_sortsOne {b0 : Nat} {x1 : Int32} {x2 : Int32} {h : ea_H} (hs : ShC b0 h) : ShC b0 (wX3_sortsOne b0 x1 x2 h) := by
  unfold wX3_sortsOne
  cases K : qX3_sortsOne b0 x1 x2 h with
  | none => exact hs
  | some x => obtain ⟨x, y⟩ := x; unfold qX3_sortsOne at K; exact zX3_sortsOne _ _ _ _ _ _ _ _ K hs
noncomputable def gX4_rowAt (b0 : Nat) (a0 : Nat) : Nat → Nat → Int32 → Int32 → Int32 → ea_H → Option (Int32 × ea_H)
  | 0, _, _, _, _, _ => none
  | f + 1, lbl, x1, x2, x3, h =>
    if lbl = 0 then (gX4_rowAt b0 a0 f 4 (x1 : Int32) ((-1) : Int32) (0 : Int32) h) else
    if lbl = 4 then (gd ((a0 < ea_n h ∧ ea_c h a0 = 4)) (if (ea_i h a0 16) ≤ x3 then (some (x2, h)) else (gd ((a0 < ea_n h ∧ ea_c h a0 = 4)) (gd ((okX4_rowMinute b0 a0 (x3 : Int32) h)) (if x1 < (vX4_rowMinute b0 a0 (x3 : Int32) h) then (gX4_rowAt b0 a0 f 4 (x1 : Int32) (x2 : Int32) ((x3 + (1 : Int32)) : Int32) h) else (gX4_rowAt b0 a0 f 4 (x1 : Int32) (x3 : Int32) ((x3 + (1 : Int32)) : Int32) h)))))) else none
theorem tX4_rowAt {d : Nat} {b0 : Nat} {a0 : Nat} {h0 : ea_H} (hd : 2 ≤ d) : ∀ (f lbl : Nat) (x1 : Int32) (x2 : Int32) (x3 : Int32) (h : ea_H) (r : Int32) (h' : ea_H), gX4_rowAt b0 a0 f lbl x1 x2 x3 h = some (r, h') → ShC b0 h → (lbl = 0 → ea_W mX4_rowAt d h0 (some (vI r)) h' 0 [(0, vR (some a0)), (1, vI x1)] [] h) ∧ (lbl = 4 → ea_W mX4_rowAt d h0 (some (vI r)) h' 4 [(0, vR (some a0)), (1, vI x1), (2, vI x2), (3, vI x3)] [] h) := by
  intro f
  induction f with
  | zero => intro lbl x1 x2 x3 h r h' E; cases E
  | succ f ih =>
    intro lbl x1 x2 x3 h r h' E hs
    unfold gX4_rowAt at E
    refine ⟨?_, ?_⟩
    · intro el
      subst el
      have E := (if_pos rfl).symm.trans E
      refine ea_iconst (pc := 0) dX4_rowAt_0 (v := (-1)) rfl ?_
      refine ea_istore_n (pc := 1) (lv' := [(0, vR (some a0)), (1, vI x1), (2, vI (-1))]) dX4_rowAt_1 rfl (Nat.le_of_ble_eq_true rfl) [1, 2, 0] rfl ?_
      refine ea_iconst (pc := 2) dX4_rowAt_2 (v := 0) rfl ?_
      refine ea_istore_n (pc := 3) (lv' := [(0, vR (some a0)), (1, vI x1), (2, vI (-1)), (3, vI 0)]) dX4_rowAt_3 rfl (Nat.le_of_ble_eq_true rfl) [1, 2, 3, 0] rfl ?_
      exact ((ih 4 (x1 : Int32) ((-1) : Int32) (0 : Int32) h _ _ E hs).2 rfl)
    intro el
    subst el
    have E := (if_neg (by decide)).symm.trans E
    have E := (if_pos rfl).symm.trans E
    refine ea_iload_n (pc := 4) dX4_rowAt_4 rfl 3 rfl ?_
    refine ea_aload_n (pc := 5) dX4_rowAt_5 rfl 0 rfl ?_
    obtain ⟨f1, E⟩ := gd_some E
    refine ea_getI (pc := 6) dX4_rowAt_6 ec_4 (k := 16) (Nat.le_of_ble_eq_true rfl) rfl (Or.inl ew_974) f1.1 f1.2 ?_
    refine ea_icmp_ge (pc := 9) (tgt := 29) dX4_rowAt_9 rfl (fun c5 => ?_) (fun c5 => ?_)
    · have E := (if_pos c5).symm.trans E
      refine ea_iload_n (pc := 29) dX4_rowAt_29 rfl 2 rfl ?_
      exact ea_iretO (pc := 30) dX4_rowAt_30 rfl rfl E
    · have E := (if_neg c5).symm.trans E
      refine ea_aload_n (pc := 12) dX4_rowAt_12 rfl 0 rfl ?_
      refine ea_iload_n (pc := 13) dX4_rowAt_13 rfl 3 rfl ?_
      obtain ⟨f2, E⟩ := gd_some E
      obtain ⟨z3, E⟩ := gd_some E
      refine ea_callV (pc := 14) (d' := d - 1) (As := [vI x3]) (st := []) dX4_rowAt_14 kX4_rowMinute (sX4_rowMinute (d := d - 1) (by omega) hs z3) (by omega) rfl (Nat.le_of_ble_eq_true rfl) ew_1132 ew_1113 ew_1114 (ci := 4) rfl (by decide) f2.1 f2.2 ?_
      refine ea_iload_n (pc := 17) dX4_rowAt_17 rfl 1 rfl ?_
      refine ea_icmp_gt (pc := 18) (tgt := 23) dX4_rowAt_18 rfl (fun c4 => ?_) (fun c4 => ?_)
      · have E := (if_pos c4).symm.trans E
        refine ea_iinc (pc := 23) (v := 1) (lv' := [(0, vR (some a0)), (1, vI x1), (2, vI x2), (3, vI (x3 + (1 : Int32)))]) dX4_rowAt_23 3 rfl rfl (Nat.le_of_ble_eq_true rfl) [1, 2, 3, 0] rfl ?_
        refine ea_goto (pc := 26) (tgt := 4) dX4_rowAt_26 rfl ?_
        exact ((ih 4 (x1 : Int32) (x2 : Int32) ((x3 + (1 : Int32)) : Int32) h _ _ E hs).2 rfl)
      · have E := (if_neg c4).symm.trans E
        refine ea_iload_n (pc := 21) dX4_rowAt_21 rfl 3 rfl ?_
        refine ea_istore_n (pc := 22) (lv' := [(0, vR (some a0)), (1, vI x1), (2, vI x3), (3, vI x3)]) dX4_rowAt_22 rfl (Nat.le_of_ble_eq_true rfl) [1, 2, 0, 3] rfl ?_
        refine ea_iinc (pc := 23) (v := 1) (lv' := [(0, vR (some a0)), (1, vI x1), (2, vI x3), (3, vI (x3 + (1 : Int32)))]) dX4_rowAt_23 3 rfl rfl (Nat.le_of_ble_eq_true rfl) [1, 2, 3, 0] rfl ?_
        refine ea_goto (pc := 26) (tgt := 4) dX4_rowAt_26 rfl ?_
        exact ((ih 4 (x1 : Int32) (x3 : Int32) ((x3 + (1 : Int32)) : Int32) h _ _ E hs).2 rfl)
noncomputable def qX4_rowAt (b0 : Nat) (a0 : Nat) (x1 : Int32) (h : ea_H) : Option (Int32 × ea_H) := gX4_rowAt b0 a0 1000000000 0 x1 0 0 h
def okX4_rowAt (b0 : Nat) (a0 : Nat) (x1 : Int32) (h : ea_H) : Prop := ∃ x, qX4_rowAt b0 a0 x1 h = some x
noncomputable def vX4_rowAt (b0 : Nat) (a0 : Nat) (x1 : Int32) (h : ea_H) : Int32 := ((qX4_rowAt b0 a0 x1 h).getD (0, h)).1
noncomputable def wX4_rowAt (b0 : Nat) (a0 : Nat) (x1 : Int32) (h : ea_H) : ea_H := ((qX4_rowAt b0 a0 x1 h).getD (0, h)).2
theorem sX4_rowAt {d : Nat} {b0 : Nat} {a0 : Nat} {x1 : Int32} {h : ea_H} (hd : 2 ≤ d) (hs : ShC b0 h) (K : okX4_rowAt b0 a0 x1 h) : ea_Met mX4_rowAt d [vR (some a0), vI x1] h (some (vI (vX4_rowAt b0 a0 x1 h))) (wX4_rowAt b0 a0 x1 h) := by
  obtain ⟨⟨x, y⟩, K⟩ := K
  unfold wX4_rowAt vX4_rowAt
  rw [K]
  unfold qX4_rowAt at K
  exact ea_enter rfl (Nat.le_of_ble_eq_true rfl) ((tX4_rowAt hd 1000000000 0 x1 0 0 h x y K hs).1 rfl)
theorem zX4_rowAt {b0 : Nat} {a0 : Nat} : ∀ (f lbl : Nat) (x1 : Int32) (x2 : Int32) (x3 : Int32) (h : ea_H) (r : Int32) (h' : ea_H), gX4_rowAt b0 a0 f lbl x1 x2 x3 h = some (r, h') → ShC b0 h → ShC b0 h' := by
  intro f
  induction f with
  | zero => intro lbl x1 x2 x3 h r h' E; cases E
  | succ f ih =>
    intro lbl x1 x2 x3 h r h' E hs
    unfold gX4_rowAt at E
    by_cases el0 : lbl = 0
    · have E := (if_pos el0).symm.trans E
      exact ih 4 (x1 : Int32) ((-1) : Int32) (0 : Int32) h _ _ E hs
    have E := (if_neg el0).symm.trans E
    by_cases el1 : lbl = 4
    · have E := (if_pos el1).symm.trans E
      obtain ⟨f1, E⟩ := gd_some E
      by_cases c5 : (ea_i h a0 16) ≤ x3
      · have E := (if_pos c5).symm.trans E
        exact ea_shO E hs
      have E := (if_neg c5).symm.trans E
      obtain ⟨f2, E⟩ := gd_some E
      obtain ⟨z3, E⟩ := gd_some E
      by_cases c4 : x1 < (vX4_rowMinute b0 a0 (x3 : Int32) h)
      · have E := (if_pos c4).symm.trans E
        exact ih 4 (x1 : Int32) (x2 : Int32) ((x3 + (1 : Int32)) : Int32) h _ _ E hs
      have E := (if_neg c4).symm.trans E
      exact ih 4 (x1 : Int32) (x3 : Int32) ((x3 + (1 : Int32)) : Int32) h _ _ E hs
    have E := (if_neg el1).symm.trans E
    cases E
theorem shX4_rowAt {b0 : Nat} {a0 : Nat} {x1 : Int32} {h : ea_H} (hs : ShC b0 h) : ShC b0 (wX4_rowAt b0 a0 x1 h) := by
  unfold wX4_rowAt
  cases K : qX4_rowAt b0 a0 x1 h with
  | none => exact hs
  | some x => obtain ⟨x, y⟩ := x; unfold qX4_rowAt at K; exact zX4_rowAt _ _ _ _ _ _ _ _ K hs
noncomputable def gX4_placeOf (b0 : Nat) (a0 : Nat) : Nat → Nat → Int32 → Int32 → ea_H → Option (Int32 × ea_H)
  | 0, _, _, _, _ => none
  | f + 1, lbl, x1, x2, h =>
    if lbl = 0 then (gX4_placeOf b0 a0 f 2 (x1 : Int32) (0 : Int32) h) else
    if lbl = 2 then (gd ((a0 < ea_n h ∧ ea_c h a0 = 4)) (if (ea_i h a0 18) ≤ x2 then (some (((-1) : Int32), h)) else (gd ((a0 < ea_n h ∧ ea_c h a0 = 4)) (gd ((okX4_placeTown b0 a0 (x2 : Int32) h)) (if (vX4_placeTown b0 a0 (x2 : Int32) h) = x1 then (some (x2, h)) else (gX4_placeOf b0 a0 f 2 (x1 : Int32) ((x2 + (1 : Int32)) : Int32) h)))))) else none
theorem tX4_placeOf {d : Nat} {b0 : Nat} {a0 : Nat} {h0 : ea_H} (hd : 2 ≤ d) : ∀ (f lbl : Nat) (x1 : Int32) (x2 : Int32) (h : ea_H) (r : Int32) (h' : ea_H), gX4_placeOf b0 a0 f lbl x1 x2 h = some (r, h') → ShC b0 h → (lbl = 0 → ea_W mX4_placeOf d h0 (some (vI r)) h' 0 [(0, vR (some a0)), (1, vI x1)] [] h) ∧ (lbl = 2 → ea_W mX4_placeOf d h0 (some (vI r)) h' 2 [(0, vR (some a0)), (1, vI x1), (2, vI x2)] [] h) := by
  intro f
  induction f with
  | zero => intro lbl x1 x2 h r h' E; cases E
  | succ f ih =>
    intro lbl x1 x2 h r h' E hs
    unfold gX4_placeOf at E
    refine ⟨?_, ?_⟩
    · intro el
      subst el
      have E := (if_pos rfl).symm.trans E
      refine ea_iconst (pc := 0) dX4_placeOf_0 (v := 0) rfl ?_
      refine ea_istore_n (pc := 1) (lv' := [(0, vR (some a0)), (1, vI x1), (2, vI 0)]) dX4_placeOf_1 rfl (Nat.le_of_ble_eq_true rfl) [1, 2, 0] rfl ?_
      exact ((ih 2 (x1 : Int32) (0 : Int32) h _ _ E hs).2 rfl)
    intro el
    subst el
    have E := (if_neg (by decide)).symm.trans E
    have E := (if_pos rfl).symm.trans E
    refine ea_iload_n (pc := 2) dX4_placeOf_2 rfl 2 rfl ?_
    refine ea_aload_n (pc := 3) dX4_placeOf_3 rfl 0 rfl ?_
    obtain ⟨f1, E⟩ := gd_some E
    refine ea_getI (pc := 4) dX4_placeOf_4 ec_4 (k := 18) (Nat.le_of_ble_eq_true rfl) rfl (Or.inl ew_977) f1.1 f1.2 ?_
    refine ea_icmp_ge (pc := 7) (tgt := 27) dX4_placeOf_7 rfl (fun c5 => ?_) (fun c5 => ?_)
    · have E := (if_pos c5).symm.trans E
      refine ea_iconst (pc := 27) dX4_placeOf_27 (v := (-1)) rfl ?_
      exact ea_iretO (pc := 28) dX4_placeOf_28 rfl rfl E
    · have E := (if_neg c5).symm.trans E
      refine ea_aload_n (pc := 10) dX4_placeOf_10 rfl 0 rfl ?_
      refine ea_iload_n (pc := 11) dX4_placeOf_11 rfl 2 rfl ?_
      obtain ⟨f2, E⟩ := gd_some E
      obtain ⟨z3, E⟩ := gd_some E
      refine ea_callV (pc := 12) (d' := d - 1) (As := [vI x2]) (st := []) dX4_placeOf_12 kX4_placeTown (sX4_placeTown (d := d - 1) (by omega) hs z3) (by omega) rfl (Nat.le_of_ble_eq_true rfl) ew_1198 ew_1199 ew_1200 (ci := 4) rfl (by decide) f2.1 f2.2 ?_
      refine ea_iload_n (pc := 15) dX4_placeOf_15 rfl 1 rfl ?_
      refine ea_icmp_ne (pc := 16) (tgt := 21) dX4_placeOf_16 rfl (fun c4 => ?_) (fun c4 => ?_)
      · have E := (if_neg c4).symm.trans E
        refine ea_iinc (pc := 21) (v := 1) (lv' := [(0, vR (some a0)), (1, vI x1), (2, vI (x2 + (1 : Int32)))]) dX4_placeOf_21 2 rfl rfl (Nat.le_of_ble_eq_true rfl) [1, 2, 0] rfl ?_
        refine ea_goto (pc := 24) (tgt := 2) dX4_placeOf_24 rfl ?_
        exact ((ih 2 (x1 : Int32) ((x2 + (1 : Int32)) : Int32) h _ _ E hs).2 rfl)
      · have E := (if_pos c4).symm.trans E
        refine ea_iload_n (pc := 19) dX4_placeOf_19 rfl 2 rfl ?_
        exact ea_iretO (pc := 20) dX4_placeOf_20 rfl rfl E
noncomputable def qX4_placeOf (b0 : Nat) (a0 : Nat) (x1 : Int32) (h : ea_H) : Option (Int32 × ea_H) := gX4_placeOf b0 a0 1000000000 0 x1 0 h
def okX4_placeOf (b0 : Nat) (a0 : Nat) (x1 : Int32) (h : ea_H) : Prop := ∃ x, qX4_placeOf b0 a0 x1 h = some x
noncomputable def vX4_placeOf (b0 : Nat) (a0 : Nat) (x1 : Int32) (h : ea_H) : Int32 := ((qX4_placeOf b0 a0 x1 h).getD (0, h)).1
noncomputable def wX4_placeOf (b0 : Nat) (a0 : Nat) (x1 : Int32) (h : ea_H) : ea_H := ((qX4_placeOf b0 a0 x1 h).getD (0, h)).2
theorem sX4_placeOf {d : Nat} {b0 : Nat} {a0 : Nat} {x1 : Int32} {h : ea_H} (hd : 2 ≤ d) (hs : ShC b0 h) (K : okX4_placeOf b0 a0 x1 h) : ea_Met mX4_placeOf d [vR (some a0), vI x1] h (some (vI (vX4_placeOf b0 a0 x1 h))) (wX4_placeOf b0 a0 x1 h) := by
  obtain ⟨⟨x, y⟩, K⟩ := K
  unfold wX4_placeOf vX4_placeOf
  rw [K]
  unfold qX4_placeOf at K
  exact ea_enter rfl (Nat.le_of_ble_eq_true rfl) ((tX4_placeOf hd 1000000000 0 x1 0 h x y K hs).1 rfl)
theorem zX4_placeOf {b0 : Nat} {a0 : Nat} : ∀ (f lbl : Nat) (x1 : Int32) (x2 : Int32) (h : ea_H) (r : Int32) (h' : ea_H), gX4_placeOf b0 a0 f lbl x1 x2 h = some (r, h') → ShC b0 h → ShC b0 h' := by
  intro f
  induction f with
  | zero => intro lbl x1 x2 h r h' E; cases E
  | succ f ih =>
    intro lbl x1 x2 h r h' E hs
    unfold gX4_placeOf at E
    by_cases el0 : lbl = 0
    · have E := (if_pos el0).symm.trans E
      exact ih 2 (x1 : Int32) (0 : Int32) h _ _ E hs
    have E := (if_neg el0).symm.trans E
    by_cases el1 : lbl = 2
    · have E := (if_pos el1).symm.trans E
      obtain ⟨f1, E⟩ := gd_some E
      by_cases c5 : (ea_i h a0 18) ≤ x2
      · have E := (if_pos c5).symm.trans E
        exact ea_shO E hs
      have E := (if_neg c5).symm.trans E
      obtain ⟨f2, E⟩ := gd_some E
      obtain ⟨z3, E⟩ := gd_some E
      by_cases c4 : (vX4_placeTown b0 a0 (x2 : Int32) h) = x1
      · have E := (if_pos c4).symm.trans E
        exact ea_shO E hs
      have E := (if_neg c4).symm.trans E
      exact ih 2 (x1 : Int32) ((x2 + (1 : Int32)) : Int32) h _ _ E hs
    have E := (if_neg el1).symm.trans E
    cases E
theorem shX4_placeOf {b0 : Nat} {a0 : Nat} {x1 : Int32} {h : ea_H} (hs : ShC b0 h) : ShC b0 (wX4_placeOf b0 a0 x1 h) := by
  unfold wX4_placeOf
  cases K : qX4_placeOf b0 a0 x1 h with
  | none => exact hs
  | some x => obtain ⟨x, y⟩ := x; unfold qX4_placeOf at K; exact zX4_placeOf _ _ _ _ _ _ _ K hs
noncomputable def gX4_tell (b0 : Nat) (a0 : Nat) : Nat → Nat → Int32 → Int32 → Int32 → Int32 → ea_H → Option (Int32 × ea_H)
  | 0, _, _, _, _, _, _ => none
  | f + 1, lbl, x1, x2, x3, x4, h =>
    if lbl = 0 then (gd ((a0 < ea_n h ∧ ea_c h a0 = 4)) (if (ea_r h a0 19) = none then (ea_let (ea_new h 20 4 4) fun H3 => (gd ((a0 < ea_n H3 ∧ ea_c H3 a0 = 4)) (gd (ShC_far b0 a0) (ea_let (ShC_wd b0 H3 a0 19 (some (ea_n h))) fun H7 => (gX4_tell b0 a0 f 14 (x1 : Int32) (x2 : Int32) 0 0 H7))))) else (gX4_tell b0 a0 f 14 (x1 : Int32) (x2 : Int32) 0 0 h))) else
    if lbl = 14 then (gd ((a0 < ea_n h ∧ ea_c h a0 = 4)) (gd ((okX4_placeOf b0 a0 (x1 : Int32) h)) (ea_let (wX4_placeOf b0 a0 (x1 : Int32) h) fun H13 => (if (vX4_placeOf b0 a0 (x1 : Int32) h) = ((-1) : Int32) then (gd ((a0 < ea_n H13 ∧ ea_c H13 a0 = 4)) (if (ea_i H13 a0 18) < (4 : Int32) then (gd ((a0 < ea_n H13 ∧ ea_c H13 a0 = 4)) (gd ((a0 < ea_n H13 ∧ ea_c H13 a0 = 4)) (gd ((a0 < ea_n H13 ∧ ea_c H13 a0 = 4)) (ea_let (ea_wi H13 a0 18 ((ea_i H13 a0 18) + (1 : Int32))) fun H19 => (gX4_tell b0 a0 f 60 0 0 ((ea_i H13 a0 18) : Int32) (((((100 : Int32) - x2) <<< ((4 : Int32) &&& 31)) ||| x1) : Int32) H19))))) else (some ((0 : Int32), H13)))) else (gX4_tell b0 a0 f 60 0 0 ((vX4_placeOf b0 a0 (x1 : Int32) h) : Int32) (((((100 : Int32) - x2) <<< ((4 : Int32) &&& 31)) ||| x1) : Int32) H13))))) else
    if lbl = 60 then (gd ((a0 < ea_n h ∧ ea_c h a0 = 4)) (if ((ea_i h a0 18) - (1 : Int32)) ≤ x3 then (gX4_tell b0 a0 f 103 0 0 (x3 : Int32) (x4 : Int32) h) else (gd ((a0 < ea_n h ∧ ea_c h a0 = 4)) (gd ((ea_r h a0 19) = some (Option.getD (ea_r h a0 19) 0)) (gd (((Option.getD (ea_r h a0 19) 0) < ea_n h ∧ ea_c h (Option.getD (ea_r h a0 19) 0) = 20)) (gd (vp_in (x3 + (1 : Int32)) (ea_l h (Option.getD (ea_r h a0 19) 0))) (if x4 ≤ (ea_i h (Option.getD (ea_r h a0 19) 0) (Int32.toNatClampNeg (x3 + (1 : Int32)))) then (gX4_tell b0 a0 f 103 0 0 (x3 : Int32) (x4 : Int32) h) else (gd ((a0 < ea_n h ∧ ea_c h a0 = 4)) (gd ((a0 < ea_n h ∧ ea_c h a0 = 4)) (gd ((ea_r h a0 19) = some (Option.getD (ea_r h a0 19) 0)) (gd (((Option.getD (ea_r h a0 19) 0) < ea_n h ∧ ea_c h (Option.getD (ea_r h a0 19) 0) = 20)) (gd (vp_in (x3 + (1 : Int32)) (ea_l h (Option.getD (ea_r h a0 19) 0))) (gd ((ea_r h a0 19) = some (Option.getD (ea_r h a0 19) 0)) (gd (((Option.getD (ea_r h a0 19) 0) < ea_n h ∧ ea_c h (Option.getD (ea_r h a0 19) 0) = 20)) (gd (vp_in x3 (ea_l h (Option.getD (ea_r h a0 19) 0))) (ea_let (ea_wi h (Option.getD (ea_r h a0 19) 0) (Int32.toNatClampNeg x3) (ea_i h (Option.getD (ea_r h a0 19) 0) (Int32.toNatClampNeg (x3 + (1 : Int32))))) fun H36 => (gX4_tell b0 a0 f 60 0 0 ((x3 + (1 : Int32)) : Int32) (x4 : Int32) H36))))))))))))))))) else
    if lbl = 103 then (if x3 ≤ (0 : Int32) then (gd ((a0 < ea_n h ∧ ea_c h a0 = 4)) (gd ((ea_r h a0 19) = some (Option.getD (ea_r h a0 19) 0)) (gd (((Option.getD (ea_r h a0 19) 0) < ea_n h ∧ ea_c h (Option.getD (ea_r h a0 19) 0) = 20)) (gd (vp_in x3 (ea_l h (Option.getD (ea_r h a0 19) 0))) (ea_let (ea_wi h (Option.getD (ea_r h a0 19) 0) (Int32.toNatClampNeg x3) x4) fun H44 => (some ((1 : Int32), H44))))))) else (gd ((a0 < ea_n h ∧ ea_c h a0 = 4)) (gd ((ea_r h a0 19) = some (Option.getD (ea_r h a0 19) 0)) (gd (((Option.getD (ea_r h a0 19) 0) < ea_n h ∧ ea_c h (Option.getD (ea_r h a0 19) 0) = 20)) (gd (vp_in (x3 - (1 : Int32)) (ea_l h (Option.getD (ea_r h a0 19) 0))) (if (ea_i h (Option.getD (ea_r h a0 19) 0) (Int32.toNatClampNeg (x3 - (1 : Int32)))) ≤ x4 then (gd ((a0 < ea_n h ∧ ea_c h a0 = 4)) (gd ((ea_r h a0 19) = some (Option.getD (ea_r h a0 19) 0)) (gd (((Option.getD (ea_r h a0 19) 0) < ea_n h ∧ ea_c h (Option.getD (ea_r h a0 19) 0) = 20)) (gd (vp_in x3 (ea_l h (Option.getD (ea_r h a0 19) 0))) (ea_let (ea_wi h (Option.getD (ea_r h a0 19) 0) (Int32.toNatClampNeg x3) x4) fun H54 => (some ((1 : Int32), H54))))))) else (gd ((a0 < ea_n h ∧ ea_c h a0 = 4)) (gd ((a0 < ea_n h ∧ ea_c h a0 = 4)) (gd ((ea_r h a0 19) = some (Option.getD (ea_r h a0 19) 0)) (gd (((Option.getD (ea_r h a0 19) 0) < ea_n h ∧ ea_c h (Option.getD (ea_r h a0 19) 0) = 20)) (gd (vp_in (x3 - (1 : Int32)) (ea_l h (Option.getD (ea_r h a0 19) 0))) (gd ((ea_r h a0 19) = some (Option.getD (ea_r h a0 19) 0)) (gd (((Option.getD (ea_r h a0 19) 0) < ea_n h ∧ ea_c h (Option.getD (ea_r h a0 19) 0) = 20)) (gd (vp_in x3 (ea_l h (Option.getD (ea_r h a0 19) 0))) (ea_let (ea_wi h (Option.getD (ea_r h a0 19) 0) (Int32.toNatClampNeg x3) (ea_i h (Option.getD (ea_r h a0 19) 0) (Int32.toNatClampNeg (x3 - (1 : Int32))))) fun H64 => (gX4_tell b0 a0 f 103 0 0 ((x3 + ((-1) : Int32)) : Int32) (x4 : Int32) H64)))))))))))))))) else none
theorem tX4_tell {d : Nat} {b0 : Nat} {a0 : Nat} {h0 : ea_H} (hd : 3 ≤ d) : ∀ (f lbl : Nat) (x1 : Int32) (x2 : Int32) (x3 : Int32) (x4 : Int32) (h : ea_H) (r : Int32) (h' : ea_H), gX4_tell b0 a0 f lbl x1 x2 x3 x4 h = some (r, h') → ShC b0 h → (lbl = 0 → ea_W mX4_tell d h0 (some (vI r)) h' 0 [(0, vR (some a0)), (1, vI x1), (2, vI x2)] [] h) ∧ (lbl = 14 → ea_W mX4_tell d h0 (some (vI r)) h' 14 [(0, vR (some a0)), (1, vI x1), (2, vI x2)] [] h) ∧ (lbl = 60 → ea_W mX4_tell d h0 (some (vI r)) h' 60 [(0, vR (some a0)), (3, vI x3), (4, vI x4)] [] h) ∧ (lbl = 103 → ea_W mX4_tell d h0 (some (vI r)) h' 103 [(0, vR (some a0)), (3, vI x3), (4, vI x4)] [] h) := by
  intro f
  induction f with
  | zero => intro lbl x1 x2 x3 x4 h r h' E; cases E
  | succ f ih =>
    intro lbl x1 x2 x3 x4 h r h' E hs
    unfold gX4_tell at E
    refine ⟨?_, ?_⟩
    · intro el
      subst el
      have E := (if_pos rfl).symm.trans E
      refine ea_aload_n (pc := 0) dX4_tell_0 rfl 0 rfl ?_
      obtain ⟨f1, E⟩ := gd_some E
      refine ea_getR (pc := 1) dX4_tell_1 ec_4 (k := 19) (Nat.le_of_ble_eq_true rfl) rfl (Or.inl ew_979) f1.1 f1.2 rfl ?_
      refine ea_ifnonnull (pc := 4) (tgt := 14) dX4_tell_4 rfl (fun a9 c8 => ?_) (fun c8 => ?_)
      · have c8n : ¬ (ea_r h a0 19) = none := by rw [c8]; exact fun q => nomatch q
        have E := (if_neg c8n).symm.trans E
        exact ((ih 14 (x1 : Int32) (x2 : Int32) 0 0 h _ _ E hs).2.1 rfl)
      · have E := (if_pos c8).symm.trans E
        refine ea_aload_n (pc := 7) dX4_tell_7 rfl 0 rfl ?_
        refine ea_iconst (pc := 8) dX4_tell_8 (v := 4) rfl ?_
        refine ea_newI (pc := 9) (N := 4) dX4_tell_9 ew_170 (by decide) rfl (Nat.le_of_ble_eq_true rfl) ?_
        have hs2 : ShC b0 (ea_new h 20 4 4) := ShC_new hs
        obtain ⟨H3, eH3, E⟩ := let_some E
        refine ea_nm eH3 ?_
        have hsH3 : ShC b0 H3 := by rw [eH3]; exact hs2
        obtain ⟨f4, E⟩ := gd_some E
        obtain ⟨zf6, E⟩ := gd_some E
        refine ea_putR (pc := 11) dX4_tell_11 ec_4 (k := 19) (Nat.le_of_ble_eq_true rfl) rfl (Or.inl ⟨rfl, Or.inl ew_979⟩) f4.1 f4.2 ?_
        refine ea_nm (ShC_wdeq zf6) ?_
        have hs5 : ShC b0 (ShC_wd b0 H3 a0 19 (some (ea_n h))) := ShC_wd_sh hsH3
        obtain ⟨H7, eH7, E⟩ := let_some E
        refine ea_nm eH7 ?_
        have hsH7 : ShC b0 H7 := by rw [eH7]; exact hs5
        exact ((ih 14 (x1 : Int32) (x2 : Int32) 0 0 H7 _ _ E hsH7).2.1 rfl)
    refine ⟨?_, ?_⟩
    · intro el
      subst el
      have E := (if_neg (by decide)).symm.trans E
      have E := (if_pos rfl).symm.trans E
      refine ea_aload_n (pc := 14) dX4_tell_14 rfl 0 rfl ?_
      refine ea_iload_n (pc := 15) dX4_tell_15 rfl 1 rfl ?_
      obtain ⟨f10, E⟩ := gd_some E
      obtain ⟨z11, E⟩ := gd_some E
      refine ea_callV (pc := 16) (d' := d - 1) (As := [vI x1]) (st := []) dX4_tell_16 kX4_placeOf (sX4_placeOf (d := d - 1) (by omega) hs z11) (by omega) rfl (Nat.le_of_ble_eq_true rfl) ew_1194 ew_1195 ew_1196 (ci := 4) rfl (by decide) f10.1 f10.2 ?_
      have hs12 : ShC b0 (wX4_placeOf b0 a0 (x1 : Int32) h) := shX4_placeOf hs
      obtain ⟨H13, eH13, E⟩ := let_some E
      refine ea_nm eH13 ?_
      have hsH13 : ShC b0 H13 := by rw [eH13]; exact hs12
      refine ea_istore_n (pc := 19) (lv' := [(0, vR (some a0)), (1, vI x1), (2, vI x2), (3, vI (vX4_placeOf b0 a0 (x1 : Int32) h))]) dX4_tell_19 rfl (Nat.le_of_ble_eq_true rfl) [1, 2, 3, 0] rfl ?_
      refine ea_iload_n (pc := 20) dX4_tell_20 rfl 3 rfl ?_
      refine ea_iconst (pc := 21) dX4_tell_21 (v := (-1)) rfl ?_
      refine ea_icmp_ne (pc := 22) (tgt := 50) dX4_tell_22 rfl (fun c21 => ?_) (fun c21 => ?_)
      · have E := (if_neg c21).symm.trans E
        refine ea_bipush (pc := 50) dX4_tell_50 (v := 100) rfl ?_
        refine ea_iload_n (pc := 52) dX4_tell_52 rfl 2 rfl ?_
        refine ea_isub (pc := 53) dX4_tell_53 ?_
        refine ea_iconst (pc := 54) dX4_tell_54 (v := 4) rfl ?_
        refine ea_ishl (pc := 55) dX4_tell_55 ?_
        refine ea_iload_n (pc := 56) dX4_tell_56 rfl 1 rfl ?_
        refine ea_ior (pc := 57) dX4_tell_57 ?_
        refine ea_istore (pc := 58) (lv' := [(0, vR (some a0)), (3, vI (vX4_placeOf b0 a0 (x1 : Int32) h)), (4, vI ((((100 : Int32) - x2) <<< ((4 : Int32) &&& 31)) ||| x1))]) dX4_tell_58 (Nat.le_of_ble_eq_true rfl) [1, 4, 0] rfl ?_
        exact ((ih 60 0 0 ((vX4_placeOf b0 a0 (x1 : Int32) h) : Int32) (((((100 : Int32) - x2) <<< ((4 : Int32) &&& 31)) ||| x1) : Int32) H13 _ _ E hsH13).2.2.1 rfl)
      · have E := (if_pos c21).symm.trans E
        refine ea_aload_n (pc := 25) dX4_tell_25 rfl 0 rfl ?_
        obtain ⟨f14, E⟩ := gd_some E
        refine ea_getI (pc := 26) dX4_tell_26 ec_4 (k := 18) (Nat.le_of_ble_eq_true rfl) rfl (Or.inl ew_977) f14.1 f14.2 ?_
        refine ea_iconst (pc := 29) dX4_tell_29 (v := 4) rfl ?_
        refine ea_icmp_lt (pc := 30) (tgt := 35) dX4_tell_30 rfl (fun c20 => ?_) (fun c20 => ?_)
        · have E := (if_pos c20).symm.trans E
          refine ea_aload_n (pc := 35) dX4_tell_35 rfl 0 rfl ?_
          obtain ⟨f15, E⟩ := gd_some E
          refine ea_getI (pc := 36) dX4_tell_36 ec_4 (k := 18) (Nat.le_of_ble_eq_true rfl) rfl (Or.inl ew_977) f15.1 f15.2 ?_
          refine ea_istore_n (pc := 39) (lv' := [(0, vR (some a0)), (1, vI x1), (2, vI x2), (3, vI (ea_i H13 a0 18))]) dX4_tell_39 rfl (Nat.le_of_ble_eq_true rfl) [1, 2, 3, 0] rfl ?_
          refine ea_aload_n (pc := 40) dX4_tell_40 rfl 0 rfl ?_
          refine ea_dup (pc := 41) dX4_tell_41 rfl ?_
          obtain ⟨f16, E⟩ := gd_some E
          refine ea_getI (pc := 42) dX4_tell_42 ec_4 (k := 18) (Nat.le_of_ble_eq_true rfl) rfl (Or.inl ew_977) f16.1 f16.2 ?_
          refine ea_iconst (pc := 45) dX4_tell_45 (v := 1) rfl ?_
          refine ea_iadd (pc := 46) dX4_tell_46 ?_
          obtain ⟨f17, E⟩ := gd_some E
          refine ea_putI (pc := 47) dX4_tell_47 ec_4 (k := 18) (Nat.le_of_ble_eq_true rfl) rfl (Or.inl ⟨rfl, Or.inl ew_977⟩) rfl rfl f17.1 f17.2 ?_
          have hs18 : ShC b0 (ea_wi H13 a0 18 ((ea_i H13 a0 18) + (1 : Int32))) := ShC_wi hsH13
          obtain ⟨H19, eH19, E⟩ := let_some E
          refine ea_nm eH19 ?_
          have hsH19 : ShC b0 H19 := by rw [eH19]; exact hs18
          refine ea_bipush (pc := 50) dX4_tell_50 (v := 100) rfl ?_
          refine ea_iload_n (pc := 52) dX4_tell_52 rfl 2 rfl ?_
          refine ea_isub (pc := 53) dX4_tell_53 ?_
          refine ea_iconst (pc := 54) dX4_tell_54 (v := 4) rfl ?_
          refine ea_ishl (pc := 55) dX4_tell_55 ?_
          refine ea_iload_n (pc := 56) dX4_tell_56 rfl 1 rfl ?_
          refine ea_ior (pc := 57) dX4_tell_57 ?_
          refine ea_istore (pc := 58) (lv' := [(0, vR (some a0)), (3, vI (ea_i H13 a0 18)), (4, vI ((((100 : Int32) - x2) <<< ((4 : Int32) &&& 31)) ||| x1))]) dX4_tell_58 (Nat.le_of_ble_eq_true rfl) [1, 4, 0] rfl ?_
          exact ((ih 60 0 0 ((ea_i H13 a0 18) : Int32) (((((100 : Int32) - x2) <<< ((4 : Int32) &&& 31)) ||| x1) : Int32) H19 _ _ E hsH19).2.2.1 rfl)
        · have E := (if_neg c20).symm.trans E
          refine ea_iconst (pc := 33) dX4_tell_33 (v := 0) rfl ?_
          exact ea_iretO (pc := 34) dX4_tell_34 rfl (ea_bn (Or.inl rfl)) E
    refine ⟨?_, ?_⟩
    · intro el
      subst el
      have E := (if_neg (by decide)).symm.trans E
      have E := (if_neg (by decide)).symm.trans E
      have E := (if_pos rfl).symm.trans E
      refine ea_iload_n (pc := 60) dX4_tell_60 rfl 1 rfl ?_
      refine ea_aload_n (pc := 61) dX4_tell_61 rfl 0 rfl ?_
      obtain ⟨f22, E⟩ := gd_some E
      refine ea_getI (pc := 62) dX4_tell_62 ec_4 (k := 18) (Nat.le_of_ble_eq_true rfl) rfl (Or.inl ew_977) f22.1 f22.2 ?_
      refine ea_iconst (pc := 65) dX4_tell_65 (v := 1) rfl ?_
      refine ea_isub (pc := 66) dX4_tell_66 ?_
      refine ea_icmp_ge (pc := 67) (tgt := 103) dX4_tell_67 rfl (fun c38 => ?_) (fun c38 => ?_)
      · have E := (if_pos c38).symm.trans E
        exact ((ih 103 0 0 (x3 : Int32) (x4 : Int32) h _ _ E hs).2.2.2 rfl)
      · have E := (if_neg c38).symm.trans E
        refine ea_aload_n (pc := 70) dX4_tell_70 rfl 0 rfl ?_
        obtain ⟨f23, E⟩ := gd_some E
        refine ea_getR (pc := 71) dX4_tell_71 ec_4 (k := 19) (Nat.le_of_ble_eq_true rfl) rfl (Or.inl ew_979) f23.1 f23.2 rfl ?_
        refine ea_iload_n (pc := 74) dX4_tell_74 rfl 1 rfl ?_
        refine ea_iconst (pc := 75) dX4_tell_75 (v := 1) rfl ?_
        refine ea_iadd (pc := 76) dX4_tell_76 ?_
        obtain ⟨e24, E⟩ := gd_some E
        obtain ⟨f25, E⟩ := gd_some E
        obtain ⟨z26, E⟩ := gd_some E
        refine ea_deref1 e24 ?_
        refine ea_iald (pc := 77) dX4_tell_77 f25.1 f25.2 z26 ?_
        refine ea_iload (pc := 78) dX4_tell_78 2 rfl ?_
        refine ea_icmp_ge (pc := 80) (tgt := 103) dX4_tell_80 rfl (fun c37 => ?_) (fun c37 => ?_)
        · have E := (if_pos c37).symm.trans E
          exact ((ih 103 0 0 (x3 : Int32) (x4 : Int32) h _ _ E hs).2.2.2 rfl)
        · have E := (if_neg c37).symm.trans E
          refine ea_aload_n (pc := 83) dX4_tell_83 rfl 0 rfl ?_
          obtain ⟨f27, E⟩ := gd_some E
          refine ea_getR (pc := 84) dX4_tell_84 ec_4 (k := 19) (Nat.le_of_ble_eq_true rfl) rfl (Or.inl ew_979) f27.1 f27.2 rfl ?_
          refine ea_iload_n (pc := 87) dX4_tell_87 rfl 1 rfl ?_
          refine ea_aload_n (pc := 88) dX4_tell_88 rfl 0 rfl ?_
          obtain ⟨f28, E⟩ := gd_some E
          refine ea_getR (pc := 89) dX4_tell_89 ec_4 (k := 19) (Nat.le_of_ble_eq_true rfl) rfl (Or.inl ew_979) f28.1 f28.2 rfl ?_
          refine ea_iload_n (pc := 92) dX4_tell_92 rfl 1 rfl ?_
          refine ea_iconst (pc := 93) dX4_tell_93 (v := 1) rfl ?_
          refine ea_iadd (pc := 94) dX4_tell_94 ?_
          obtain ⟨e29, E⟩ := gd_some E
          obtain ⟨f30, E⟩ := gd_some E
          obtain ⟨z31, E⟩ := gd_some E
          refine ea_deref1 e29 ?_
          refine ea_iald (pc := 95) dX4_tell_95 f30.1 f30.2 z31 ?_
          obtain ⟨e32, E⟩ := gd_some E
          obtain ⟨f33, E⟩ := gd_some E
          obtain ⟨z34, E⟩ := gd_some E
          refine ea_deref2 e32 ?_
          refine ea_iast (pc := 96) dX4_tell_96 f33.1 f33.2 z34 ?_
          have hs35 : ShC b0 (ea_wi h (Option.getD (ea_r h a0 19) 0) (Int32.toNatClampNeg x3) (ea_i h (Option.getD (ea_r h a0 19) 0) (Int32.toNatClampNeg (x3 + (1 : Int32))))) := ShC_wi hs
          obtain ⟨H36, eH36, E⟩ := let_some E
          refine ea_nm eH36 ?_
          have hsH36 : ShC b0 H36 := by rw [eH36]; exact hs35
          refine ea_iinc (pc := 97) (v := 1) (lv' := [(0, vR (some a0)), (3, vI (x3 + (1 : Int32))), (4, vI x4)]) dX4_tell_97 1 rfl rfl (Nat.le_of_ble_eq_true rfl) [1, 0, 2] rfl ?_
          refine ea_goto (pc := 100) (tgt := 60) dX4_tell_100 rfl ?_
          exact ((ih 60 0 0 ((x3 + (1 : Int32)) : Int32) (x4 : Int32) H36 _ _ E hsH36).2.2.1 rfl)
    intro el
    subst el
    have E := (if_neg (by decide)).symm.trans E
    have E := (if_neg (by decide)).symm.trans E
    have E := (if_neg (by decide)).symm.trans E
    have E := (if_pos rfl).symm.trans E
    refine ea_iload_n (pc := 103) dX4_tell_103 rfl 1 rfl ?_
    refine ea_if_le (pc := 104) (tgt := 140) dX4_tell_104 rfl (fun c66 => ?_) (fun c66 => ?_)
    · have E := (if_pos c66).symm.trans E
      refine ea_aload_n (pc := 140) dX4_tell_140 rfl 0 rfl ?_
      obtain ⟨f39, E⟩ := gd_some E
      refine ea_getR (pc := 141) dX4_tell_141 ec_4 (k := 19) (Nat.le_of_ble_eq_true rfl) rfl (Or.inl ew_979) f39.1 f39.2 rfl ?_
      refine ea_iload_n (pc := 144) dX4_tell_144 rfl 1 rfl ?_
      refine ea_iload (pc := 145) dX4_tell_145 2 rfl ?_
      obtain ⟨e40, E⟩ := gd_some E
      obtain ⟨f41, E⟩ := gd_some E
      obtain ⟨z42, E⟩ := gd_some E
      refine ea_deref2 e40 ?_
      refine ea_iast (pc := 147) dX4_tell_147 f41.1 f41.2 z42 ?_
      have hs43 : ShC b0 (ea_wi h (Option.getD (ea_r h a0 19) 0) (Int32.toNatClampNeg x3) x4) := ShC_wi hs
      obtain ⟨H44, eH44, E⟩ := let_some E
      refine ea_nm eH44 ?_
      have hsH44 : ShC b0 H44 := by rw [eH44]; exact hs43
      refine ea_iconst (pc := 148) dX4_tell_148 (v := 1) rfl ?_
      exact ea_iretO (pc := 149) dX4_tell_149 rfl (ea_bn (Or.inr rfl)) E
    · have E := (if_neg c66).symm.trans E
      refine ea_aload_n (pc := 107) dX4_tell_107 rfl 0 rfl ?_
      obtain ⟨f45, E⟩ := gd_some E
      refine ea_getR (pc := 108) dX4_tell_108 ec_4 (k := 19) (Nat.le_of_ble_eq_true rfl) rfl (Or.inl ew_979) f45.1 f45.2 rfl ?_
      refine ea_iload_n (pc := 111) dX4_tell_111 rfl 1 rfl ?_
      refine ea_iconst (pc := 112) dX4_tell_112 (v := 1) rfl ?_
      refine ea_isub (pc := 113) dX4_tell_113 ?_
      obtain ⟨e46, E⟩ := gd_some E
      obtain ⟨f47, E⟩ := gd_some E
      obtain ⟨z48, E⟩ := gd_some E
      refine ea_deref1 e46 ?_
      refine ea_iald (pc := 114) dX4_tell_114 f47.1 f47.2 z48 ?_
      refine ea_iload (pc := 115) dX4_tell_115 2 rfl ?_
      refine ea_icmp_le (pc := 117) (tgt := 140) dX4_tell_117 rfl (fun c65 => ?_) (fun c65 => ?_)
      · have E := (if_pos c65).symm.trans E
        refine ea_aload_n (pc := 140) dX4_tell_140 rfl 0 rfl ?_
        obtain ⟨f49, E⟩ := gd_some E
        refine ea_getR (pc := 141) dX4_tell_141 ec_4 (k := 19) (Nat.le_of_ble_eq_true rfl) rfl (Or.inl ew_979) f49.1 f49.2 rfl ?_
        refine ea_iload_n (pc := 144) dX4_tell_144 rfl 1 rfl ?_
        refine ea_iload (pc := 145) dX4_tell_145 2 rfl ?_
        obtain ⟨e50, E⟩ := gd_some E
        obtain ⟨f51, E⟩ := gd_some E
        obtain ⟨z52, E⟩ := gd_some E
        refine ea_deref2 e50 ?_
        refine ea_iast (pc := 147) dX4_tell_147 f51.1 f51.2 z52 ?_
        have hs53 : ShC b0 (ea_wi h (Option.getD (ea_r h a0 19) 0) (Int32.toNatClampNeg x3) x4) := ShC_wi hs
        obtain ⟨H54, eH54, E⟩ := let_some E
        refine ea_nm eH54 ?_
        have hsH54 : ShC b0 H54 := by rw [eH54]; exact hs53
        refine ea_iconst (pc := 148) dX4_tell_148 (v := 1) rfl ?_
        exact ea_iretO (pc := 149) dX4_tell_149 rfl (ea_bn (Or.inr rfl)) E
      · have E := (if_neg c65).symm.trans E
        refine ea_aload_n (pc := 120) dX4_tell_120 rfl 0 rfl ?_
        obtain ⟨f55, E⟩ := gd_some E
        refine ea_getR (pc := 121) dX4_tell_121 ec_4 (k := 19) (Nat.le_of_ble_eq_true rfl) rfl (Or.inl ew_979) f55.1 f55.2 rfl ?_
        refine ea_iload_n (pc := 124) dX4_tell_124 rfl 1 rfl ?_
        refine ea_aload_n (pc := 125) dX4_tell_125 rfl 0 rfl ?_
        obtain ⟨f56, E⟩ := gd_some E
        refine ea_getR (pc := 126) dX4_tell_126 ec_4 (k := 19) (Nat.le_of_ble_eq_true rfl) rfl (Or.inl ew_979) f56.1 f56.2 rfl ?_
        refine ea_iload_n (pc := 129) dX4_tell_129 rfl 1 rfl ?_
        refine ea_iconst (pc := 130) dX4_tell_130 (v := 1) rfl ?_
        refine ea_isub (pc := 131) dX4_tell_131 ?_
        obtain ⟨e57, E⟩ := gd_some E
        obtain ⟨f58, E⟩ := gd_some E
        obtain ⟨z59, E⟩ := gd_some E
        refine ea_deref1 e57 ?_
        refine ea_iald (pc := 132) dX4_tell_132 f58.1 f58.2 z59 ?_
        obtain ⟨e60, E⟩ := gd_some E
        obtain ⟨f61, E⟩ := gd_some E
        obtain ⟨z62, E⟩ := gd_some E
        refine ea_deref2 e60 ?_
        refine ea_iast (pc := 133) dX4_tell_133 f61.1 f61.2 z62 ?_
        have hs63 : ShC b0 (ea_wi h (Option.getD (ea_r h a0 19) 0) (Int32.toNatClampNeg x3) (ea_i h (Option.getD (ea_r h a0 19) 0) (Int32.toNatClampNeg (x3 - (1 : Int32))))) := ShC_wi hs
        obtain ⟨H64, eH64, E⟩ := let_some E
        refine ea_nm eH64 ?_
        have hsH64 : ShC b0 H64 := by rw [eH64]; exact hs63
        refine ea_iinc (pc := 134) (v := (-1)) (lv' := [(0, vR (some a0)), (3, vI (x3 + ((-1) : Int32))), (4, vI x4)]) dX4_tell_134 1 rfl rfl (Nat.le_of_ble_eq_true rfl) [1, 0, 2] rfl ?_
        refine ea_goto (pc := 137) (tgt := 103) dX4_tell_137 rfl ?_
        exact ((ih 103 0 0 ((x3 + ((-1) : Int32)) : Int32) (x4 : Int32) H64 _ _ E hsH64).2.2.2 rfl)
noncomputable def qX4_tell (b0 : Nat) (a0 : Nat) (x1 : Int32) (x2 : Int32) (h : ea_H) : Option (Int32 × ea_H) := gX4_tell b0 a0 1000000000 0 x1 x2 0 0 h
def okX4_tell (b0 : Nat) (a0 : Nat) (x1 : Int32) (x2 : Int32) (h : ea_H) : Prop := ∃ x, qX4_tell b0 a0 x1 x2 h = some x
noncomputable def vX4_tell (b0 : Nat) (a0 : Nat) (x1 : Int32) (x2 : Int32) (h : ea_H) : Int32 := ((qX4_tell b0 a0 x1 x2 h).getD (0, h)).1
noncomputable def wX4_tell (b0 : Nat) (a0 : Nat) (x1 : Int32) (x2 : Int32) (h : ea_H) : ea_H := ((qX4_tell b0 a0 x1 x2 h).getD (0, h)).2
theorem sX4_tell {d : Nat} {b0 : Nat} {a0 : Nat} {x1 : Int32} {x2 : Int32} {h : ea_H} (hd : 3 ≤ d) (hs : ShC b0 h) (K : okX4_tell b0 a0 x1 x2 h) : ea_Met mX4_tell d [vR (some a0), vI x1, vI x2] h (some (vI (vX4_tell b0 a0 x1 x2 h))) (wX4_tell b0 a0 x1 x2 h) := by
  obtain ⟨⟨x, y⟩, K⟩ := K
  unfold wX4_tell vX4_tell
  rw [K]
  unfold qX4_tell at K
  exact ea_enter rfl (Nat.le_of_ble_eq_true rfl) ((tX4_tell hd 1000000000 0 x1 x2 0 0 h x y K hs).1 rfl)
theorem zX4_tell {b0 : Nat} {a0 : Nat} : ∀ (f lbl : Nat) (x1 : Int32) (x2 : Int32) (x3 : Int32) (x4 : Int32) (h : ea_H) (r : Int32) (h' : ea_H), gX4_tell b0 a0 f lbl x1 x2 x3 x4 h = some (r, h') → ShC b0 h → ShC b0 h' := by
  intro f
  induction f with
  | zero => intro lbl x1 x2 x3 x4 h r h' E; cases E
  | succ f ih =>
    intro lbl x1 x2 x3 x4 h r h' E hs
    unfold gX4_tell at E
    by_cases el0 : lbl = 0
    · have E := (if_pos el0).symm.trans E
      obtain ⟨f1, E⟩ := gd_some E
      by_cases c8 : (ea_r h a0 19) = none
      · have E := (if_pos c8).symm.trans E
        obtain ⟨H3, eH3, E⟩ := let_some E
        have hsH3 : ShC b0 H3 := by rw [eH3]; exact (ShC_new hs)
        obtain ⟨f4, E⟩ := gd_some E
        obtain ⟨zf6, E⟩ := gd_some E
        obtain ⟨H7, eH7, E⟩ := let_some E
        have hsH7 : ShC b0 H7 := by rw [eH7]; exact (ShC_wd_sh hsH3)
        exact ih 14 (x1 : Int32) (x2 : Int32) 0 0 H7 _ _ E hsH7
      have E := (if_neg c8).symm.trans E
      exact ih 14 (x1 : Int32) (x2 : Int32) 0 0 h _ _ E hs
    have E := (if_neg el0).symm.trans E
    by_cases el1 : lbl = 14
    · have E := (if_pos el1).symm.trans E
      obtain ⟨f10, E⟩ := gd_some E
      obtain ⟨z11, E⟩ := gd_some E
      obtain ⟨H13, eH13, E⟩ := let_some E
      have hsH13 : ShC b0 H13 := by rw [eH13]; exact (shX4_placeOf hs)
      by_cases c21 : (vX4_placeOf b0 a0 (x1 : Int32) h) = ((-1) : Int32)
      · have E := (if_pos c21).symm.trans E
        obtain ⟨f14, E⟩ := gd_some E
        by_cases c20 : (ea_i H13 a0 18) < (4 : Int32)
        · have E := (if_pos c20).symm.trans E
          obtain ⟨f15, E⟩ := gd_some E
          obtain ⟨f16, E⟩ := gd_some E
          obtain ⟨f17, E⟩ := gd_some E
          obtain ⟨H19, eH19, E⟩ := let_some E
          have hsH19 : ShC b0 H19 := by rw [eH19]; exact (ShC_wi hsH13)
          exact ih 60 0 0 ((ea_i H13 a0 18) : Int32) (((((100 : Int32) - x2) <<< ((4 : Int32) &&& 31)) ||| x1) : Int32) H19 _ _ E hsH19
        have E := (if_neg c20).symm.trans E
        exact ea_shO E hsH13
      have E := (if_neg c21).symm.trans E
      exact ih 60 0 0 ((vX4_placeOf b0 a0 (x1 : Int32) h) : Int32) (((((100 : Int32) - x2) <<< ((4 : Int32) &&& 31)) ||| x1) : Int32) H13 _ _ E hsH13
    have E := (if_neg el1).symm.trans E
    by_cases el2 : lbl = 60
    · have E := (if_pos el2).symm.trans E
      obtain ⟨f22, E⟩ := gd_some E
      by_cases c38 : ((ea_i h a0 18) - (1 : Int32)) ≤ x3
      · have E := (if_pos c38).symm.trans E
        exact ih 103 0 0 (x3 : Int32) (x4 : Int32) h _ _ E hs
      have E := (if_neg c38).symm.trans E
      obtain ⟨f23, E⟩ := gd_some E
      obtain ⟨e24, E⟩ := gd_some E
      obtain ⟨f25, E⟩ := gd_some E
      obtain ⟨z26, E⟩ := gd_some E
      by_cases c37 : x4 ≤ (ea_i h (Option.getD (ea_r h a0 19) 0) (Int32.toNatClampNeg (x3 + (1 : Int32))))
      · have E := (if_pos c37).symm.trans E
        exact ih 103 0 0 (x3 : Int32) (x4 : Int32) h _ _ E hs
      have E := (if_neg c37).symm.trans E
      obtain ⟨f27, E⟩ := gd_some E
      obtain ⟨f28, E⟩ := gd_some E
      obtain ⟨e29, E⟩ := gd_some E
      obtain ⟨f30, E⟩ := gd_some E
      obtain ⟨z31, E⟩ := gd_some E
      obtain ⟨e32, E⟩ := gd_some E
      obtain ⟨f33, E⟩ := gd_some E
      obtain ⟨z34, E⟩ := gd_some E
      obtain ⟨H36, eH36, E⟩ := let_some E
      have hsH36 : ShC b0 H36 := by rw [eH36]; exact (ShC_wi hs)
      exact ih 60 0 0 ((x3 + (1 : Int32)) : Int32) (x4 : Int32) H36 _ _ E hsH36
    have E := (if_neg el2).symm.trans E
    by_cases el3 : lbl = 103
    · have E := (if_pos el3).symm.trans E
      by_cases c66 : x3 ≤ (0 : Int32)
      · have E := (if_pos c66).symm.trans E
        obtain ⟨f39, E⟩ := gd_some E
        obtain ⟨e40, E⟩ := gd_some E
        obtain ⟨f41, E⟩ := gd_some E
        obtain ⟨z42, E⟩ := gd_some E
        obtain ⟨H44, eH44, E⟩ := let_some E
        have hsH44 : ShC b0 H44 := by rw [eH44]; exact (ShC_wi hs)
        exact ea_shO E hsH44
      have E := (if_neg c66).symm.trans E
      obtain ⟨f45, E⟩ := gd_some E
      obtain ⟨e46, E⟩ := gd_some E
      obtain ⟨f47, E⟩ := gd_some E
      obtain ⟨z48, E⟩ := gd_some E
      by_cases c65 : (ea_i h (Option.getD (ea_r h a0 19) 0) (Int32.toNatClampNeg (x3 - (1 : Int32)))) ≤ x4
      · have E := (if_pos c65).symm.trans E
        obtain ⟨f49, E⟩ := gd_some E
        obtain ⟨e50, E⟩ := gd_some E
        obtain ⟨f51, E⟩ := gd_some E
        obtain ⟨z52, E⟩ := gd_some E
        obtain ⟨H54, eH54, E⟩ := let_some E
        have hsH54 : ShC b0 H54 := by rw [eH54]; exact (ShC_wi hs)
        exact ea_shO E hsH54
      have E := (if_neg c65).symm.trans E
      obtain ⟨f55, E⟩ := gd_some E
      obtain ⟨f56, E⟩ := gd_some E
      obtain ⟨e57, E⟩ := gd_some E
      obtain ⟨f58, E⟩ := gd_some E
      obtain ⟨z59, E⟩ := gd_some E
      obtain ⟨e60, E⟩ := gd_some E
      obtain ⟨f61, E⟩ := gd_some E
      obtain ⟨z62, E⟩ := gd_some E
      obtain ⟨H64, eH64, E⟩ := let_some E
      have hsH64 : ShC b0 H64 := by rw [eH64]; exact (ShC_wi hs)
      exact ih 103 0 0 ((x3 + ((-1) : Int32)) : Int32) (x4 : Int32) H64 _ _ E hsH64
    have E := (if_neg el3).symm.trans E
    cases E
theorem shX4_tell {b0 : Nat} {a0 : Nat} {x1 : Int32} {x2 : Int32} {h : ea_H} (hs : ShC b0 h) : ShC b0 (wX4_tell b0 a0 x1 x2 h) := by
  unfold wX4_tell
  cases K : qX4_tell b0 a0 x1 x2 h with
  | none => exact hs
  | some x => obtain ⟨x, y⟩ := x; unfold qX4_tell at K; exact zX4_tell _ _ _ _ _ _ _ _ _ K hs
noncomputable def gX4_foundByAll (b0 : Nat) (a0 : Nat) : Nat → Nat → Int32 → Int32 → Int32 → Int64 → Int64 → Int64 → Int64 → ea_H → Option (Int64 × ea_H)
  | 0, _, _, _, _, _, _, _, _, _ => none
  | f + 1, lbl, x1, x10, x6, y2, y4, y6, y8, h =>
    if lbl = 0 then (gX4_foundByAll b0 a0 f 8 (x1 : Int32) 0 (0 : Int32) (1 : Int64) (1 : Int64) 0 0 h) else
    if lbl = 8 then (gd ((a0 < ea_n h ∧ ea_c h a0 = 4)) (if (ea_i h a0 18) ≤ x6 then (gX4_foundByAll b0 a0 f 56 (x1 : Int32) (0 : Int32) 0 (y2 : Int64) (y4 : Int64) (y2 : Int64) ((y2 - y4) : Int64) h) else (gd ((a0 < ea_n h ∧ ea_c h a0 = 4)) (gd ((okX4_placeChance b0 a0 (x6 : Int32) h)) (gX4_foundByAll b0 a0 f 8 (x1 : Int32) 0 ((x6 + (1 : Int32)) : Int32) ((y2 * (100 : Int64)) : Int64) ((y4 * (Int32.toInt64 ((100 : Int32) - (vX4_placeChance b0 a0 (x6 : Int32) h)))) : Int64) 0 0 h))))) else
    if lbl = 56 then (if (100 : Int32) ≤ x10 then (gX4_foundByAll b0 a0 f 91 (x1 : Int32) 0 0 (y2 : Int64) (y4 : Int64) (y6 : Int64) 0 h) else (if (lg_cmp y8 (0 : Int64)) ≤ (0 : Int32) then (gX4_foundByAll b0 a0 f 91 (x1 : Int32) 0 0 (y2 : Int64) (y4 : Int64) (y6 : Int64) 0 h) else (gd ((¬ y8 = 0)) (gX4_foundByAll b0 a0 f 56 (x1 : Int32) ((x10 + (1 : Int32)) : Int32) 0 (y2 : Int64) (y4 : Int64) (y8 : Int64) ((y6 - y6 / y8 * y8) : Int64) h)))) else
    if lbl = 91 then (if (lg_cmp y6 (0 : Int64)) = (0 : Int32) then (some (((-1) : Int64), h)) else (if x1 = (0 : Int32) then (gd ((¬ y6 = 0)) (some ((y2 / y6), h))) else (gd ((¬ y6 = 0)) (some (((y2 - y4) / y6), h))))) else none
theorem tX4_foundByAll {d : Nat} {b0 : Nat} {a0 : Nat} {h0 : ea_H} (hd : 2 ≤ d) : ∀ (f lbl : Nat) (x1 : Int32) (x10 : Int32) (x6 : Int32) (y2 : Int64) (y4 : Int64) (y6 : Int64) (y8 : Int64) (h : ea_H) (r : Int64) (h' : ea_H), gX4_foundByAll b0 a0 f lbl x1 x10 x6 y2 y4 y6 y8 h = some (r, h') → ShC b0 h → (lbl = 0 → ea_W mX4_foundByAll d h0 (some (vJ r)) h' 0 [(0, vR (some a0)), (1, vI x1)] [] h) ∧ (lbl = 8 → ea_W mX4_foundByAll d h0 (some (vJ r)) h' 8 [(0, vR (some a0)), (1, vI x1), (2, vJ y2), (4, vJ y4), (6, vI x6)] [] h) ∧ (lbl = 56 → ea_W mX4_foundByAll d h0 (some (vJ r)) h' 56 [(1, vI x1), (2, vJ y2), (4, vJ y4), (6, vJ y6), (8, vJ y8), (10, vI x10)] [] h) ∧ (lbl = 91 → ea_W mX4_foundByAll d h0 (some (vJ r)) h' 91 [(1, vI x1), (2, vJ y2), (4, vJ y4), (6, vJ y6)] [] h) := by
  intro f
  induction f with
  | zero => intro lbl x1 x10 x6 y2 y4 y6 y8 h r h' E; cases E
  | succ f ih =>
    intro lbl x1 x10 x6 y2 y4 y6 y8 h r h' E hs
    unfold gX4_foundByAll at E
    refine ⟨?_, ?_⟩
    · intro el
      subst el
      have E := (if_pos rfl).symm.trans E
      refine ea_lconst (pc := 0) dX4_foundByAll_0 (v := 1) rfl ?_
      refine ea_lstore_n (pc := 1) (lv' := [(0, vR (some a0)), (1, vI x1), (2, vJ 1)]) dX4_foundByAll_1 rfl (Nat.le_of_ble_eq_true rfl) [1, 2, 0] rfl ?_
      refine ea_lconst (pc := 2) dX4_foundByAll_2 (v := 1) rfl ?_
      refine ea_lstore (pc := 3) (lv' := [(0, vR (some a0)), (1, vI x1), (2, vJ 1), (4, vJ 1)]) dX4_foundByAll_3 (Nat.le_of_ble_eq_true rfl) [1, 2, 3, 0] rfl ?_
      refine ea_iconst (pc := 5) dX4_foundByAll_5 (v := 0) rfl ?_
      refine ea_istore (pc := 6) (lv' := [(0, vR (some a0)), (1, vI x1), (2, vJ 1), (4, vJ 1), (6, vI 0)]) dX4_foundByAll_6 (Nat.le_of_ble_eq_true rfl) [1, 2, 3, 4, 0] rfl ?_
      exact ((ih 8 (x1 : Int32) 0 (0 : Int32) (1 : Int64) (1 : Int64) 0 0 h _ _ E hs).2.1 rfl)
    refine ⟨?_, ?_⟩
    · intro el
      subst el
      have E := (if_neg (by decide)).symm.trans E
      have E := (if_pos rfl).symm.trans E
      refine ea_iload (pc := 8) dX4_foundByAll_8 4 rfl ?_
      refine ea_aload_n (pc := 10) dX4_foundByAll_10 rfl 0 rfl ?_
      obtain ⟨f1, E⟩ := gd_some E
      refine ea_getI (pc := 11) dX4_foundByAll_11 ec_4 (k := 18) (Nat.le_of_ble_eq_true rfl) rfl (Or.inl ew_977) f1.1 f1.2 ?_
      refine ea_icmp_ge (pc := 14) (tgt := 44) dX4_foundByAll_14 rfl (fun c4 => ?_) (fun c4 => ?_)
      · have E := (if_pos c4).symm.trans E
        refine ea_lload_n (pc := 44) dX4_foundByAll_44 rfl 2 rfl ?_
        refine ea_lstore (pc := 45) (lv' := [(1, vI x1), (2, vJ y2), (4, vJ y4), (6, vJ y2)]) dX4_foundByAll_45 (Nat.le_of_ble_eq_true rfl) [2, 3, 4, 0] rfl ?_
        refine ea_lload_n (pc := 47) dX4_foundByAll_47 rfl 1 rfl ?_
        refine ea_lload (pc := 48) dX4_foundByAll_48 2 rfl ?_
        refine ea_lsub (pc := 50) dX4_foundByAll_50 ?_
        refine ea_lstore (pc := 51) (lv' := [(1, vI x1), (2, vJ y2), (4, vJ y4), (6, vJ y2), (8, vJ (y2 - y4))]) dX4_foundByAll_51 (Nat.le_of_ble_eq_true rfl) [1, 2, 3, 4, 0] rfl ?_
        refine ea_iconst (pc := 53) dX4_foundByAll_53 (v := 0) rfl ?_
        refine ea_istore (pc := 54) (lv' := [(1, vI x1), (2, vJ y2), (4, vJ y4), (6, vJ y2), (8, vJ (y2 - y4)), (10, vI 0)]) dX4_foundByAll_54 (Nat.le_of_ble_eq_true rfl) [1, 2, 3, 4, 5, 0] rfl ?_
        exact ((ih 56 (x1 : Int32) (0 : Int32) 0 (y2 : Int64) (y4 : Int64) (y2 : Int64) ((y2 - y4) : Int64) h _ _ E hs).2.2.1 rfl)
      · have E := (if_neg c4).symm.trans E
        refine ea_lload_n (pc := 17) dX4_foundByAll_17 rfl 2 rfl ?_
        refine ea_ldc2 (pc := 18) dX4_foundByAll_18 ew_1211 ?_
        refine ea_lmul (pc := 21) dX4_foundByAll_21 ?_
        refine ea_lstore_n (pc := 22) (lv' := [(0, vR (some a0)), (1, vI x1), (2, vJ (y2 * (100 : Int64))), (4, vJ y4), (6, vI x6)]) dX4_foundByAll_22 rfl (Nat.le_of_ble_eq_true rfl) [1, 2, 0, 3, 4] rfl ?_
        refine ea_lload (pc := 23) dX4_foundByAll_23 3 rfl ?_
        refine ea_bipush (pc := 25) dX4_foundByAll_25 (v := 100) rfl ?_
        refine ea_aload_n (pc := 27) dX4_foundByAll_27 rfl 0 rfl ?_
        refine ea_iload (pc := 28) dX4_foundByAll_28 4 rfl ?_
        obtain ⟨f2, E⟩ := gd_some E
        obtain ⟨z3, E⟩ := gd_some E
        refine ea_callV (pc := 30) (d' := d - 1) (As := [vI x6]) (st := [vI 100, vJ y4]) dX4_foundByAll_30 kX4_placeChance (sX4_placeChance (d := d - 1) (by omega) hs z3) (by omega) rfl (Nat.le_of_ble_eq_true rfl) ew_1212 ew_1213 ew_1214 (ci := 4) rfl (by decide) f2.1 f2.2 ?_
        refine ea_isub (pc := 33) dX4_foundByAll_33 ?_
        refine ea_i2l (pc := 34) dX4_foundByAll_34 ?_
        refine ea_lmul (pc := 35) dX4_foundByAll_35 ?_
        refine ea_lstore (pc := 36) (lv' := [(0, vR (some a0)), (1, vI x1), (2, vJ (y2 * (100 : Int64))), (4, vJ (y4 * (Int32.toInt64 ((100 : Int32) - (vX4_placeChance b0 a0 (x6 : Int32) h))))), (6, vI x6)]) dX4_foundByAll_36 (Nat.le_of_ble_eq_true rfl) [1, 2, 3, 0, 4] rfl ?_
        refine ea_iinc (pc := 38) (v := 1) (lv' := [(0, vR (some a0)), (1, vI x1), (2, vJ (y2 * (100 : Int64))), (4, vJ (y4 * (Int32.toInt64 ((100 : Int32) - (vX4_placeChance b0 a0 (x6 : Int32) h))))), (6, vI (x6 + (1 : Int32)))]) dX4_foundByAll_38 4 rfl rfl (Nat.le_of_ble_eq_true rfl) [1, 2, 3, 4, 0] rfl ?_
        refine ea_goto (pc := 41) (tgt := 8) dX4_foundByAll_41 rfl ?_
        exact ((ih 8 (x1 : Int32) 0 ((x6 + (1 : Int32)) : Int32) ((y2 * (100 : Int64)) : Int64) ((y4 * (Int32.toInt64 ((100 : Int32) - (vX4_placeChance b0 a0 (x6 : Int32) h)))) : Int64) 0 0 h _ _ E hs).2.1 rfl)
    refine ⟨?_, ?_⟩
    · intro el
      subst el
      have E := (if_neg (by decide)).symm.trans E
      have E := (if_neg (by decide)).symm.trans E
      have E := (if_pos rfl).symm.trans E
      refine ea_iload (pc := 56) dX4_foundByAll_56 5 rfl ?_
      refine ea_bipush (pc := 58) dX4_foundByAll_58 (v := 100) rfl ?_
      refine ea_icmp_ge (pc := 60) (tgt := 91) dX4_foundByAll_60 rfl (fun c7 => ?_) (fun c7 => ?_)
      · have E := (if_pos c7).symm.trans E
        exact (ea_fewer [0, 1, 2, 3] rfl ((ih 91 (x1 : Int32) 0 0 (y2 : Int64) (y4 : Int64) (y6 : Int64) 0 h _ _ E hs).2.2.2 rfl))
      · have E := (if_neg c7).symm.trans E
        refine ea_lload (pc := 63) dX4_foundByAll_63 4 rfl ?_
        refine ea_lconst (pc := 65) dX4_foundByAll_65 (v := 0) rfl ?_
        refine ea_lcmp (pc := 66) dX4_foundByAll_66 ?_
        refine ea_if_le (pc := 67) (tgt := 91) dX4_foundByAll_67 rfl (fun c6 => ?_) (fun c6 => ?_)
        · have E := (if_pos c6).symm.trans E
          exact (ea_fewer [0, 1, 2, 3] rfl ((ih 91 (x1 : Int32) 0 0 (y2 : Int64) (y4 : Int64) (y6 : Int64) 0 h _ _ E hs).2.2.2 rfl))
        · have E := (if_neg c6).symm.trans E
          refine ea_lload (pc := 70) dX4_foundByAll_70 3 rfl ?_
          refine ea_lload (pc := 72) dX4_foundByAll_72 4 rfl ?_
          obtain ⟨z5, E⟩ := gd_some E
          refine ea_lrem (pc := 74) dX4_foundByAll_74 z5 ?_
          refine ea_lstore (pc := 75) (lv' := [(1, vI x1), (2, vJ y2), (4, vJ y4), (8, vJ y8), (10, vI x10), (11, vJ (y6 - y6 / y8 * y8))]) dX4_foundByAll_75 (Nat.le_of_ble_eq_true rfl) [1, 2, 3, 5, 6, 0] rfl ?_
          refine ea_lload (pc := 77) dX4_foundByAll_77 3 rfl ?_
          refine ea_lstore (pc := 79) (lv' := [(1, vI x1), (2, vJ y2), (4, vJ y4), (6, vJ y8), (10, vI x10), (11, vJ (y6 - y6 / y8 * y8))]) dX4_foundByAll_79 (Nat.le_of_ble_eq_true rfl) [1, 2, 3, 0, 5, 6] rfl ?_
          refine ea_lload (pc := 81) dX4_foundByAll_81 5 rfl ?_
          refine ea_lstore (pc := 83) (lv' := [(1, vI x1), (2, vJ y2), (4, vJ y4), (6, vJ y8), (8, vJ (y6 - y6 / y8 * y8)), (10, vI x10)]) dX4_foundByAll_83 (Nat.le_of_ble_eq_true rfl) [1, 2, 3, 4, 0, 5] rfl ?_
          refine ea_iinc (pc := 85) (v := 1) (lv' := [(1, vI x1), (2, vJ y2), (4, vJ y4), (6, vJ y8), (8, vJ (y6 - y6 / y8 * y8)), (10, vI (x10 + (1 : Int32)))]) dX4_foundByAll_85 5 rfl rfl (Nat.le_of_ble_eq_true rfl) [1, 2, 3, 4, 5, 0] rfl ?_
          refine ea_goto (pc := 88) (tgt := 56) dX4_foundByAll_88 rfl ?_
          exact ((ih 56 (x1 : Int32) ((x10 + (1 : Int32)) : Int32) 0 (y2 : Int64) (y4 : Int64) (y8 : Int64) ((y6 - y6 / y8 * y8) : Int64) h _ _ E hs).2.2.1 rfl)
    intro el
    subst el
    have E := (if_neg (by decide)).symm.trans E
    have E := (if_neg (by decide)).symm.trans E
    have E := (if_neg (by decide)).symm.trans E
    have E := (if_pos rfl).symm.trans E
    refine ea_lload (pc := 91) dX4_foundByAll_91 3 rfl ?_
    refine ea_lconst (pc := 93) dX4_foundByAll_93 (v := 0) rfl ?_
    refine ea_lcmp (pc := 94) dX4_foundByAll_94 ?_
    refine ea_if_ne (pc := 95) (tgt := 102) dX4_foundByAll_95 rfl (fun c11 => ?_) (fun c11 => ?_)
    · have E := (if_neg c11).symm.trans E
      refine ea_iload_n (pc := 102) dX4_foundByAll_102 rfl 0 rfl ?_
      refine ea_if_eq (pc := 103) (tgt := 113) dX4_foundByAll_103 rfl (fun c10 => ?_) (fun c10 => ?_)
      · have E := (if_pos c10).symm.trans E
        refine ea_lload_n (pc := 113) dX4_foundByAll_113 rfl 1 rfl ?_
        refine ea_lload (pc := 114) dX4_foundByAll_114 3 rfl ?_
        obtain ⟨z8, E⟩ := gd_some E
        refine ea_ldiv (pc := 116) dX4_foundByAll_116 z8 ?_
        exact ea_lretO (pc := 117) dX4_foundByAll_117 rfl E
      · have E := (if_neg c10).symm.trans E
        refine ea_lload_n (pc := 106) dX4_foundByAll_106 rfl 1 rfl ?_
        refine ea_lload (pc := 107) dX4_foundByAll_107 2 rfl ?_
        refine ea_lsub (pc := 109) dX4_foundByAll_109 ?_
        refine ea_goto (pc := 110) (tgt := 114) dX4_foundByAll_110 rfl ?_
        refine ea_lload (pc := 114) dX4_foundByAll_114 3 rfl ?_
        obtain ⟨z9, E⟩ := gd_some E
        refine ea_ldiv (pc := 116) dX4_foundByAll_116 z9 ?_
        exact ea_lretO (pc := 117) dX4_foundByAll_117 rfl E
    · have E := (if_pos c11).symm.trans E
      refine ea_ldc2 (pc := 98) dX4_foundByAll_98 ew_1216 ?_
      exact ea_lretO (pc := 101) dX4_foundByAll_101 rfl E
noncomputable def qX4_foundByAll (b0 : Nat) (a0 : Nat) (x1 : Int32) (h : ea_H) : Option (Int64 × ea_H) := gX4_foundByAll b0 a0 1000000000 0 x1 0 0 0 0 0 0 h
def okX4_foundByAll (b0 : Nat) (a0 : Nat) (x1 : Int32) (h : ea_H) : Prop := ∃ x, qX4_foundByAll b0 a0 x1 h = some x
noncomputable def vX4_foundByAll (b0 : Nat) (a0 : Nat) (x1 : Int32) (h : ea_H) : Int64 := ((qX4_foundByAll b0 a0 x1 h).getD (0, h)).1
noncomputable def wX4_foundByAll (b0 : Nat) (a0 : Nat) (x1 : Int32) (h : ea_H) : ea_H := ((qX4_foundByAll b0 a0 x1 h).getD (0, h)).2
theorem sX4_foundByAll {d : Nat} {b0 : Nat} {a0 : Nat} {x1 : Int32} {h : ea_H} (hd : 2 ≤ d) (hs : ShC b0 h) (K : okX4_foundByAll b0 a0 x1 h) : ea_Met mX4_foundByAll d [vR (some a0), vI x1] h (some (vJ (vX4_foundByAll b0 a0 x1 h))) (wX4_foundByAll b0 a0 x1 h) := by
  obtain ⟨⟨x, y⟩, K⟩ := K
  unfold wX4_foundByAll vX4_foundByAll
  rw [K]
  unfold qX4_foundByAll at K
  exact ea_enter rfl (Nat.le_of_ble_eq_true rfl) ((tX4_foundByAll hd 1000000000 0 x1 0 0 0 0 0 0 h x y K hs).1 rfl)
theorem zX4_foundByAll {b0 : Nat} {a0 : Nat} : ∀ (f lbl : Nat) (x1 : Int32) (x10 : Int32) (x6 : Int32) (y2 : Int64) (y4 : Int64) (y6 : Int64) (y8 : Int64) (h : ea_H) (r : Int64) (h' : ea_H), gX4_foundByAll b0 a0 f lbl x1 x10 x6 y2 y4 y6 y8 h = some (r, h') → ShC b0 h → ShC b0 h' := by
  intro f
  induction f with
  | zero => intro lbl x1 x10 x6 y2 y4 y6 y8 h r h' E; cases E
  | succ f ih =>
    intro lbl x1 x10 x6 y2 y4 y6 y8 h r h' E hs
    unfold gX4_foundByAll at E
    by_cases el0 : lbl = 0
    · have E := (if_pos el0).symm.trans E
      exact ih 8 (x1 : Int32) 0 (0 : Int32) (1 : Int64) (1 : Int64) 0 0 h _ _ E hs
    have E := (if_neg el0).symm.trans E
    by_cases el1 : lbl = 8
    · have E := (if_pos el1).symm.trans E
      obtain ⟨f1, E⟩ := gd_some E
      by_cases c4 : (ea_i h a0 18) ≤ x6
      · have E := (if_pos c4).symm.trans E
        exact ih 56 (x1 : Int32) (0 : Int32) 0 (y2 : Int64) (y4 : Int64) (y2 : Int64) ((y2 - y4) : Int64) h _ _ E hs
      have E := (if_neg c4).symm.trans E
      obtain ⟨f2, E⟩ := gd_some E
      obtain ⟨z3, E⟩ := gd_some E
      exact ih 8 (x1 : Int32) 0 ((x6 + (1 : Int32)) : Int32) ((y2 * (100 : Int64)) : Int64) ((y4 * (Int32.toInt64 ((100 : Int32) - (vX4_placeChance b0 a0 (x6 : Int32) h)))) : Int64) 0 0 h _ _ E hs
    have E := (if_neg el1).symm.trans E
    by_cases el2 : lbl = 56
    · have E := (if_pos el2).symm.trans E
      by_cases c7 : (100 : Int32) ≤ x10
      · have E := (if_pos c7).symm.trans E
        exact ih 91 (x1 : Int32) 0 0 (y2 : Int64) (y4 : Int64) (y6 : Int64) 0 h _ _ E hs
      have E := (if_neg c7).symm.trans E
      by_cases c6 : (lg_cmp y8 (0 : Int64)) ≤ (0 : Int32)
      · have E := (if_pos c6).symm.trans E
        exact ih 91 (x1 : Int32) 0 0 (y2 : Int64) (y4 : Int64) (y6 : Int64) 0 h _ _ E hs
      have E := (if_neg c6).symm.trans E
      obtain ⟨z5, E⟩ := gd_some E
      exact ih 56 (x1 : Int32) ((x10 + (1 : Int32)) : Int32) 0 (y2 : Int64) (y4 : Int64) (y8 : Int64) ((y6 - y6 / y8 * y8) : Int64) h _ _ E hs
    have E := (if_neg el2).symm.trans E
    by_cases el3 : lbl = 91
    · have E := (if_pos el3).symm.trans E
      by_cases c11 : (lg_cmp y6 (0 : Int64)) = (0 : Int32)
      · have E := (if_pos c11).symm.trans E
        exact ea_shO E hs
      have E := (if_neg c11).symm.trans E
      by_cases c10 : x1 = (0 : Int32)
      · have E := (if_pos c10).symm.trans E
        obtain ⟨z8, E⟩ := gd_some E
        exact ea_shO E hs
      have E := (if_neg c10).symm.trans E
      obtain ⟨z9, E⟩ := gd_some E
      exact ea_shO E hs
    have E := (if_neg el3).symm.trans E
    cases E
theorem shX4_foundByAll {b0 : Nat} {a0 : Nat} {x1 : Int32} {h : ea_H} (hs : ShC b0 h) : ShC b0 (wX4_foundByAll b0 a0 x1 h) := by
  unfold wX4_foundByAll
  cases K : qX4_foundByAll b0 a0 x1 h with
  | none => exact hs
  | some x => obtain ⟨x, y⟩ := x; unfold qX4_foundByAll at K; exact zX4_foundByAll _ _ _ _ _ _ _ _ _ _ _ _ K hs
noncomputable def gX5_init (a0 : Nat) : Nat → Nat → ea_H → Option (Unit × ea_H)
  | 0, _, _ => none
  | f + 1, lbl, h =>
    (gd ((a0 < ea_n h ∧ ea_c h a0 = 5)) (ea_let (ea_wi h a0 2 (-1)) fun H3 => (ea_let (ea_new H3 20 600 600) fun H5 => (gd ((a0 < ea_n H5 ∧ ea_c H5 a0 = 5)) (ea_let (ea_wr H5 a0 3 (some (ea_n H3))) fun H8 => (ea_let (ea_new H8 20 601 601) fun H10 => (gd ((a0 < ea_n H10 ∧ ea_c H10 a0 = 5)) (ea_let (ea_wr H10 a0 4 (some (ea_n H8))) fun H13 => (ea_let (ea_new H13 20 601 601) fun H15 => (gd ((a0 < ea_n H15 ∧ ea_c H15 a0 = 5)) (ea_let (ea_wr H15 a0 5 (some (ea_n H13))) fun H18 => (ea_let (ea_new H18 20 601 601) fun H20 => (gd ((a0 < ea_n H20 ∧ ea_c H20 a0 = 5)) (ea_let (ea_wr H20 a0 6 (some (ea_n H18))) fun H23 => (ea_let (ea_new H23 20 648 648) fun H25 => (gd ((a0 < ea_n H25 ∧ ea_c H25 a0 = 5)) (ea_let (ea_wr H25 a0 10 (some (ea_n H23))) fun H28 => (some ((), H28)))))))))))))))))))
theorem tX5_init {d : Nat} {a0 : Nat} {h0 : ea_H} (hd : 2 ≤ d) : ∀ (f lbl : Nat) (h : ea_H) (r : Unit) (h' : ea_H), gX5_init a0 f lbl  h = some (r, h') → (lbl = 0 → ea_W mX5_init d h0 none h' 0 [(0, vR (some a0))] [] h) := by
  intro f
  induction f with
  | zero => intro lbl  h r h' E; cases E
  | succ f ih =>
    intro lbl  h r h' E
    unfold gX5_init at E
    intro el
    subst el
    refine ea_aload_n (pc := 0) dX5_init_0 rfl 0 rfl ?_
    refine ea_objInit (pc := 1) dX5_init_1 ew_290 ew_134 ew_135 (by omega) (Nat.le_of_ble_eq_true rfl) ?_
    refine ea_aload_n (pc := 4) dX5_init_4 rfl 0 rfl ?_
    refine ea_iconst (pc := 5) dX5_init_5 (v := (-1)) rfl ?_
    obtain ⟨f1, E⟩ := gd_some E
    refine ea_putI (pc := 6) dX5_init_6 ec_5 (k := 2) (Nat.le_of_ble_eq_true rfl) rfl (Or.inl ⟨rfl, Or.inl ew_295⟩) rfl rfl f1.1 f1.2 ?_
    obtain ⟨H3, eH3, E⟩ := let_some E
    refine ea_nm eH3 ?_
    refine ea_aload_n (pc := 9) dX5_init_9 rfl 0 rfl ?_
    refine ea_sipush (pc := 10) dX5_init_10 (v := 600) rfl ?_
    refine ea_newI (pc := 13) (N := 600) dX5_init_13 ew_170 (by decide) rfl (Nat.le_of_ble_eq_true rfl) ?_
    obtain ⟨H5, eH5, E⟩ := let_some E
    refine ea_nm eH5 ?_
    obtain ⟨f6, E⟩ := gd_some E
    refine ea_putR (pc := 15) dX5_init_15 ec_5 (k := 3) (Nat.le_of_ble_eq_true rfl) rfl (Or.inr ⟨rfl, rfl, rfl, ew_297⟩) f6.1 f6.2 ?_
    obtain ⟨H8, eH8, E⟩ := let_some E
    refine ea_nm eH8 ?_
    refine ea_aload_n (pc := 18) dX5_init_18 rfl 0 rfl ?_
    refine ea_sipush (pc := 19) dX5_init_19 (v := 601) rfl ?_
    refine ea_newI (pc := 22) (N := 601) dX5_init_22 ew_170 (by decide) rfl (Nat.le_of_ble_eq_true rfl) ?_
    obtain ⟨H10, eH10, E⟩ := let_some E
    refine ea_nm eH10 ?_
    obtain ⟨f11, E⟩ := gd_some E
    refine ea_putR (pc := 24) dX5_init_24 ec_5 (k := 4) (Nat.le_of_ble_eq_true rfl) rfl (Or.inr ⟨rfl, rfl, rfl, ew_298⟩) f11.1 f11.2 ?_
    obtain ⟨H13, eH13, E⟩ := let_some E
    refine ea_nm eH13 ?_
    refine ea_aload_n (pc := 27) dX5_init_27 rfl 0 rfl ?_
    refine ea_sipush (pc := 28) dX5_init_28 (v := 601) rfl ?_
    refine ea_newI (pc := 31) (N := 601) dX5_init_31 ew_170 (by decide) rfl (Nat.le_of_ble_eq_true rfl) ?_
    obtain ⟨H15, eH15, E⟩ := let_some E
    refine ea_nm eH15 ?_
    obtain ⟨f16, E⟩ := gd_some E
    refine ea_putR (pc := 33) dX5_init_33 ec_5 (k := 5) (Nat.le_of_ble_eq_true rfl) rfl (Or.inr ⟨rfl, rfl, rfl, ew_299⟩) f16.1 f16.2 ?_
    obtain ⟨H18, eH18, E⟩ := let_some E
    refine ea_nm eH18 ?_
    refine ea_aload_n (pc := 36) dX5_init_36 rfl 0 rfl ?_
    refine ea_sipush (pc := 37) dX5_init_37 (v := 601) rfl ?_
    refine ea_newI (pc := 40) (N := 601) dX5_init_40 ew_170 (by decide) rfl (Nat.le_of_ble_eq_true rfl) ?_
    obtain ⟨H20, eH20, E⟩ := let_some E
    refine ea_nm eH20 ?_
    obtain ⟨f21, E⟩ := gd_some E
    refine ea_putR (pc := 42) dX5_init_42 ec_5 (k := 6) (Nat.le_of_ble_eq_true rfl) rfl (Or.inr ⟨rfl, rfl, rfl, ew_300⟩) f21.1 f21.2 ?_
    obtain ⟨H23, eH23, E⟩ := let_some E
    refine ea_nm eH23 ?_
    refine ea_aload_n (pc := 45) dX5_init_45 rfl 0 rfl ?_
    refine ea_sipush (pc := 46) dX5_init_46 (v := 648) rfl ?_
    refine ea_newI (pc := 49) (N := 648) dX5_init_49 ew_170 (by decide) rfl (Nat.le_of_ble_eq_true rfl) ?_
    obtain ⟨H25, eH25, E⟩ := let_some E
    refine ea_nm eH25 ?_
    obtain ⟨f26, E⟩ := gd_some E
    refine ea_putR (pc := 51) dX5_init_51 ec_5 (k := 10) (Nat.le_of_ble_eq_true rfl) rfl (Or.inr ⟨rfl, rfl, rfl, ew_304⟩) f26.1 f26.2 ?_
    obtain ⟨H28, eH28, E⟩ := let_some E
    refine ea_nm eH28 ?_
    exact ea_vretO (pc := 54) dX5_init_54 rfl E
noncomputable def qX5_init (a0 : Nat) (h : ea_H) : Option (Unit × ea_H) := gX5_init a0 1000000000 0  h
def okX5_init (a0 : Nat) (h : ea_H) : Prop := ∃ x, qX5_init a0 h = some x
noncomputable def wX5_init (a0 : Nat) (h : ea_H) : ea_H := ((qX5_init a0 h).getD ((), h)).2
theorem sX5_init {d : Nat} {a0 : Nat} {h : ea_H} (hd : 2 ≤ d) (K : okX5_init a0 h) : ea_Met mX5_init d [vR (some a0)] h none (wX5_init a0 h) := by
  obtain ⟨⟨x, y⟩, K⟩ := K
  unfold wX5_init
  rw [K]
  unfold qX5_init at K
  exact ea_enter rfl (Nat.le_of_ble_eq_true rfl) ((tX5_init hd 1000000000 0  h x y K) rfl)
noncomputable def gX5_take (b0 : Nat) : Nat → Nat → Int32 → Int32 → ea_H → Option (Unit × ea_H)
  | 0, _, _, _, _ => none
  | f + 1, lbl, x1, x2, h =>
    if lbl = 0 then (gX5_take b0 f 3 (x1 : Int32) (24 : Int32) h) else
    if lbl = 3 then (if x2 < (0 : Int32) then (some ((), h)) else (if (600 : Int32) ≤ (ea_i h (b0 + 22) 0) then (gX5_take b0 f 3 (x1 : Int32) ((x2 + ((-8) : Int32)) : Int32) h) else (gd (vp_in (ea_i h (b0 + 22) 0) 600) (ea_let (ea_wi h (b0 + 23) (Int32.toNatClampNeg (ea_i h (b0 + 22) 0)) ((x1 >>> (x2 &&& 31)) &&& (255 : Int32))) fun H3 => (ea_let (ea_wi H3 (b0 + 22) 0 ((ea_i H3 (b0 + 22) 0) + (1 : Int32))) fun H5 => (gX5_take b0 f 3 (x1 : Int32) ((x2 + ((-8) : Int32)) : Int32) H5)))))) else none
theorem tX5_take {d : Nat} {b0 : Nat} {h0 : ea_H} (hd : 1 ≤ d) : ∀ (f lbl : Nat) (x1 : Int32) (x2 : Int32) (h : ea_H) (r : Unit) (h' : ea_H), gX5_take b0 f lbl x1 x2 h = some (r, h') → ShC b0 h → (lbl = 0 → ea_W mX5_take d h0 none h' 0 [(0, vR (some (b0 + 22))), (1, vI x1)] [] h) ∧ (lbl = 3 → ea_W mX5_take d h0 none h' 3 [(0, vR (some (b0 + 22))), (1, vI x1), (2, vI x2)] [] h) := by
  intro f
  induction f with
  | zero => intro lbl x1 x2 h r h' E; cases E
  | succ f ih =>
    intro lbl x1 x2 h r h' E hs
    unfold gX5_take at E
    refine ⟨?_, ?_⟩
    · intro el
      subst el
      have E := (if_pos rfl).symm.trans E
      refine ea_bipush (pc := 0) dX5_take_0 (v := 24) rfl ?_
      refine ea_istore_n (pc := 2) (lv' := [(0, vR (some (b0 + 22))), (1, vI x1), (2, vI 24)]) dX5_take_2 rfl (Nat.le_of_ble_eq_true rfl) [1, 2, 0] rfl ?_
      exact ((ih 3 (x1 : Int32) (24 : Int32) h _ _ E hs).2 rfl)
    intro el
    subst el
    have E := (if_neg (by decide)).symm.trans E
    have E := (if_pos rfl).symm.trans E
    refine ea_iload_n (pc := 3) dX5_take_3 rfl 2 rfl ?_
    refine ea_if_lt (pc := 4) (tgt := 49) dX5_take_4 rfl (fun c7 => ?_) (fun c7 => ?_)
    · have E := (if_pos c7).symm.trans E
      exact ea_vretO (pc := 49) dX5_take_49 rfl E
    · have E := (if_neg c7).symm.trans E
      refine ea_aload_n (pc := 7) dX5_take_7 rfl 0 rfl ?_
      refine ea_getI (pc := 8) dX5_take_8 ec_5 (k := 0) (Nat.le_of_ble_eq_true rfl) rfl (Or.inl ew_291) (hs.1 22 (by decide)).1 (hs.1 22 (by decide)).2.1 ?_
      refine ea_sipush (pc := 11) dX5_take_11 (v := 600) rfl ?_
      refine ea_icmp_ge (pc := 14) (tgt := 43) dX5_take_14 rfl (fun c6 => ?_) (fun c6 => ?_)
      · have E := (if_pos c6).symm.trans E
        refine ea_iinc (pc := 43) (v := (-8)) (lv' := [(0, vR (some (b0 + 22))), (1, vI x1), (2, vI (x2 + ((-8) : Int32)))]) dX5_take_43 2 rfl rfl (Nat.le_of_ble_eq_true rfl) [1, 2, 0] rfl ?_
        refine ea_goto (pc := 46) (tgt := 3) dX5_take_46 rfl ?_
        exact ((ih 3 (x1 : Int32) ((x2 + ((-8) : Int32)) : Int32) h _ _ E hs).2 rfl)
      · have E := (if_neg c6).symm.trans E
        refine ea_aload_n (pc := 17) dX5_take_17 rfl 0 rfl ?_
        refine ea_getR (pc := 18) dX5_take_18 ec_5 (k := 3) (Nat.le_of_ble_eq_true rfl) rfl (Or.inl ew_297) (hs.1 22 (by decide)).1 (hs.1 22 (by decide)).2.1 (hs.2 22 3 rfl) ?_
        refine ea_aload_n (pc := 21) dX5_take_21 rfl 0 rfl ?_
        refine ea_getI (pc := 22) dX5_take_22 ec_5 (k := 0) (Nat.le_of_ble_eq_true rfl) rfl (Or.inl ew_291) (hs.1 22 (by decide)).1 (hs.1 22 (by decide)).2.1 ?_
        refine ea_iload_n (pc := 25) dX5_take_25 rfl 1 rfl ?_
        refine ea_iload_n (pc := 26) dX5_take_26 rfl 2 rfl ?_
        refine ea_ishr (pc := 27) dX5_take_27 ?_
        refine ea_sipush (pc := 28) dX5_take_28 (v := 255) rfl ?_
        refine ea_iand (pc := 31) dX5_take_31 ?_
        obtain ⟨z1, E⟩ := gd_some E
        refine ea_iast (pc := 32) dX5_take_32 (hs.1 23 (by decide)).1 (hs.1 23 (by decide)).2.1 (ea_vpl (hs.1 23 (by decide)).2.2 z1) ?_
        have hs2 : ShC b0 (ea_wi h (b0 + 23) (Int32.toNatClampNeg (ea_i h (b0 + 22) 0)) ((x1 >>> (x2 &&& 31)) &&& (255 : Int32))) := ShC_wi hs
        obtain ⟨H3, eH3, E⟩ := let_some E
        refine ea_nm eH3 ?_
        have hsH3 : ShC b0 H3 := by rw [eH3]; exact hs2
        refine ea_aload_n (pc := 33) dX5_take_33 rfl 0 rfl ?_
        refine ea_dup (pc := 34) dX5_take_34 rfl ?_
        refine ea_getI (pc := 35) dX5_take_35 ec_5 (k := 0) (Nat.le_of_ble_eq_true rfl) rfl (Or.inl ew_291) (hsH3.1 22 (by decide)).1 (hsH3.1 22 (by decide)).2.1 ?_
        refine ea_iconst (pc := 38) dX5_take_38 (v := 1) rfl ?_
        refine ea_iadd (pc := 39) dX5_take_39 ?_
        refine ea_putI (pc := 40) dX5_take_40 ec_5 (k := 0) (Nat.le_of_ble_eq_true rfl) rfl (Or.inl ⟨rfl, Or.inl ew_291⟩) rfl rfl (hsH3.1 22 (by decide)).1 (hsH3.1 22 (by decide)).2.1 ?_
        have hs4 : ShC b0 (ea_wi H3 (b0 + 22) 0 ((ea_i H3 (b0 + 22) 0) + (1 : Int32))) := ShC_wi hsH3
        obtain ⟨H5, eH5, E⟩ := let_some E
        refine ea_nm eH5 ?_
        have hsH5 : ShC b0 H5 := by rw [eH5]; exact hs4
        refine ea_iinc (pc := 43) (v := (-8)) (lv' := [(0, vR (some (b0 + 22))), (1, vI x1), (2, vI (x2 + ((-8) : Int32)))]) dX5_take_43 2 rfl rfl (Nat.le_of_ble_eq_true rfl) [1, 2, 0] rfl ?_
        refine ea_goto (pc := 46) (tgt := 3) dX5_take_46 rfl ?_
        exact ((ih 3 (x1 : Int32) ((x2 + ((-8) : Int32)) : Int32) H5 _ _ E hsH5).2 rfl)
noncomputable def qX5_take (b0 : Nat) (x1 : Int32) (h : ea_H) : Option (Unit × ea_H) := gX5_take b0 1000000000 0 x1 0 h
def okX5_take (b0 : Nat) (x1 : Int32) (h : ea_H) : Prop := ∃ x, qX5_take b0 x1 h = some x
noncomputable def wX5_take (b0 : Nat) (x1 : Int32) (h : ea_H) : ea_H := ((qX5_take b0 x1 h).getD ((), h)).2
theorem sX5_take {d : Nat} {b0 : Nat} {x1 : Int32} {h : ea_H} (hd : 1 ≤ d) (hs : ShC b0 h) (K : okX5_take b0 x1 h) : ea_Met mX5_take d [vR (some (b0 + 22)), vI x1] h none (wX5_take b0 x1 h) := by
  obtain ⟨⟨x, y⟩, K⟩ := K
  unfold wX5_take
  rw [K]
  unfold qX5_take at K
  exact ea_enter rfl (Nat.le_of_ble_eq_true rfl) ((tX5_take hd 1000000000 0 x1 0 h x y K hs).1 rfl)
theorem zX5_take {b0 : Nat} : ∀ (f lbl : Nat) (x1 : Int32) (x2 : Int32) (h : ea_H) (r : Unit) (h' : ea_H), gX5_take b0 f lbl x1 x2 h = some (r, h') → ShC b0 h → ShC b0 h' := by
  intro f
  induction f with
  | zero => intro lbl x1 x2 h r h' E; cases E
  | succ f ih =>
    intro lbl x1 x2 h r h' E hs
    unfold gX5_take at E
    by_cases el0 : lbl = 0
    · have E := (if_pos el0).symm.trans E
      exact ih 3 (x1 : Int32) (24 : Int32) h _ _ E hs
    have E := (if_neg el0).symm.trans E
    by_cases el1 : lbl = 3
    · have E := (if_pos el1).symm.trans E
      by_cases c7 : x2 < (0 : Int32)
      · have E := (if_pos c7).symm.trans E
        exact ea_shO E hs
      have E := (if_neg c7).symm.trans E
      by_cases c6 : (600 : Int32) ≤ (ea_i h (b0 + 22) 0)
      · have E := (if_pos c6).symm.trans E
        exact ih 3 (x1 : Int32) ((x2 + ((-8) : Int32)) : Int32) h _ _ E hs
      have E := (if_neg c6).symm.trans E
      obtain ⟨z1, E⟩ := gd_some E
      obtain ⟨H3, eH3, E⟩ := let_some E
      have hsH3 : ShC b0 H3 := by rw [eH3]; exact (ShC_wi hs)
      obtain ⟨H5, eH5, E⟩ := let_some E
      have hsH5 : ShC b0 H5 := by rw [eH5]; exact (ShC_wi hsH3)
      exact ih 3 (x1 : Int32) ((x2 + ((-8) : Int32)) : Int32) H5 _ _ E hsH5
    have E := (if_neg el1).symm.trans E
    cases E
theorem shX5_take {b0 : Nat} {x1 : Int32} {h : ea_H} (hs : ShC b0 h) : ShC b0 (wX5_take b0 x1 h) := by
  unfold wX5_take
  cases K : qX5_take b0 x1 h with
  | none => exact hs
  | some x => obtain ⟨x, y⟩ := x; unfold qX5_take at K; exact zX5_take _ _ _ _ _ _ _ K hs
noncomputable def gX5_readNots (b0 : Nat) : Nat → Nat → Int32 → ea_H → Option (Int32 × ea_H)
  | 0, _, _, _ => none
  | f + 1, lbl, x1, h =>
    if lbl = 0 then (gX5_readNots b0 f 2 (0 : Int32) h) else
    if lbl = 2 then (if (8 : Int32) < x1 then (some (x1, h)) else (if (ea_i h (b0 + 22) 9) = (15 : Int32) then (if x1 = (8 : Int32) then (gd ((okX5_refuse b0 (3 : Int32) h)) (ea_let (wX5_refuse b0 (3 : Int32) h) fun H6 => (some (((-1) : Int32), H6)))) else (gd ((okX5_step b0 h)) (ea_let (wX5_step b0 h) fun H3 => (gX5_readNots b0 f 2 ((x1 + (1 : Int32)) : Int32) H3)))) else (some (x1, h)))) else none
theorem tX5_readNots {d : Nat} {b0 : Nat} {h0 : ea_H} (hd : 2 ≤ d) : ∀ (f lbl : Nat) (x1 : Int32) (h : ea_H) (r : Int32) (h' : ea_H), gX5_readNots b0 f lbl x1 h = some (r, h') → ShC b0 h → (lbl = 0 → ea_W mX5_readNots d h0 (some (vI r)) h' 0 [(0, vR (some (b0 + 22)))] [] h) ∧ (lbl = 2 → ea_W mX5_readNots d h0 (some (vI r)) h' 2 [(0, vR (some (b0 + 22))), (1, vI x1)] [] h) := by
  intro f
  induction f with
  | zero => intro lbl x1 h r h' E; cases E
  | succ f ih =>
    intro lbl x1 h r h' E hs
    unfold gX5_readNots at E
    refine ⟨?_, ?_⟩
    · intro el
      subst el
      have E := (if_pos rfl).symm.trans E
      refine ea_iconst (pc := 0) dX5_readNots_0 (v := 0) rfl ?_
      refine ea_istore_n (pc := 1) (lv' := [(0, vR (some (b0 + 22))), (1, vI 0)]) dX5_readNots_1 rfl (Nat.le_of_ble_eq_true rfl) [1, 0] rfl ?_
      exact ((ih 2 (0 : Int32) h _ _ E hs).2 rfl)
    intro el
    subst el
    have E := (if_neg (by decide)).symm.trans E
    have E := (if_pos rfl).symm.trans E
    refine ea_iload_n (pc := 2) dX5_readNots_2 rfl 1 rfl ?_
    refine ea_bipush (pc := 3) dX5_readNots_3 (v := 8) rfl ?_
    refine ea_icmp_gt (pc := 5) (tgt := 41) dX5_readNots_5 rfl (fun c9 => ?_) (fun c9 => ?_)
    · have E := (if_pos c9).symm.trans E
      refine ea_iload_n (pc := 41) dX5_readNots_41 rfl 1 rfl ?_
      exact ea_iretO (pc := 42) dX5_readNots_42 rfl rfl E
    · have E := (if_neg c9).symm.trans E
      refine ea_aload_n (pc := 8) dX5_readNots_8 rfl 0 rfl ?_
      refine ea_getI (pc := 9) dX5_readNots_9 ec_5 (k := 9) (Nat.le_of_ble_eq_true rfl) rfl (Or.inl ew_303) (hs.1 22 (by decide)).1 (hs.1 22 (by decide)).2.1 ?_
      refine ea_bipush (pc := 12) dX5_readNots_12 (v := 15) rfl ?_
      refine ea_icmp_ne (pc := 14) (tgt := 41) dX5_readNots_14 rfl (fun c8 => ?_) (fun c8 => ?_)
      · have E := (if_neg c8).symm.trans E
        refine ea_iload_n (pc := 41) dX5_readNots_41 rfl 1 rfl ?_
        exact ea_iretO (pc := 42) dX5_readNots_42 rfl rfl E
      · have E := (if_pos c8).symm.trans E
        refine ea_iload_n (pc := 17) dX5_readNots_17 rfl 1 rfl ?_
        refine ea_bipush (pc := 18) dX5_readNots_18 (v := 8) rfl ?_
        refine ea_icmp_ne (pc := 20) (tgt := 31) dX5_readNots_20 rfl (fun c7 => ?_) (fun c7 => ?_)
        · have E := (if_neg c7).symm.trans E
          refine ea_aload_n (pc := 31) dX5_readNots_31 rfl 0 rfl ?_
          obtain ⟨z1, E⟩ := gd_some E
          refine ea_callV (pc := 32) (d' := d - 1) (As := []) (st := []) dX5_readNots_32 kX5_step (sX5_step (d := d - 1) (by omega) hs z1) (by omega) rfl (Nat.le_of_ble_eq_true rfl) ew_859 ew_861 ew_22 (ci := 5) rfl (by decide) (hs.1 22 (by decide)).1 (hs.1 22 (by decide)).2.1 ?_
          have hs2 : ShC b0 (wX5_step b0 h) := shX5_step hs
          obtain ⟨H3, eH3, E⟩ := let_some E
          refine ea_nm eH3 ?_
          have hsH3 : ShC b0 H3 := by rw [eH3]; exact hs2
          refine ea_iinc (pc := 35) (v := 1) (lv' := [(0, vR (some (b0 + 22))), (1, vI (x1 + (1 : Int32)))]) dX5_readNots_35 1 rfl rfl (Nat.le_of_ble_eq_true rfl) [1, 0] rfl ?_
          refine ea_goto (pc := 38) (tgt := 2) dX5_readNots_38 rfl ?_
          exact ((ih 2 ((x1 + (1 : Int32)) : Int32) H3 _ _ E hsH3).2 rfl)
        · have E := (if_pos c7).symm.trans E
          refine ea_aload_n (pc := 23) dX5_readNots_23 rfl 0 rfl ?_
          refine ea_iconst (pc := 24) dX5_readNots_24 (v := 3) rfl ?_
          obtain ⟨z4, E⟩ := gd_some E
          refine ea_callV (pc := 25) (d' := d - 1) (As := [vI 3]) (st := []) dX5_readNots_25 kX5_refuse (sX5_refuse (d := d - 1) (by omega) hs z4) (by omega) rfl (Nat.le_of_ble_eq_true rfl) ew_851 ew_853 ew_20 (ci := 5) rfl (by decide) (hs.1 22 (by decide)).1 (hs.1 22 (by decide)).2.1 ?_
          have hs5 : ShC b0 (wX5_refuse b0 (3 : Int32) h) := shX5_refuse hs
          obtain ⟨H6, eH6, E⟩ := let_some E
          refine ea_nm eH6 ?_
          have hsH6 : ShC b0 H6 := by rw [eH6]; exact hs5
          refine ea_pop (pc := 28) dX5_readNots_28 rfl ?_
          refine ea_iconst (pc := 29) dX5_readNots_29 (v := (-1)) rfl ?_
          exact ea_iretO (pc := 30) dX5_readNots_30 rfl rfl E
noncomputable def qX5_readNots (b0 : Nat) (h : ea_H) : Option (Int32 × ea_H) := gX5_readNots b0 1000000000 0 0 h
def okX5_readNots (b0 : Nat) (h : ea_H) : Prop := ∃ x, qX5_readNots b0 h = some x
noncomputable def vX5_readNots (b0 : Nat) (h : ea_H) : Int32 := ((qX5_readNots b0 h).getD (0, h)).1
noncomputable def wX5_readNots (b0 : Nat) (h : ea_H) : ea_H := ((qX5_readNots b0 h).getD (0, h)).2
theorem sX5_readNots {d : Nat} {b0 : Nat} {h : ea_H} (hd : 2 ≤ d) (hs : ShC b0 h) (K : okX5_readNots b0 h) : ea_Met mX5_readNots d [vR (some (b0 + 22))] h (some (vI (vX5_readNots b0 h))) (wX5_readNots b0 h) := by
  obtain ⟨⟨x, y⟩, K⟩ := K
  unfold wX5_readNots vX5_readNots
  rw [K]
  unfold qX5_readNots at K
  exact ea_enter rfl (Nat.le_of_ble_eq_true rfl) ((tX5_readNots hd 1000000000 0 0 h x y K hs).1 rfl)
theorem zX5_readNots {b0 : Nat} : ∀ (f lbl : Nat) (x1 : Int32) (h : ea_H) (r : Int32) (h' : ea_H), gX5_readNots b0 f lbl x1 h = some (r, h') → ShC b0 h → ShC b0 h' := by
  intro f
  induction f with
  | zero => intro lbl x1 h r h' E; cases E
  | succ f ih =>
    intro lbl x1 h r h' E hs
    unfold gX5_readNots at E
    by_cases el0 : lbl = 0
    · have E := (if_pos el0).symm.trans E
      exact ih 2 (0 : Int32) h _ _ E hs
    have E := (if_neg el0).symm.trans E
    by_cases el1 : lbl = 2
    · have E := (if_pos el1).symm.trans E
      by_cases c9 : (8 : Int32) < x1
      · have E := (if_pos c9).symm.trans E
        exact ea_shO E hs
      have E := (if_neg c9).symm.trans E
      by_cases c8 : (ea_i h (b0 + 22) 9) = (15 : Int32)
      · have E := (if_pos c8).symm.trans E
        by_cases c7 : x1 = (8 : Int32)
        · have E := (if_pos c7).symm.trans E
          obtain ⟨z4, E⟩ := gd_some E
          obtain ⟨H6, eH6, E⟩ := let_some E
          have hsH6 : ShC b0 H6 := by rw [eH6]; exact (shX5_refuse hs)
          exact ea_shO E hsH6
        have E := (if_neg c7).symm.trans E
        obtain ⟨z1, E⟩ := gd_some E
        obtain ⟨H3, eH3, E⟩ := let_some E
        have hsH3 : ShC b0 H3 := by rw [eH3]; exact (shX5_step hs)
        exact ih 2 ((x1 + (1 : Int32)) : Int32) H3 _ _ E hsH3
      have E := (if_neg c8).symm.trans E
      exact ea_shO E hs
    have E := (if_neg el1).symm.trans E
    cases E
theorem shX5_readNots {b0 : Nat} {h : ea_H} (hs : ShC b0 h) : ShC b0 (wX5_readNots b0 h) := by
  unfold wX5_readNots
  cases K : qX5_readNots b0 h with
  | none => exact hs
  | some x => obtain ⟨x, y⟩ := x; unfold qX5_readNots at K; exact zX5_readNots _ _ _ _ _ _ K hs
noncomputable def gX5_scanWord (b0 : Nat) : Nat → Nat → Int32 → Int32 → Int32 → Int32 → Int64 → ea_H → Option (Int32 × ea_H)
  | 0, _, _, _, _, _, _, _ => none
  | f + 1, lbl, x1, x4, x5, x6, y2, h =>
    if lbl = 0 then (gX5_scanWord b0 f 5 (x1 : Int32) (x1 : Int32) 0 0 (0 : Int64) h) else
    if lbl = 5 then (if (ea_i h (b0 + 22) 0) ≤ x4 then (gX5_scanWord b0 f 69 (x1 : Int32) (x4 : Int32) (20 : Int32) (0 : Int32) (y2 : Int64) h) else (gd (vp_in x4 600) (if (vX5_isLetter ((ea_i h (b0 + 23) (Int32.toNatClampNeg x4)) : Int32) h) = (0 : Int32) then (gX5_scanWord b0 f 69 (x1 : Int32) (x4 : Int32) (20 : Int32) (0 : Int32) (y2 : Int64) h) else (if (6 : Int32) ≤ (x4 - x1) then (gX5_scanWord b0 f 5 (x1 : Int32) ((x4 + (1 : Int32)) : Int32) 0 0 ((-1) : Int64) h) else (gd (vp_in x4 600) (gX5_scanWord b0 f 5 (x1 : Int32) ((x4 + (1 : Int32)) : Int32) 0 0 (((y2 <<< (Int32.toInt64 8 &&& 63)) ||| (Int32.toInt64 (ea_i h (b0 + 23) (Int32.toNatClampNeg x4)))) : Int64) h)))))) else
    if lbl = 69 then none else none
theorem tX5_scanWord {d : Nat} {b0 : Nat} {h0 : ea_H} (hd : 2 ≤ d) : ∀ (f lbl : Nat) (x1 : Int32) (x4 : Int32) (x5 : Int32) (x6 : Int32) (y2 : Int64) (h : ea_H) (r : Int32) (h' : ea_H), gX5_scanWord b0 f lbl x1 x4 x5 x6 y2 h = some (r, h') → ShC b0 h → (lbl = 0 → ea_W mX5_scanWord d h0 (some (vI r)) h' 0 [(0, vR (some (b0 + 22))), (1, vI x1)] [] h) ∧ (lbl = 5 → ea_W mX5_scanWord d h0 (some (vI r)) h' 5 [(0, vR (some (b0 + 22))), (1, vI x1), (2, vJ y2), (4, vI x4)] [] h) ∧ (lbl = 69 → ea_W mX5_scanWord d h0 (some (vI r)) h' 69 [(0, vR (some (b0 + 22))), (1, vI x1), (2, vJ y2), (4, vI x4), (5, vI x5), (6, vI x6)] [] h) := by
  intro f
  induction f with
  | zero => intro lbl x1 x4 x5 x6 y2 h r h' E; cases E
  | succ f ih =>
    intro lbl x1 x4 x5 x6 y2 h r h' E hs
    unfold gX5_scanWord at E
    refine ⟨?_, ?_⟩
    · intro el
      subst el
      have E := (if_pos rfl).symm.trans E
      refine ea_lconst (pc := 0) dX5_scanWord_0 (v := 0) rfl ?_
      refine ea_lstore_n (pc := 1) (lv' := [(0, vR (some (b0 + 22))), (1, vI x1), (2, vJ 0)]) dX5_scanWord_1 rfl (Nat.le_of_ble_eq_true rfl) [1, 2, 0] rfl ?_
      refine ea_iload_n (pc := 2) dX5_scanWord_2 rfl 1 rfl ?_
      refine ea_istore (pc := 3) (lv' := [(0, vR (some (b0 + 22))), (1, vI x1), (2, vJ 0), (4, vI x1)]) dX5_scanWord_3 (Nat.le_of_ble_eq_true rfl) [1, 2, 3, 0] rfl ?_
      exact ((ih 5 (x1 : Int32) (x1 : Int32) 0 0 (0 : Int64) h _ _ E hs).2.1 rfl)
    refine ⟨?_, ?_⟩
    · intro el
      subst el
      have E := (if_neg (by decide)).symm.trans E
      have E := (if_pos rfl).symm.trans E
      refine ea_iload (pc := 5) dX5_scanWord_5 3 rfl ?_
      refine ea_aload_n (pc := 7) dX5_scanWord_7 rfl 0 rfl ?_
      refine ea_getI (pc := 8) dX5_scanWord_8 ec_5 (k := 0) (Nat.le_of_ble_eq_true rfl) rfl (Or.inl ew_291) (hs.1 22 (by decide)).1 (hs.1 22 (by decide)).2.1 ?_
      refine ea_icmp_ge (pc := 11) (tgt := 62) dX5_scanWord_11 rfl (fun c6 => ?_) (fun c6 => ?_)
      · have E := (if_pos c6).symm.trans E
        refine ea_bipush (pc := 62) dX5_scanWord_62 (v := 20) rfl ?_
        refine ea_istore (pc := 64) (lv' := [(0, vR (some (b0 + 22))), (1, vI x1), (2, vJ y2), (4, vI x4), (5, vI 20)]) dX5_scanWord_64 (Nat.le_of_ble_eq_true rfl) [1, 2, 3, 4, 0] rfl ?_
        refine ea_iconst (pc := 66) dX5_scanWord_66 (v := 0) rfl ?_
        refine ea_istore (pc := 67) (lv' := [(0, vR (some (b0 + 22))), (1, vI x1), (2, vJ y2), (4, vI x4), (5, vI 20), (6, vI 0)]) dX5_scanWord_67 (Nat.le_of_ble_eq_true rfl) [1, 2, 3, 4, 5, 0] rfl ?_
        exact ((ih 69 (x1 : Int32) (x4 : Int32) (20 : Int32) (0 : Int32) (y2 : Int64) h _ _ E hs).2.2 rfl)
      · have E := (if_neg c6).symm.trans E
        refine ea_aload_n (pc := 14) dX5_scanWord_14 rfl 0 rfl ?_
        refine ea_getR (pc := 15) dX5_scanWord_15 ec_5 (k := 3) (Nat.le_of_ble_eq_true rfl) rfl (Or.inl ew_297) (hs.1 22 (by decide)).1 (hs.1 22 (by decide)).2.1 (hs.2 22 3 rfl) ?_
        refine ea_iload (pc := 18) dX5_scanWord_18 3 rfl ?_
        obtain ⟨z1, E⟩ := gd_some E
        refine ea_iald (pc := 20) dX5_scanWord_20 (hs.1 23 (by decide)).1 (hs.1 23 (by decide)).2.1 (ea_vpl (hs.1 23 (by decide)).2.2 z1) ?_
        refine ea_callS (pc := 21) (d' := d - 1) (As := [vI (ea_i h (b0 + 23) (Int32.toNatClampNeg x4))]) (st := []) dX5_scanWord_21 kX5_isLetter (sX5_isLetter (d := d - 1) (by omega)) (by omega) rfl (Nat.le_of_ble_eq_true rfl) ew_761 ew_762 ?_
        refine ea_if_eq (pc := 24) (tgt := 62) dX5_scanWord_24 rfl (fun c5 => ?_) (fun c5 => ?_)
        · have E := (if_pos c5).symm.trans E
          refine ea_bipush (pc := 62) dX5_scanWord_62 (v := 20) rfl ?_
          refine ea_istore (pc := 64) (lv' := [(0, vR (some (b0 + 22))), (1, vI x1), (2, vJ y2), (4, vI x4), (5, vI 20)]) dX5_scanWord_64 (Nat.le_of_ble_eq_true rfl) [1, 2, 3, 4, 0] rfl ?_
          refine ea_iconst (pc := 66) dX5_scanWord_66 (v := 0) rfl ?_
          refine ea_istore (pc := 67) (lv' := [(0, vR (some (b0 + 22))), (1, vI x1), (2, vJ y2), (4, vI x4), (5, vI 20), (6, vI 0)]) dX5_scanWord_67 (Nat.le_of_ble_eq_true rfl) [1, 2, 3, 4, 5, 0] rfl ?_
          exact ((ih 69 (x1 : Int32) (x4 : Int32) (20 : Int32) (0 : Int32) (y2 : Int64) h _ _ E hs).2.2 rfl)
        · have E := (if_neg c5).symm.trans E
          refine ea_iload (pc := 27) dX5_scanWord_27 3 rfl ?_
          refine ea_iload_n (pc := 29) dX5_scanWord_29 rfl 1 rfl ?_
          refine ea_isub (pc := 30) dX5_scanWord_30 ?_
          refine ea_bipush (pc := 31) dX5_scanWord_31 (v := 6) rfl ?_
          refine ea_icmp_ge (pc := 33) (tgt := 52) dX5_scanWord_33 rfl (fun c4 => ?_) (fun c4 => ?_)
          · have E := (if_pos c4).symm.trans E
            refine ea_ldc2 (pc := 52) dX5_scanWord_52 ew_768 ?_
            refine ea_lstore_n (pc := 55) (lv' := [(0, vR (some (b0 + 22))), (1, vI x1), (2, vJ (-1)), (4, vI x4)]) dX5_scanWord_55 rfl (Nat.le_of_ble_eq_true rfl) [1, 2, 0, 3] rfl ?_
            refine ea_iinc (pc := 56) (v := 1) (lv' := [(0, vR (some (b0 + 22))), (1, vI x1), (2, vJ (-1)), (4, vI (x4 + (1 : Int32)))]) dX5_scanWord_56 3 rfl rfl (Nat.le_of_ble_eq_true rfl) [1, 2, 3, 0] rfl ?_
            refine ea_goto (pc := 59) (tgt := 5) dX5_scanWord_59 rfl ?_
            exact ((ih 5 (x1 : Int32) ((x4 + (1 : Int32)) : Int32) 0 0 ((-1) : Int64) h _ _ E hs).2.1 rfl)
          · have E := (if_neg c4).symm.trans E
            refine ea_lload_n (pc := 36) dX5_scanWord_36 rfl 2 rfl ?_
            refine ea_bipush (pc := 37) dX5_scanWord_37 (v := 8) rfl ?_
            refine ea_lshl (pc := 39) dX5_scanWord_39 ?_
            refine ea_aload_n (pc := 40) dX5_scanWord_40 rfl 0 rfl ?_
            refine ea_getR (pc := 41) dX5_scanWord_41 ec_5 (k := 3) (Nat.le_of_ble_eq_true rfl) rfl (Or.inl ew_297) (hs.1 22 (by decide)).1 (hs.1 22 (by decide)).2.1 (hs.2 22 3 rfl) ?_
            refine ea_iload (pc := 44) dX5_scanWord_44 3 rfl ?_
            obtain ⟨z3, E⟩ := gd_some E
            refine ea_iald (pc := 46) dX5_scanWord_46 (hs.1 23 (by decide)).1 (hs.1 23 (by decide)).2.1 (ea_vpl (hs.1 23 (by decide)).2.2 z3) ?_
            refine ea_i2l (pc := 47) dX5_scanWord_47 ?_
            refine ea_lor (pc := 48) dX5_scanWord_48 ?_
            refine ea_goto (pc := 49) (tgt := 55) dX5_scanWord_49 rfl ?_
            refine ea_lstore_n (pc := 55) (lv' := [(0, vR (some (b0 + 22))), (1, vI x1), (2, vJ ((y2 <<< (Int32.toInt64 8 &&& 63)) ||| (Int32.toInt64 (ea_i h (b0 + 23) (Int32.toNatClampNeg x4))))), (4, vI x4)]) dX5_scanWord_55 rfl (Nat.le_of_ble_eq_true rfl) [1, 2, 0, 3] rfl ?_
            refine ea_iinc (pc := 56) (v := 1) (lv' := [(0, vR (some (b0 + 22))), (1, vI x1), (2, vJ ((y2 <<< (Int32.toInt64 8 &&& 63)) ||| (Int32.toInt64 (ea_i h (b0 + 23) (Int32.toNatClampNeg x4))))), (4, vI (x4 + (1 : Int32)))]) dX5_scanWord_56 3 rfl rfl (Nat.le_of_ble_eq_true rfl) [1, 2, 3, 0] rfl ?_
            refine ea_goto (pc := 59) (tgt := 5) dX5_scanWord_59 rfl ?_
            exact ((ih 5 (x1 : Int32) ((x4 + (1 : Int32)) : Int32) 0 0 (((y2 <<< (Int32.toInt64 8 &&& 63)) ||| (Int32.toInt64 (ea_i h (b0 + 23) (Int32.toNatClampNeg x4)))) : Int64) h _ _ E hs).2.1 rfl)
    intro el
    subst el
    have E := (if_neg (by decide)).symm.trans E
    have E := (if_neg (by decide)).symm.trans E
    have E := (if_pos rfl).symm.trans E
    refine ea_iload (pc := 69) dX5_scanWord_69 5 rfl ?_
    cases E
noncomputable def qX5_scanWord (b0 : Nat) (x1 : Int32) (h : ea_H) : Option (Int32 × ea_H) := gX5_scanWord b0 1000000000 0 x1 0 0 0 0 h
def okX5_scanWord (b0 : Nat) (x1 : Int32) (h : ea_H) : Prop := ∃ x, qX5_scanWord b0 x1 h = some x
noncomputable def vX5_scanWord (b0 : Nat) (x1 : Int32) (h : ea_H) : Int32 := ((qX5_scanWord b0 x1 h).getD (0, h)).1
noncomputable def wX5_scanWord (b0 : Nat) (x1 : Int32) (h : ea_H) : ea_H := ((qX5_scanWord b0 x1 h).getD (0, h)).2
theorem sX5_scanWord {d : Nat} {b0 : Nat} {x1 : Int32} {h : ea_H} (hd : 2 ≤ d) (hs : ShC b0 h) (K : okX5_scanWord b0 x1 h) : ea_Met mX5_scanWord d [vR (some (b0 + 22)), vI x1] h (some (vI (vX5_scanWord b0 x1 h))) (wX5_scanWord b0 x1 h) := by
  obtain ⟨⟨x, y⟩, K⟩ := K
  unfold wX5_scanWord vX5_scanWord
  rw [K]
  unfold qX5_scanWord at K
  exact ea_enter rfl (Nat.le_of_ble_eq_true rfl) ((tX5_scanWord hd 1000000000 0 x1 0 0 0 0 h x y K hs).1 rfl)
theorem zX5_scanWord {b0 : Nat} : ∀ (f lbl : Nat) (x1 : Int32) (x4 : Int32) (x5 : Int32) (x6 : Int32) (y2 : Int64) (h : ea_H) (r : Int32) (h' : ea_H), gX5_scanWord b0 f lbl x1 x4 x5 x6 y2 h = some (r, h') → ShC b0 h → ShC b0 h' := by
  intro f
  induction f with
  | zero => intro lbl x1 x4 x5 x6 y2 h r h' E; cases E
  | succ f ih =>
    intro lbl x1 x4 x5 x6 y2 h r h' E hs
    unfold gX5_scanWord at E
    by_cases el0 : lbl = 0
    · have E := (if_pos el0).symm.trans E
      exact ih 5 (x1 : Int32) (x1 : Int32) 0 0 (0 : Int64) h _ _ E hs
    have E := (if_neg el0).symm.trans E
    by_cases el1 : lbl = 5
    · have E := (if_pos el1).symm.trans E
      by_cases c6 : (ea_i h (b0 + 22) 0) ≤ x4
      · have E := (if_pos c6).symm.trans E
        exact ih 69 (x1 : Int32) (x4 : Int32) (20 : Int32) (0 : Int32) (y2 : Int64) h _ _ E hs
      have E := (if_neg c6).symm.trans E
      obtain ⟨z1, E⟩ := gd_some E
      by_cases c5 : (vX5_isLetter ((ea_i h (b0 + 23) (Int32.toNatClampNeg x4)) : Int32) h) = (0 : Int32)
      · have E := (if_pos c5).symm.trans E
        exact ih 69 (x1 : Int32) (x4 : Int32) (20 : Int32) (0 : Int32) (y2 : Int64) h _ _ E hs
      have E := (if_neg c5).symm.trans E
      by_cases c4 : (6 : Int32) ≤ (x4 - x1)
      · have E := (if_pos c4).symm.trans E
        exact ih 5 (x1 : Int32) ((x4 + (1 : Int32)) : Int32) 0 0 ((-1) : Int64) h _ _ E hs
      have E := (if_neg c4).symm.trans E
      obtain ⟨z3, E⟩ := gd_some E
      exact ih 5 (x1 : Int32) ((x4 + (1 : Int32)) : Int32) 0 0 (((y2 <<< (Int32.toInt64 8 &&& 63)) ||| (Int32.toInt64 (ea_i h (b0 + 23) (Int32.toNatClampNeg x4)))) : Int64) h _ _ E hs
    have E := (if_neg el1).symm.trans E
    by_cases el2 : lbl = 69
    · have E := (if_pos el2).symm.trans E
      cases E
    have E := (if_neg el2).symm.trans E
    cases E
theorem shX5_scanWord {b0 : Nat} {x1 : Int32} {h : ea_H} (hs : ShC b0 h) : ShC b0 (wX5_scanWord b0 x1 h) := by
  unfold wX5_scanWord
  cases K : qX5_scanWord b0 x1 h with
  | none => exact hs
  | some x => obtain ⟨x, y⟩ := x; unfold qX5_scanWord at K; exact zX5_scanWord _ _ _ _ _ _ _ _ _ _ K hs
noncomputable def gX5_scanNumber (b0 : Nat) : Nat → Nat → Int32 → Int32 → Int32 → ea_H → Option (Int32 × ea_H)
  | 0, _, _, _, _, _ => none
  | f + 1, lbl, x1, x2, x3, h =>
    if lbl = 0 then (gX5_scanNumber b0 f 4 (x1 : Int32) (0 : Int32) (x1 : Int32) h) else
    if lbl = 4 then (if (ea_i h (b0 + 22) 0) ≤ x3 then (gX5_scanNumber b0 f 56 (x1 : Int32) (x2 : Int32) (x3 : Int32) h) else (gd (vp_in x3 600) (if (vX5_isDigit ((ea_i h (b0 + 23) (Int32.toNatClampNeg x3)) : Int32) h) = (0 : Int32) then (gX5_scanNumber b0 f 56 (x1 : Int32) (x2 : Int32) (x3 : Int32) h) else (if (4 : Int32) ≤ (x3 - x1) then (gX5_scanNumber b0 f 4 (x1 : Int32) ((-1) : Int32) ((x3 + (1 : Int32)) : Int32) h) else (gd (vp_in x3 600) (gX5_scanNumber b0 f 4 (x1 : Int32) ((((x2 * (10 : Int32)) + (ea_i h (b0 + 23) (Int32.toNatClampNeg x3))) - (48 : Int32)) : Int32) ((x3 + (1 : Int32)) : Int32) h)))))) else
    if lbl = 56 then (if x2 = ((-1) : Int32) then (gd ((okX5_addToken b0 (20 : Int32) (x1 : Int32) (x2 : Int32) h)) (ea_let (wX5_addToken b0 (20 : Int32) (x1 : Int32) (x2 : Int32) h) fun H12 => (some ((x3 - (1 : Int32)), H12)))) else (gd ((okX5_addToken b0 (18 : Int32) (x1 : Int32) (x2 : Int32) h)) (ea_let (wX5_addToken b0 (18 : Int32) (x1 : Int32) (x2 : Int32) h) fun H9 => (some ((x3 - (1 : Int32)), H9))))) else none
theorem tX5_scanNumber {d : Nat} {b0 : Nat} {h0 : ea_H} (hd : 2 ≤ d) : ∀ (f lbl : Nat) (x1 : Int32) (x2 : Int32) (x3 : Int32) (h : ea_H) (r : Int32) (h' : ea_H), gX5_scanNumber b0 f lbl x1 x2 x3 h = some (r, h') → ShC b0 h → (lbl = 0 → ea_W mX5_scanNumber d h0 (some (vI r)) h' 0 [(0, vR (some (b0 + 22))), (1, vI x1)] [] h) ∧ (lbl = 4 → ea_W mX5_scanNumber d h0 (some (vI r)) h' 4 [(0, vR (some (b0 + 22))), (1, vI x1), (2, vI x2), (3, vI x3)] [] h) ∧ (lbl = 56 → ea_W mX5_scanNumber d h0 (some (vI r)) h' 56 [(0, vR (some (b0 + 22))), (1, vI x1), (2, vI x2), (3, vI x3)] [] h) := by
  intro f
  induction f with
  | zero => intro lbl x1 x2 x3 h r h' E; cases E
  | succ f ih =>
    intro lbl x1 x2 x3 h r h' E hs
    unfold gX5_scanNumber at E
    refine ⟨?_, ?_⟩
    · intro el
      subst el
      have E := (if_pos rfl).symm.trans E
      refine ea_iconst (pc := 0) dX5_scanNumber_0 (v := 0) rfl ?_
      refine ea_istore_n (pc := 1) (lv' := [(0, vR (some (b0 + 22))), (1, vI x1), (2, vI 0)]) dX5_scanNumber_1 rfl (Nat.le_of_ble_eq_true rfl) [1, 2, 0] rfl ?_
      refine ea_iload_n (pc := 2) dX5_scanNumber_2 rfl 1 rfl ?_
      refine ea_istore_n (pc := 3) (lv' := [(0, vR (some (b0 + 22))), (1, vI x1), (2, vI 0), (3, vI x1)]) dX5_scanNumber_3 rfl (Nat.le_of_ble_eq_true rfl) [1, 2, 3, 0] rfl ?_
      exact ((ih 4 (x1 : Int32) (0 : Int32) (x1 : Int32) h _ _ E hs).2.1 rfl)
    refine ⟨?_, ?_⟩
    · intro el
      subst el
      have E := (if_neg (by decide)).symm.trans E
      have E := (if_pos rfl).symm.trans E
      refine ea_iload_n (pc := 4) dX5_scanNumber_4 rfl 3 rfl ?_
      refine ea_aload_n (pc := 5) dX5_scanNumber_5 rfl 0 rfl ?_
      refine ea_getI (pc := 6) dX5_scanNumber_6 ec_5 (k := 0) (Nat.le_of_ble_eq_true rfl) rfl (Or.inl ew_291) (hs.1 22 (by decide)).1 (hs.1 22 (by decide)).2.1 ?_
      refine ea_icmp_ge (pc := 9) (tgt := 56) dX5_scanNumber_9 rfl (fun c6 => ?_) (fun c6 => ?_)
      · have E := (if_pos c6).symm.trans E
        exact ((ih 56 (x1 : Int32) (x2 : Int32) (x3 : Int32) h _ _ E hs).2.2 rfl)
      · have E := (if_neg c6).symm.trans E
        refine ea_aload_n (pc := 12) dX5_scanNumber_12 rfl 0 rfl ?_
        refine ea_getR (pc := 13) dX5_scanNumber_13 ec_5 (k := 3) (Nat.le_of_ble_eq_true rfl) rfl (Or.inl ew_297) (hs.1 22 (by decide)).1 (hs.1 22 (by decide)).2.1 (hs.2 22 3 rfl) ?_
        refine ea_iload_n (pc := 16) dX5_scanNumber_16 rfl 3 rfl ?_
        obtain ⟨z1, E⟩ := gd_some E
        refine ea_iald (pc := 17) dX5_scanNumber_17 (hs.1 23 (by decide)).1 (hs.1 23 (by decide)).2.1 (ea_vpl (hs.1 23 (by decide)).2.2 z1) ?_
        refine ea_callS (pc := 18) (d' := d - 1) (As := [vI (ea_i h (b0 + 23) (Int32.toNatClampNeg x3))]) (st := []) dX5_scanNumber_18 kX5_isDigit (sX5_isDigit (d := d - 1) (by omega)) (by omega) rfl (Nat.le_of_ble_eq_true rfl) ew_775 ew_776 ?_
        refine ea_if_eq (pc := 21) (tgt := 56) dX5_scanNumber_21 rfl (fun c5 => ?_) (fun c5 => ?_)
        · have E := (if_pos c5).symm.trans E
          exact ((ih 56 (x1 : Int32) (x2 : Int32) (x3 : Int32) h _ _ E hs).2.2 rfl)
        · have E := (if_neg c5).symm.trans E
          refine ea_iload_n (pc := 24) dX5_scanNumber_24 rfl 3 rfl ?_
          refine ea_iload_n (pc := 25) dX5_scanNumber_25 rfl 1 rfl ?_
          refine ea_isub (pc := 26) dX5_scanNumber_26 ?_
          refine ea_iconst (pc := 27) dX5_scanNumber_27 (v := 4) rfl ?_
          refine ea_icmp_ge (pc := 28) (tgt := 48) dX5_scanNumber_28 rfl (fun c4 => ?_) (fun c4 => ?_)
          · have E := (if_pos c4).symm.trans E
            refine ea_iconst (pc := 48) dX5_scanNumber_48 (v := (-1)) rfl ?_
            refine ea_istore_n (pc := 49) (lv' := [(0, vR (some (b0 + 22))), (1, vI x1), (2, vI (-1)), (3, vI x3)]) dX5_scanNumber_49 rfl (Nat.le_of_ble_eq_true rfl) [1, 2, 0, 3] rfl ?_
            refine ea_iinc (pc := 50) (v := 1) (lv' := [(0, vR (some (b0 + 22))), (1, vI x1), (2, vI (-1)), (3, vI (x3 + (1 : Int32)))]) dX5_scanNumber_50 3 rfl rfl (Nat.le_of_ble_eq_true rfl) [1, 2, 3, 0] rfl ?_
            refine ea_goto (pc := 53) (tgt := 4) dX5_scanNumber_53 rfl ?_
            exact ((ih 4 (x1 : Int32) ((-1) : Int32) ((x3 + (1 : Int32)) : Int32) h _ _ E hs).2.1 rfl)
          · have E := (if_neg c4).symm.trans E
            refine ea_iload_n (pc := 31) dX5_scanNumber_31 rfl 2 rfl ?_
            refine ea_bipush (pc := 32) dX5_scanNumber_32 (v := 10) rfl ?_
            refine ea_imul (pc := 34) dX5_scanNumber_34 ?_
            refine ea_aload_n (pc := 35) dX5_scanNumber_35 rfl 0 rfl ?_
            refine ea_getR (pc := 36) dX5_scanNumber_36 ec_5 (k := 3) (Nat.le_of_ble_eq_true rfl) rfl (Or.inl ew_297) (hs.1 22 (by decide)).1 (hs.1 22 (by decide)).2.1 (hs.2 22 3 rfl) ?_
            refine ea_iload_n (pc := 39) dX5_scanNumber_39 rfl 3 rfl ?_
            obtain ⟨z3, E⟩ := gd_some E
            refine ea_iald (pc := 40) dX5_scanNumber_40 (hs.1 23 (by decide)).1 (hs.1 23 (by decide)).2.1 (ea_vpl (hs.1 23 (by decide)).2.2 z3) ?_
            refine ea_iadd (pc := 41) dX5_scanNumber_41 ?_
            refine ea_bipush (pc := 42) dX5_scanNumber_42 (v := 48) rfl ?_
            refine ea_isub (pc := 44) dX5_scanNumber_44 ?_
            refine ea_goto (pc := 45) (tgt := 49) dX5_scanNumber_45 rfl ?_
            refine ea_istore_n (pc := 49) (lv' := [(0, vR (some (b0 + 22))), (1, vI x1), (2, vI (((x2 * (10 : Int32)) + (ea_i h (b0 + 23) (Int32.toNatClampNeg x3))) - (48 : Int32))), (3, vI x3)]) dX5_scanNumber_49 rfl (Nat.le_of_ble_eq_true rfl) [1, 2, 0, 3] rfl ?_
            refine ea_iinc (pc := 50) (v := 1) (lv' := [(0, vR (some (b0 + 22))), (1, vI x1), (2, vI (((x2 * (10 : Int32)) + (ea_i h (b0 + 23) (Int32.toNatClampNeg x3))) - (48 : Int32))), (3, vI (x3 + (1 : Int32)))]) dX5_scanNumber_50 3 rfl rfl (Nat.le_of_ble_eq_true rfl) [1, 2, 3, 0] rfl ?_
            refine ea_goto (pc := 53) (tgt := 4) dX5_scanNumber_53 rfl ?_
            exact ((ih 4 (x1 : Int32) ((((x2 * (10 : Int32)) + (ea_i h (b0 + 23) (Int32.toNatClampNeg x3))) - (48 : Int32)) : Int32) ((x3 + (1 : Int32)) : Int32) h _ _ E hs).2.1 rfl)
    intro el
    subst el
    have E := (if_neg (by decide)).symm.trans E
    have E := (if_neg (by decide)).symm.trans E
    have E := (if_pos rfl).symm.trans E
    refine ea_aload_n (pc := 56) dX5_scanNumber_56 rfl 0 rfl ?_
    refine ea_iload_n (pc := 57) dX5_scanNumber_57 rfl 2 rfl ?_
    refine ea_iconst (pc := 58) dX5_scanNumber_58 (v := (-1)) rfl ?_
    refine ea_icmp_ne (pc := 59) (tgt := 67) dX5_scanNumber_59 rfl (fun c13 => ?_) (fun c13 => ?_)
    · have E := (if_neg c13).symm.trans E
      refine ea_bipush (pc := 67) dX5_scanNumber_67 (v := 18) rfl ?_
      refine ea_iload_n (pc := 69) dX5_scanNumber_69 rfl 1 rfl ?_
      refine ea_iload_n (pc := 70) dX5_scanNumber_70 rfl 2 rfl ?_
      obtain ⟨z7, E⟩ := gd_some E
      refine ea_callV (pc := 71) (d' := d - 1) (As := [vI 18, vI x1, vI x2]) (st := []) dX5_scanNumber_71 kX5_addToken (sX5_addToken (d := d - 1) (by omega) hs z7) (by omega) rfl (Nat.le_of_ble_eq_true rfl) ew_771 ew_773 ew_18 (ci := 5) rfl (by decide) (hs.1 22 (by decide)).1 (hs.1 22 (by decide)).2.1 ?_
      have hs8 : ShC b0 (wX5_addToken b0 (18 : Int32) (x1 : Int32) (x2 : Int32) h) := shX5_addToken hs
      obtain ⟨H9, eH9, E⟩ := let_some E
      refine ea_nm eH9 ?_
      have hsH9 : ShC b0 H9 := by rw [eH9]; exact hs8
      refine ea_iload_n (pc := 74) dX5_scanNumber_74 rfl 3 rfl ?_
      refine ea_iconst (pc := 75) dX5_scanNumber_75 (v := 1) rfl ?_
      refine ea_isub (pc := 76) dX5_scanNumber_76 ?_
      exact ea_iretO (pc := 77) dX5_scanNumber_77 rfl rfl E
    · have E := (if_pos c13).symm.trans E
      refine ea_bipush (pc := 62) dX5_scanNumber_62 (v := 20) rfl ?_
      refine ea_goto (pc := 64) (tgt := 69) dX5_scanNumber_64 rfl ?_
      refine ea_iload_n (pc := 69) dX5_scanNumber_69 rfl 1 rfl ?_
      refine ea_iload_n (pc := 70) dX5_scanNumber_70 rfl 2 rfl ?_
      obtain ⟨z10, E⟩ := gd_some E
      refine ea_callV (pc := 71) (d' := d - 1) (As := [vI 20, vI x1, vI x2]) (st := []) dX5_scanNumber_71 kX5_addToken (sX5_addToken (d := d - 1) (by omega) hs z10) (by omega) rfl (Nat.le_of_ble_eq_true rfl) ew_771 ew_773 ew_18 (ci := 5) rfl (by decide) (hs.1 22 (by decide)).1 (hs.1 22 (by decide)).2.1 ?_
      have hs11 : ShC b0 (wX5_addToken b0 (20 : Int32) (x1 : Int32) (x2 : Int32) h) := shX5_addToken hs
      obtain ⟨H12, eH12, E⟩ := let_some E
      refine ea_nm eH12 ?_
      have hsH12 : ShC b0 H12 := by rw [eH12]; exact hs11
      refine ea_iload_n (pc := 74) dX5_scanNumber_74 rfl 3 rfl ?_
      refine ea_iconst (pc := 75) dX5_scanNumber_75 (v := 1) rfl ?_
      refine ea_isub (pc := 76) dX5_scanNumber_76 ?_
      exact ea_iretO (pc := 77) dX5_scanNumber_77 rfl rfl E
noncomputable def qX5_scanNumber (b0 : Nat) (x1 : Int32) (h : ea_H) : Option (Int32 × ea_H) := gX5_scanNumber b0 1000000000 0 x1 0 0 h
def okX5_scanNumber (b0 : Nat) (x1 : Int32) (h : ea_H) : Prop := ∃ x, qX5_scanNumber b0 x1 h = some x
noncomputable def vX5_scanNumber (b0 : Nat) (x1 : Int32) (h : ea_H) : Int32 := ((qX5_scanNumber b0 x1 h).getD (0, h)).1
noncomputable def wX5_scanNumber (b0 : Nat) (x1 : Int32) (h : ea_H) : ea_H := ((qX5_scanNumber b0 x1 h).getD (0, h)).2
theorem sX5_scanNumber {d : Nat} {b0 : Nat} {x1 : Int32} {h : ea_H} (hd : 2 ≤ d) (hs : ShC b0 h) (K : okX5_scanNumber b0 x1 h) : ea_Met mX5_scanNumber d [vR (some (b0 + 22)), vI x1] h (some (vI (vX5_scanNumber b0 x1 h))) (wX5_scanNumber b0 x1 h) := by
  obtain ⟨⟨x, y⟩, K⟩ := K
  unfold wX5_scanNumber vX5_scanNumber
  rw [K]
  unfold qX5_scanNumber at K
  exact ea_enter rfl (Nat.le_of_ble_eq_true rfl) ((tX5_scanNumber hd 1000000000 0 x1 0 0 h x y K hs).1 rfl)
theorem zX5_scanNumber {b0 : Nat} : ∀ (f lbl : Nat) (x1 : Int32) (x2 : Int32) (x3 : Int32) (h : ea_H) (r : Int32) (h' : ea_H), gX5_scanNumber b0 f lbl x1 x2 x3 h = some (r, h') → ShC b0 h → ShC b0 h' := by
  intro f
  induction f with
  | zero => intro lbl x1 x2 x3 h r h' E; cases E
  | succ f ih =>
    intro lbl x1 x2 x3 h r h' E hs
    unfold gX5_scanNumber at E
    by_cases el0 : lbl = 0
    · have E := (if_pos el0).symm.trans E
      exact ih 4 (x1 : Int32) (0 : Int32) (x1 : Int32) h _ _ E hs
    have E := (if_neg el0).symm.trans E
    by_cases el1 : lbl = 4
    · have E := (if_pos el1).symm.trans E
      by_cases c6 : (ea_i h (b0 + 22) 0) ≤ x3
      · have E := (if_pos c6).symm.trans E
        exact ih 56 (x1 : Int32) (x2 : Int32) (x3 : Int32) h _ _ E hs
      have E := (if_neg c6).symm.trans E
      obtain ⟨z1, E⟩ := gd_some E
      by_cases c5 : (vX5_isDigit ((ea_i h (b0 + 23) (Int32.toNatClampNeg x3)) : Int32) h) = (0 : Int32)
      · have E := (if_pos c5).symm.trans E
        exact ih 56 (x1 : Int32) (x2 : Int32) (x3 : Int32) h _ _ E hs
      have E := (if_neg c5).symm.trans E
      by_cases c4 : (4 : Int32) ≤ (x3 - x1)
      · have E := (if_pos c4).symm.trans E
        exact ih 4 (x1 : Int32) ((-1) : Int32) ((x3 + (1 : Int32)) : Int32) h _ _ E hs
      have E := (if_neg c4).symm.trans E
      obtain ⟨z3, E⟩ := gd_some E
      exact ih 4 (x1 : Int32) ((((x2 * (10 : Int32)) + (ea_i h (b0 + 23) (Int32.toNatClampNeg x3))) - (48 : Int32)) : Int32) ((x3 + (1 : Int32)) : Int32) h _ _ E hs
    have E := (if_neg el1).symm.trans E
    by_cases el2 : lbl = 56
    · have E := (if_pos el2).symm.trans E
      by_cases c13 : x2 = ((-1) : Int32)
      · have E := (if_pos c13).symm.trans E
        obtain ⟨z10, E⟩ := gd_some E
        obtain ⟨H12, eH12, E⟩ := let_some E
        have hsH12 : ShC b0 H12 := by rw [eH12]; exact (shX5_addToken hs)
        exact ea_shO E hsH12
      have E := (if_neg c13).symm.trans E
      obtain ⟨z7, E⟩ := gd_some E
      obtain ⟨H9, eH9, E⟩ := let_some E
      have hsH9 : ShC b0 H9 := by rw [eH9]; exact (shX5_addToken hs)
      exact ea_shO E hsH9
    have E := (if_neg el2).symm.trans E
    cases E
theorem shX5_scanNumber {b0 : Nat} {x1 : Int32} {h : ea_H} (hs : ShC b0 h) : ShC b0 (wX5_scanNumber b0 x1 h) := by
  unfold wX5_scanNumber
  cases K : qX5_scanNumber b0 x1 h with
  | none => exact hs
  | some x => obtain ⟨x, y⟩ := x; unfold qX5_scanNumber at K; exact zX5_scanNumber _ _ _ _ _ _ _ _ K hs
noncomputable def gX6_reckon_dyn (a0 : Nat) : Nat → Nat → Option Nat → Int32 → Int32 → Int32 → Int32 → ea_H → Option (Unit × ea_H)
  | 0, _, _, _, _, _, _, _ => none
  | f + 1, lbl, r1, x2, x3, x4, x5, h =>
    if lbl = 0 then (gd ((a0 < ea_n h ∧ ea_c h a0 = 6)) (gd (r1 = some (Option.getD r1 0)) (gd (((Option.getD r1 0) < ea_n h ∧ ea_c h (Option.getD r1 0) = 20)) (gd ((ea_r h a0 1) = some (Option.getD (ea_r h a0 1) 0)) (gd (((Option.getD (ea_r h a0 1) 0) < ea_n h ∧ ea_c h (Option.getD (ea_r h a0 1) 0) = 20)) (gd ((¬ (0 : Int32) < 0)) (gd ((¬ (0 : Int32) < 0)) (gd ((¬ (144 : Int32) < 0)) (gd (((Int32.toNatClampNeg 0) + (Int32.toNatClampNeg 144) ≤ ea_l h (Option.getD (ea_r h a0 1) 0))) (gd (((Int32.toNatClampNeg 0) + (Int32.toNatClampNeg 144) ≤ ea_l h (Option.getD r1 0))) (ea_let (ea_wa h (Option.getD r1 0) (va_cpy (ea_i h (Option.getD (ea_r h a0 1) 0)) (ea_i h (Option.getD r1 0)) (Int32.toNatClampNeg 0) (Int32.toNatClampNeg 0) (Int32.toNatClampNeg 144))) fun H13 => (gX6_reckon_dyn a0 f 15 (r1 : Option Nat) 0 (x2 : Int32) 0 0 H13)))))))))))) else
    if lbl = 15 then (if (12 : Int32) ≤ x3 then (some ((), h)) else (gX6_reckon_dyn a0 f 24 (r1 : Option Nat) 0 (x3 : Int32) (0 : Int32) 0 h)) else
    if lbl = 24 then (if (12 : Int32) ≤ x4 then (gX6_reckon_dyn a0 f 15 (r1 : Option Nat) 0 ((x3 + (1 : Int32)) : Int32) 0 0 h) else (gX6_reckon_dyn a0 f 34 (r1 : Option Nat) 0 (x3 : Int32) (x4 : Int32) (0 : Int32) h)) else
    if lbl = 34 then (if (12 : Int32) ≤ x5 then (gX6_reckon_dyn a0 f 24 (r1 : Option Nat) 0 (x3 : Int32) ((x4 + (1 : Int32)) : Int32) 0 h) else (gd (r1 = some (Option.getD r1 0)) (gd (((Option.getD r1 0) < ea_n h ∧ ea_c h (Option.getD r1 0) = 20)) (gd (vp_in (((12 : Int32) * x4) + x3) (ea_l h (Option.getD r1 0))) (gd (r1 = some (Option.getD r1 0)) (gd (((Option.getD r1 0) < ea_n h ∧ ea_c h (Option.getD r1 0) = 20)) (gd (vp_in (((12 : Int32) * x3) + x5) (ea_l h (Option.getD r1 0))) (gd (r1 = some (Option.getD r1 0)) (gd (((Option.getD r1 0) < ea_n h ∧ ea_c h (Option.getD r1 0) = 20)) (gd (vp_in (((12 : Int32) * x4) + x5) (ea_l h (Option.getD r1 0))) (gd (r1 = some (Option.getD r1 0)) (gd (((Option.getD r1 0) < ea_n h ∧ ea_c h (Option.getD r1 0) = 20)) (gd (vp_in (((12 : Int32) * x4) + x5) (ea_l h (Option.getD r1 0))) (ea_let (ea_wi h (Option.getD r1 0) (Int32.toNatClampNeg (((12 : Int32) * x4) + x5)) (if ((ea_i h (Option.getD r1 0) (Int32.toNatClampNeg (((12 : Int32) * x4) + x3))) + (ea_i h (Option.getD r1 0) (Int32.toNatClampNeg (((12 : Int32) * x3) + x5)))) < (ea_i h (Option.getD r1 0) (Int32.toNatClampNeg (((12 : Int32) * x4) + x5))) then ((ea_i h (Option.getD r1 0) (Int32.toNatClampNeg (((12 : Int32) * x4) + x3))) + (ea_i h (Option.getD r1 0) (Int32.toNatClampNeg (((12 : Int32) * x3) + x5)))) else (ea_i h (Option.getD r1 0) (Int32.toNatClampNeg (((12 : Int32) * x4) + x5))))) fun H29 => (gX6_reckon_dyn a0 f 34 (r1 : Option Nat) 0 (x3 : Int32) (x4 : Int32) ((x5 + (1 : Int32)) : Int32) H29))))))))))))))) else none
theorem tX6_reckon_dyn {d : Nat} {a0 : Nat} {h0 : ea_H} (hd : 2 ≤ d) : ∀ (f lbl : Nat) (r1 : Option Nat) (x2 : Int32) (x3 : Int32) (x4 : Int32) (x5 : Int32) (h : ea_H) (r : Unit) (h' : ea_H), gX6_reckon_dyn a0 f lbl r1 x2 x3 x4 x5 h = some (r, h') → (lbl = 0 → ea_W mX6_reckon d h0 none h' 0 [(0, vR (some a0)), (1, vR r1), (2, vI x2)] [] h) ∧ (lbl = 15 → ea_W mX6_reckon d h0 none h' 15 [(1, vR r1), (3, vI x3)] [] h) ∧ (lbl = 24 → ea_W mX6_reckon d h0 none h' 24 [(1, vR r1), (3, vI x3), (4, vI x4)] [] h) ∧ (lbl = 34 → ea_W mX6_reckon d h0 none h' 34 [(1, vR r1), (3, vI x3), (4, vI x4), (5, vI x5)] [] h) := by
  intro f
  induction f with
  | zero => intro lbl r1 x2 x3 x4 x5 h r h' E; cases E
  | succ f ih =>
    intro lbl r1 x2 x3 x4 x5 h r h' E
    unfold gX6_reckon_dyn at E
    refine ⟨?_, ?_⟩
    · intro el
      subst el
      have E := (if_pos rfl).symm.trans E
      refine ea_aload_n (pc := 0) dX6_reckon_0 rfl 0 rfl ?_
      obtain ⟨f1, E⟩ := gd_some E
      refine ea_getR (pc := 1) dX6_reckon_1 ec_6 (k := 1) (Nat.le_of_ble_eq_true rfl) rfl (Or.inl ew_158) f1.1 f1.2 rfl ?_
      refine ea_iconst (pc := 4) dX6_reckon_4 (v := 0) rfl ?_
      refine ea_aload_n (pc := 5) dX6_reckon_5 rfl 1 rfl ?_
      refine ea_iconst (pc := 6) dX6_reckon_6 (v := 0) rfl ?_
      refine ea_sipush (pc := 7) dX6_reckon_7 (v := 144) rfl ?_
      obtain ⟨e2, E⟩ := gd_some E
      obtain ⟨f3, E⟩ := gd_some E
      obtain ⟨e4, E⟩ := gd_some E
      obtain ⟨f5, E⟩ := gd_some E
      obtain ⟨z6, E⟩ := gd_some E
      obtain ⟨z7, E⟩ := gd_some E
      obtain ⟨z8, E⟩ := gd_some E
      obtain ⟨z9, E⟩ := gd_some E
      obtain ⟨z10, E⟩ := gd_some E
      refine ea_deref2 e2 ?_
      refine ea_deref4 e4 ?_
      refine ea_copyX (pc := 10) (sp := 0) (dp := 0) (n := 144) 0 (fun _ => rfl) (Or.inl rfl) rfl dX6_reckon_10 ew_150 ew_152 ew_151 ew_111 ⟨f5.1, f5.2⟩ ⟨f3.1, f3.2⟩ z6 z7 z8 z9 z10 (fun _ _ => rfl) (by omega) (Nat.le_of_ble_eq_true rfl) ?_
      obtain ⟨H13, eH13, E⟩ := let_some E
      refine ea_nm eH13 ?_
      refine ea_iload_n (pc := 13) dX6_reckon_13 rfl 2 rfl ?_
      refine ea_istore_n (pc := 14) (lv' := [(1, vR r1), (3, vI x2)]) dX6_reckon_14 rfl (Nat.le_of_ble_eq_true rfl) [2, 0] rfl ?_
      exact ((ih 15 (r1 : Option Nat) 0 (x2 : Int32) 0 0 H13 _ _ E).2.1 rfl)
    refine ⟨?_, ?_⟩
    · intro el
      subst el
      have E := (if_neg (by decide)).symm.trans E
      have E := (if_pos rfl).symm.trans E
      refine ea_iload_n (pc := 15) dX6_reckon_15 rfl 1 rfl ?_
      refine ea_bipush (pc := 16) dX6_reckon_16 (v := 12) rfl ?_
      refine ea_icmp_ge (pc := 18) (tgt := 105) dX6_reckon_18 rfl (fun c14 => ?_) (fun c14 => ?_)
      · have E := (if_pos c14).symm.trans E
        exact ea_vretO (pc := 105) dX6_reckon_105 rfl E
      · have E := (if_neg c14).symm.trans E
        refine ea_iconst (pc := 21) dX6_reckon_21 (v := 0) rfl ?_
        refine ea_istore (pc := 22) (lv' := [(1, vR r1), (3, vI x3), (4, vI 0)]) dX6_reckon_22 (Nat.le_of_ble_eq_true rfl) [1, 2, 0] rfl ?_
        exact ((ih 24 (r1 : Option Nat) 0 (x3 : Int32) (0 : Int32) 0 h _ _ E).2.2.1 rfl)
    refine ⟨?_, ?_⟩
    · intro el
      subst el
      have E := (if_neg (by decide)).symm.trans E
      have E := (if_neg (by decide)).symm.trans E
      have E := (if_pos rfl).symm.trans E
      refine ea_iload (pc := 24) dX6_reckon_24 2 rfl ?_
      refine ea_bipush (pc := 26) dX6_reckon_26 (v := 12) rfl ?_
      refine ea_icmp_ge (pc := 28) (tgt := 99) dX6_reckon_28 rfl (fun c15 => ?_) (fun c15 => ?_)
      · have E := (if_pos c15).symm.trans E
        refine ea_iinc (pc := 99) (v := 1) (lv' := [(1, vR r1), (3, vI (x3 + (1 : Int32)))]) dX6_reckon_99 1 rfl rfl (Nat.le_of_ble_eq_true rfl) [1, 0] rfl ?_
        refine ea_goto (pc := 102) (tgt := 15) dX6_reckon_102 rfl ?_
        exact ((ih 15 (r1 : Option Nat) 0 ((x3 + (1 : Int32)) : Int32) 0 0 h _ _ E).2.1 rfl)
      · have E := (if_neg c15).symm.trans E
        refine ea_iconst (pc := 31) dX6_reckon_31 (v := 0) rfl ?_
        refine ea_istore (pc := 32) (lv' := [(1, vR r1), (3, vI x3), (4, vI x4), (5, vI 0)]) dX6_reckon_32 (Nat.le_of_ble_eq_true rfl) [1, 2, 3, 0] rfl ?_
        exact ((ih 34 (r1 : Option Nat) 0 (x3 : Int32) (x4 : Int32) (0 : Int32) h _ _ E).2.2.2 rfl)
    intro el
    subst el
    have E := (if_neg (by decide)).symm.trans E
    have E := (if_neg (by decide)).symm.trans E
    have E := (if_neg (by decide)).symm.trans E
    have E := (if_pos rfl).symm.trans E
    refine ea_iload (pc := 34) dX6_reckon_34 3 rfl ?_
    refine ea_bipush (pc := 36) dX6_reckon_36 (v := 12) rfl ?_
    refine ea_icmp_ge (pc := 38) (tgt := 93) dX6_reckon_38 rfl (fun c30 => ?_) (fun c30 => ?_)
    · have E := (if_pos c30).symm.trans E
      refine ea_iinc (pc := 93) (v := 1) (lv' := [(1, vR r1), (3, vI x3), (4, vI (x4 + (1 : Int32)))]) dX6_reckon_93 2 rfl rfl (Nat.le_of_ble_eq_true rfl) [1, 2, 0] rfl ?_
      refine ea_goto (pc := 96) (tgt := 24) dX6_reckon_96 rfl ?_
      exact ((ih 24 (r1 : Option Nat) 0 (x3 : Int32) ((x4 + (1 : Int32)) : Int32) 0 h _ _ E).2.2.1 rfl)
    · have E := (if_neg c30).symm.trans E
      refine ea_aload_n (pc := 41) dX6_reckon_41 rfl 0 rfl ?_
      refine ea_bipush (pc := 42) dX6_reckon_42 (v := 12) rfl ?_
      refine ea_iload (pc := 44) dX6_reckon_44 2 rfl ?_
      refine ea_imul (pc := 46) dX6_reckon_46 ?_
      refine ea_iload_n (pc := 47) dX6_reckon_47 rfl 1 rfl ?_
      refine ea_iadd (pc := 48) dX6_reckon_48 ?_
      obtain ⟨e16, E⟩ := gd_some E
      obtain ⟨f17, E⟩ := gd_some E
      obtain ⟨z18, E⟩ := gd_some E
      refine ea_deref1 e16 ?_
      refine ea_iald (pc := 49) dX6_reckon_49 f17.1 f17.2 z18 ?_
      refine ea_aload_n (pc := 50) dX6_reckon_50 rfl 0 rfl ?_
      refine ea_bipush (pc := 51) dX6_reckon_51 (v := 12) rfl ?_
      refine ea_iload_n (pc := 53) dX6_reckon_53 rfl 1 rfl ?_
      refine ea_imul (pc := 54) dX6_reckon_54 ?_
      refine ea_iload (pc := 55) dX6_reckon_55 3 rfl ?_
      refine ea_iadd (pc := 57) dX6_reckon_57 ?_
      obtain ⟨e19, E⟩ := gd_some E
      obtain ⟨f20, E⟩ := gd_some E
      obtain ⟨z21, E⟩ := gd_some E
      refine ea_deref1 e19 ?_
      refine ea_iald (pc := 58) dX6_reckon_58 f20.1 f20.2 z21 ?_
      refine ea_iadd (pc := 59) dX6_reckon_59 ?_
      refine ea_istore (pc := 60) (lv' := [(1, vR r1), (3, vI x3), (4, vI x4), (5, vI x5), (6, vI ((ea_i h (Option.getD r1 0) (Int32.toNatClampNeg (((12 : Int32) * x4) + x3))) + (ea_i h (Option.getD r1 0) (Int32.toNatClampNeg (((12 : Int32) * x3) + x5)))))]) dX6_reckon_60 (Nat.le_of_ble_eq_true rfl) [1, 2, 3, 4, 0] rfl ?_
      refine ea_aload_n (pc := 62) dX6_reckon_62 rfl 0 rfl ?_
      refine ea_bipush (pc := 63) dX6_reckon_63 (v := 12) rfl ?_
      refine ea_iload (pc := 65) dX6_reckon_65 2 rfl ?_
      refine ea_imul (pc := 67) dX6_reckon_67 ?_
      refine ea_iload (pc := 68) dX6_reckon_68 3 rfl ?_
      refine ea_iadd (pc := 70) dX6_reckon_70 ?_
      refine ea_aload_n (pc := 71) dX6_reckon_71 rfl 0 rfl ?_
      refine ea_bipush (pc := 72) dX6_reckon_72 (v := 12) rfl ?_
      refine ea_iload (pc := 74) dX6_reckon_74 2 rfl ?_
      refine ea_imul (pc := 76) dX6_reckon_76 ?_
      refine ea_iload (pc := 77) dX6_reckon_77 3 rfl ?_
      refine ea_iadd (pc := 79) dX6_reckon_79 ?_
      obtain ⟨e22, E⟩ := gd_some E
      obtain ⟨f23, E⟩ := gd_some E
      obtain ⟨z24, E⟩ := gd_some E
      refine ea_deref1 e22 ?_
      refine ea_iald (pc := 80) dX6_reckon_80 f23.1 f23.2 z24 ?_
      refine ea_iload (pc := 81) dX6_reckon_81 4 rfl ?_
      refine ea_mminI (pc := 83) dX6_reckon_83 ew_153 ew_154 ew_112 ew_155 (by omega) (Nat.le_of_ble_eq_true rfl) ?_
      obtain ⟨e25, E⟩ := gd_some E
      obtain ⟨f26, E⟩ := gd_some E
      obtain ⟨z27, E⟩ := gd_some E
      refine ea_deref2 e25 ?_
      refine ea_iast (pc := 86) dX6_reckon_86 f26.1 f26.2 z27 ?_
      obtain ⟨H29, eH29, E⟩ := let_some E
      refine ea_nm eH29 ?_
      refine ea_iinc (pc := 87) (v := 1) (lv' := [(1, vR r1), (3, vI x3), (4, vI x4), (5, vI (x5 + (1 : Int32)))]) dX6_reckon_87 3 rfl rfl (Nat.le_of_ble_eq_true rfl) [1, 2, 3, 0] rfl ?_
      refine ea_goto (pc := 90) (tgt := 34) dX6_reckon_90 rfl ?_
      exact ((ih 34 (r1 : Option Nat) 0 (x3 : Int32) (x4 : Int32) ((x5 + (1 : Int32)) : Int32) H29 _ _ E).2.2.2 rfl)
noncomputable def qX6_reckon_dyn (a0 : Nat) (r1 : Option Nat) (x2 : Int32) (h : ea_H) : Option (Unit × ea_H) := gX6_reckon_dyn a0 1000000000 0 r1 x2 0 0 0 h
def okX6_reckon_dyn (a0 : Nat) (r1 : Option Nat) (x2 : Int32) (h : ea_H) : Prop := ∃ x, qX6_reckon_dyn a0 r1 x2 h = some x
noncomputable def wX6_reckon_dyn (a0 : Nat) (r1 : Option Nat) (x2 : Int32) (h : ea_H) : ea_H := ((qX6_reckon_dyn a0 r1 x2 h).getD ((), h)).2
theorem sX6_reckon_dyn {d : Nat} {a0 : Nat} {r1 : Option Nat} {x2 : Int32} {h : ea_H} (hd : 2 ≤ d) (K : okX6_reckon_dyn a0 r1 x2 h) : ea_Met mX6_reckon d [vR (some a0), vR r1, vI x2] h none (wX6_reckon_dyn a0 r1 x2 h) := by
  obtain ⟨⟨x, y⟩, K⟩ := K
  unfold wX6_reckon_dyn
  rw [K]
  unfold qX6_reckon_dyn at K
  exact ea_enter rfl (Nat.le_of_ble_eq_true rfl) ((tX6_reckon_dyn hd 1000000000 0 r1 x2 0 0 0 h x y K).1 rfl)
noncomputable def gX6_reckon (b0 : Nat) : Nat → Nat → Option Nat → Int32 → Int32 → Int32 → Int32 → ea_H → Option (Unit × ea_H)
  | 0, _, _, _, _, _, _, _ => none
  | f + 1, lbl, r1, x2, x3, x4, x5, h =>
    if lbl = 0 then (gd (r1 = some (Option.getD r1 0)) (gd (((Option.getD r1 0) < ea_n h ∧ ea_c h (Option.getD r1 0) = 20)) (gd ((¬ (0 : Int32) < 0)) (gd ((¬ (0 : Int32) < 0)) (gd ((¬ (144 : Int32) < 0)) (gd (((Int32.toNatClampNeg 0) + (Int32.toNatClampNeg 144) ≤ ea_l h (b0 + 2))) (gd (((Int32.toNatClampNeg 0) + (Int32.toNatClampNeg 144) ≤ ea_l h (Option.getD r1 0))) (ea_let (ea_wa h (Option.getD r1 0) (va_cpy (ea_i h (b0 + 2)) (ea_i h (Option.getD r1 0)) (Int32.toNatClampNeg 0) (Int32.toNatClampNeg 0) (Int32.toNatClampNeg 144))) fun H10 => (gX6_reckon b0 f 15 (r1 : Option Nat) 0 (x2 : Int32) 0 0 H10))))))))) else
    if lbl = 15 then (if (12 : Int32) ≤ x3 then (some ((), h)) else (gX6_reckon b0 f 24 (r1 : Option Nat) 0 (x3 : Int32) (0 : Int32) 0 h)) else
    if lbl = 24 then (if (12 : Int32) ≤ x4 then (gX6_reckon b0 f 15 (r1 : Option Nat) 0 ((x3 + (1 : Int32)) : Int32) 0 0 h) else (gX6_reckon b0 f 34 (r1 : Option Nat) 0 (x3 : Int32) (x4 : Int32) (0 : Int32) h)) else
    if lbl = 34 then (if (12 : Int32) ≤ x5 then (gX6_reckon b0 f 24 (r1 : Option Nat) 0 (x3 : Int32) ((x4 + (1 : Int32)) : Int32) 0 h) else (gd (r1 = some (Option.getD r1 0)) (gd (((Option.getD r1 0) < ea_n h ∧ ea_c h (Option.getD r1 0) = 20)) (gd (vp_in (((12 : Int32) * x4) + x3) (ea_l h (Option.getD r1 0))) (gd (r1 = some (Option.getD r1 0)) (gd (((Option.getD r1 0) < ea_n h ∧ ea_c h (Option.getD r1 0) = 20)) (gd (vp_in (((12 : Int32) * x3) + x5) (ea_l h (Option.getD r1 0))) (gd (r1 = some (Option.getD r1 0)) (gd (((Option.getD r1 0) < ea_n h ∧ ea_c h (Option.getD r1 0) = 20)) (gd (vp_in (((12 : Int32) * x4) + x5) (ea_l h (Option.getD r1 0))) (gd (r1 = some (Option.getD r1 0)) (gd (((Option.getD r1 0) < ea_n h ∧ ea_c h (Option.getD r1 0) = 20)) (gd (vp_in (((12 : Int32) * x4) + x5) (ea_l h (Option.getD r1 0))) (ea_let (ea_wi h (Option.getD r1 0) (Int32.toNatClampNeg (((12 : Int32) * x4) + x5)) (if ((ea_i h (Option.getD r1 0) (Int32.toNatClampNeg (((12 : Int32) * x4) + x3))) + (ea_i h (Option.getD r1 0) (Int32.toNatClampNeg (((12 : Int32) * x3) + x5)))) < (ea_i h (Option.getD r1 0) (Int32.toNatClampNeg (((12 : Int32) * x4) + x5))) then ((ea_i h (Option.getD r1 0) (Int32.toNatClampNeg (((12 : Int32) * x4) + x3))) + (ea_i h (Option.getD r1 0) (Int32.toNatClampNeg (((12 : Int32) * x3) + x5)))) else (ea_i h (Option.getD r1 0) (Int32.toNatClampNeg (((12 : Int32) * x4) + x5))))) fun H26 => (gX6_reckon b0 f 34 (r1 : Option Nat) 0 (x3 : Int32) (x4 : Int32) ((x5 + (1 : Int32)) : Int32) H26))))))))))))))) else none
theorem tX6_reckon {d : Nat} {b0 : Nat} {h0 : ea_H} (hd : 2 ≤ d) : ∀ (f lbl : Nat) (r1 : Option Nat) (x2 : Int32) (x3 : Int32) (x4 : Int32) (x5 : Int32) (h : ea_H) (r : Unit) (h' : ea_H), gX6_reckon b0 f lbl r1 x2 x3 x4 x5 h = some (r, h') → ShC b0 h → (lbl = 0 → ea_W mX6_reckon d h0 none h' 0 [(0, vR (some (b0 + 1))), (1, vR r1), (2, vI x2)] [] h) ∧ (lbl = 15 → ea_W mX6_reckon d h0 none h' 15 [(1, vR r1), (3, vI x3)] [] h) ∧ (lbl = 24 → ea_W mX6_reckon d h0 none h' 24 [(1, vR r1), (3, vI x3), (4, vI x4)] [] h) ∧ (lbl = 34 → ea_W mX6_reckon d h0 none h' 34 [(1, vR r1), (3, vI x3), (4, vI x4), (5, vI x5)] [] h) := by
  intro f
  induction f with
  | zero => intro lbl r1 x2 x3 x4 x5 h r h' E; cases E
  | succ f ih =>
    intro lbl r1 x2 x3 x4 x5 h r h' E hs
    unfold gX6_reckon at E
    refine ⟨?_, ?_⟩
    · intro el
      subst el
      have E := (if_pos rfl).symm.trans E
      refine ea_aload_n (pc := 0) dX6_reckon_0 rfl 0 rfl ?_
      refine ea_getR (pc := 1) dX6_reckon_1 ec_6 (k := 1) (Nat.le_of_ble_eq_true rfl) rfl (Or.inl ew_158) (hs.1 1 (by decide)).1 (hs.1 1 (by decide)).2.1 (hs.2 1 1 rfl) ?_
      refine ea_iconst (pc := 4) dX6_reckon_4 (v := 0) rfl ?_
      refine ea_aload_n (pc := 5) dX6_reckon_5 rfl 1 rfl ?_
      refine ea_iconst (pc := 6) dX6_reckon_6 (v := 0) rfl ?_
      refine ea_sipush (pc := 7) dX6_reckon_7 (v := 144) rfl ?_
      obtain ⟨e1, E⟩ := gd_some E
      obtain ⟨f2, E⟩ := gd_some E
      obtain ⟨z3, E⟩ := gd_some E
      obtain ⟨z4, E⟩ := gd_some E
      obtain ⟨z5, E⟩ := gd_some E
      obtain ⟨z6, E⟩ := gd_some E
      obtain ⟨z7, E⟩ := gd_some E
      refine ea_deref2 e1 ?_
      refine ea_copyX (pc := 10) (sp := 0) (dp := 0) (n := 144) 0 (fun _ => rfl) (Or.inl rfl) rfl dX6_reckon_10 ew_150 ew_152 ew_151 ew_111 ⟨(hs.1 2 (by decide)).1, (hs.1 2 (by decide)).2.1⟩ ⟨f2.1, f2.2⟩ z3 z4 z5 z6 z7 (fun _ _ => rfl) (by omega) (Nat.le_of_ble_eq_true rfl) ?_
      have hs9 : ShC b0 (ea_wa h (Option.getD r1 0) (va_cpy (ea_i h (b0 + 2)) (ea_i h (Option.getD r1 0)) (Int32.toNatClampNeg 0) (Int32.toNatClampNeg 0) (Int32.toNatClampNeg 144))) := ShC_wa hs
      obtain ⟨H10, eH10, E⟩ := let_some E
      refine ea_nm eH10 ?_
      have hsH10 : ShC b0 H10 := by rw [eH10]; exact hs9
      refine ea_iload_n (pc := 13) dX6_reckon_13 rfl 2 rfl ?_
      refine ea_istore_n (pc := 14) (lv' := [(1, vR r1), (3, vI x2)]) dX6_reckon_14 rfl (Nat.le_of_ble_eq_true rfl) [2, 0] rfl ?_
      exact ((ih 15 (r1 : Option Nat) 0 (x2 : Int32) 0 0 H10 _ _ E hsH10).2.1 rfl)
    refine ⟨?_, ?_⟩
    · intro el
      subst el
      have E := (if_neg (by decide)).symm.trans E
      have E := (if_pos rfl).symm.trans E
      refine ea_iload_n (pc := 15) dX6_reckon_15 rfl 1 rfl ?_
      refine ea_bipush (pc := 16) dX6_reckon_16 (v := 12) rfl ?_
      refine ea_icmp_ge (pc := 18) (tgt := 105) dX6_reckon_18 rfl (fun c11 => ?_) (fun c11 => ?_)
      · have E := (if_pos c11).symm.trans E
        exact ea_vretO (pc := 105) dX6_reckon_105 rfl E
      · have E := (if_neg c11).symm.trans E
        refine ea_iconst (pc := 21) dX6_reckon_21 (v := 0) rfl ?_
        refine ea_istore (pc := 22) (lv' := [(1, vR r1), (3, vI x3), (4, vI 0)]) dX6_reckon_22 (Nat.le_of_ble_eq_true rfl) [1, 2, 0] rfl ?_
        exact ((ih 24 (r1 : Option Nat) 0 (x3 : Int32) (0 : Int32) 0 h _ _ E hs).2.2.1 rfl)
    refine ⟨?_, ?_⟩
    · intro el
      subst el
      have E := (if_neg (by decide)).symm.trans E
      have E := (if_neg (by decide)).symm.trans E
      have E := (if_pos rfl).symm.trans E
      refine ea_iload (pc := 24) dX6_reckon_24 2 rfl ?_
      refine ea_bipush (pc := 26) dX6_reckon_26 (v := 12) rfl ?_
      refine ea_icmp_ge (pc := 28) (tgt := 99) dX6_reckon_28 rfl (fun c12 => ?_) (fun c12 => ?_)
      · have E := (if_pos c12).symm.trans E
        refine ea_iinc (pc := 99) (v := 1) (lv' := [(1, vR r1), (3, vI (x3 + (1 : Int32)))]) dX6_reckon_99 1 rfl rfl (Nat.le_of_ble_eq_true rfl) [1, 0] rfl ?_
        refine ea_goto (pc := 102) (tgt := 15) dX6_reckon_102 rfl ?_
        exact ((ih 15 (r1 : Option Nat) 0 ((x3 + (1 : Int32)) : Int32) 0 0 h _ _ E hs).2.1 rfl)
      · have E := (if_neg c12).symm.trans E
        refine ea_iconst (pc := 31) dX6_reckon_31 (v := 0) rfl ?_
        refine ea_istore (pc := 32) (lv' := [(1, vR r1), (3, vI x3), (4, vI x4), (5, vI 0)]) dX6_reckon_32 (Nat.le_of_ble_eq_true rfl) [1, 2, 3, 0] rfl ?_
        exact ((ih 34 (r1 : Option Nat) 0 (x3 : Int32) (x4 : Int32) (0 : Int32) h _ _ E hs).2.2.2 rfl)
    intro el
    subst el
    have E := (if_neg (by decide)).symm.trans E
    have E := (if_neg (by decide)).symm.trans E
    have E := (if_neg (by decide)).symm.trans E
    have E := (if_pos rfl).symm.trans E
    refine ea_iload (pc := 34) dX6_reckon_34 3 rfl ?_
    refine ea_bipush (pc := 36) dX6_reckon_36 (v := 12) rfl ?_
    refine ea_icmp_ge (pc := 38) (tgt := 93) dX6_reckon_38 rfl (fun c27 => ?_) (fun c27 => ?_)
    · have E := (if_pos c27).symm.trans E
      refine ea_iinc (pc := 93) (v := 1) (lv' := [(1, vR r1), (3, vI x3), (4, vI (x4 + (1 : Int32)))]) dX6_reckon_93 2 rfl rfl (Nat.le_of_ble_eq_true rfl) [1, 2, 0] rfl ?_
      refine ea_goto (pc := 96) (tgt := 24) dX6_reckon_96 rfl ?_
      exact ((ih 24 (r1 : Option Nat) 0 (x3 : Int32) ((x4 + (1 : Int32)) : Int32) 0 h _ _ E hs).2.2.1 rfl)
    · have E := (if_neg c27).symm.trans E
      refine ea_aload_n (pc := 41) dX6_reckon_41 rfl 0 rfl ?_
      refine ea_bipush (pc := 42) dX6_reckon_42 (v := 12) rfl ?_
      refine ea_iload (pc := 44) dX6_reckon_44 2 rfl ?_
      refine ea_imul (pc := 46) dX6_reckon_46 ?_
      refine ea_iload_n (pc := 47) dX6_reckon_47 rfl 1 rfl ?_
      refine ea_iadd (pc := 48) dX6_reckon_48 ?_
      obtain ⟨e13, E⟩ := gd_some E
      obtain ⟨f14, E⟩ := gd_some E
      obtain ⟨z15, E⟩ := gd_some E
      refine ea_deref1 e13 ?_
      refine ea_iald (pc := 49) dX6_reckon_49 f14.1 f14.2 z15 ?_
      refine ea_aload_n (pc := 50) dX6_reckon_50 rfl 0 rfl ?_
      refine ea_bipush (pc := 51) dX6_reckon_51 (v := 12) rfl ?_
      refine ea_iload_n (pc := 53) dX6_reckon_53 rfl 1 rfl ?_
      refine ea_imul (pc := 54) dX6_reckon_54 ?_
      refine ea_iload (pc := 55) dX6_reckon_55 3 rfl ?_
      refine ea_iadd (pc := 57) dX6_reckon_57 ?_
      obtain ⟨e16, E⟩ := gd_some E
      obtain ⟨f17, E⟩ := gd_some E
      obtain ⟨z18, E⟩ := gd_some E
      refine ea_deref1 e16 ?_
      refine ea_iald (pc := 58) dX6_reckon_58 f17.1 f17.2 z18 ?_
      refine ea_iadd (pc := 59) dX6_reckon_59 ?_
      refine ea_istore (pc := 60) (lv' := [(1, vR r1), (3, vI x3), (4, vI x4), (5, vI x5), (6, vI ((ea_i h (Option.getD r1 0) (Int32.toNatClampNeg (((12 : Int32) * x4) + x3))) + (ea_i h (Option.getD r1 0) (Int32.toNatClampNeg (((12 : Int32) * x3) + x5)))))]) dX6_reckon_60 (Nat.le_of_ble_eq_true rfl) [1, 2, 3, 4, 0] rfl ?_
      refine ea_aload_n (pc := 62) dX6_reckon_62 rfl 0 rfl ?_
      refine ea_bipush (pc := 63) dX6_reckon_63 (v := 12) rfl ?_
      refine ea_iload (pc := 65) dX6_reckon_65 2 rfl ?_
      refine ea_imul (pc := 67) dX6_reckon_67 ?_
      refine ea_iload (pc := 68) dX6_reckon_68 3 rfl ?_
      refine ea_iadd (pc := 70) dX6_reckon_70 ?_
      refine ea_aload_n (pc := 71) dX6_reckon_71 rfl 0 rfl ?_
      refine ea_bipush (pc := 72) dX6_reckon_72 (v := 12) rfl ?_
      refine ea_iload (pc := 74) dX6_reckon_74 2 rfl ?_
      refine ea_imul (pc := 76) dX6_reckon_76 ?_
      refine ea_iload (pc := 77) dX6_reckon_77 3 rfl ?_
      refine ea_iadd (pc := 79) dX6_reckon_79 ?_
      obtain ⟨e19, E⟩ := gd_some E
      obtain ⟨f20, E⟩ := gd_some E
      obtain ⟨z21, E⟩ := gd_some E
      refine ea_deref1 e19 ?_
      refine ea_iald (pc := 80) dX6_reckon_80 f20.1 f20.2 z21 ?_
      refine ea_iload (pc := 81) dX6_reckon_81 4 rfl ?_
      refine ea_mminI (pc := 83) dX6_reckon_83 ew_153 ew_154 ew_112 ew_155 (by omega) (Nat.le_of_ble_eq_true rfl) ?_
      obtain ⟨e22, E⟩ := gd_some E
      obtain ⟨f23, E⟩ := gd_some E
      obtain ⟨z24, E⟩ := gd_some E
      refine ea_deref2 e22 ?_
      refine ea_iast (pc := 86) dX6_reckon_86 f23.1 f23.2 z24 ?_
      have hs25 : ShC b0 (ea_wi h (Option.getD r1 0) (Int32.toNatClampNeg (((12 : Int32) * x4) + x5)) (if ((ea_i h (Option.getD r1 0) (Int32.toNatClampNeg (((12 : Int32) * x4) + x3))) + (ea_i h (Option.getD r1 0) (Int32.toNatClampNeg (((12 : Int32) * x3) + x5)))) < (ea_i h (Option.getD r1 0) (Int32.toNatClampNeg (((12 : Int32) * x4) + x5))) then ((ea_i h (Option.getD r1 0) (Int32.toNatClampNeg (((12 : Int32) * x4) + x3))) + (ea_i h (Option.getD r1 0) (Int32.toNatClampNeg (((12 : Int32) * x3) + x5)))) else (ea_i h (Option.getD r1 0) (Int32.toNatClampNeg (((12 : Int32) * x4) + x5))))) := ShC_wi hs
      obtain ⟨H26, eH26, E⟩ := let_some E
      refine ea_nm eH26 ?_
      have hsH26 : ShC b0 H26 := by rw [eH26]; exact hs25
      refine ea_iinc (pc := 87) (v := 1) (lv' := [(1, vR r1), (3, vI x3), (4, vI x4), (5, vI (x5 + (1 : Int32)))]) dX6_reckon_87 3 rfl rfl (Nat.le_of_ble_eq_true rfl) [1, 2, 3, 0] rfl ?_
      refine ea_goto (pc := 90) (tgt := 34) dX6_reckon_90 rfl ?_
      exact ((ih 34 (r1 : Option Nat) 0 (x3 : Int32) (x4 : Int32) ((x5 + (1 : Int32)) : Int32) H26 _ _ E hsH26).2.2.2 rfl)
noncomputable def qX6_reckon (b0 : Nat) (r1 : Option Nat) (x2 : Int32) (h : ea_H) : Option (Unit × ea_H) := gX6_reckon b0 1000000000 0 r1 x2 0 0 0 h
def okX6_reckon (b0 : Nat) (r1 : Option Nat) (x2 : Int32) (h : ea_H) : Prop := ∃ x, qX6_reckon b0 r1 x2 h = some x
noncomputable def wX6_reckon (b0 : Nat) (r1 : Option Nat) (x2 : Int32) (h : ea_H) : ea_H := ((qX6_reckon b0 r1 x2 h).getD ((), h)).2
theorem sX6_reckon {d : Nat} {b0 : Nat} {r1 : Option Nat} {x2 : Int32} {h : ea_H} (hd : 2 ≤ d) (hs : ShC b0 h) (K : okX6_reckon b0 r1 x2 h) : ea_Met mX6_reckon d [vR (some (b0 + 1)), vR r1, vI x2] h none (wX6_reckon b0 r1 x2 h) := by
  obtain ⟨⟨x, y⟩, K⟩ := K
  unfold wX6_reckon
  rw [K]
  unfold qX6_reckon at K
  exact ea_enter rfl (Nat.le_of_ble_eq_true rfl) ((tX6_reckon hd 1000000000 0 r1 x2 0 0 0 h x y K hs).1 rfl)
theorem zX6_reckon {b0 : Nat} : ∀ (f lbl : Nat) (r1 : Option Nat) (x2 : Int32) (x3 : Int32) (x4 : Int32) (x5 : Int32) (h : ea_H) (r : Unit) (h' : ea_H), gX6_reckon b0 f lbl r1 x2 x3 x4 x5 h = some (r, h') → ShC b0 h → ShC b0 h' := by
  intro f
  induction f with
  | zero => intro lbl r1 x2 x3 x4 x5 h r h' E; cases E
  | succ f ih =>
    intro lbl r1 x2 x3 x4 x5 h r h' E hs
    unfold gX6_reckon at E
    by_cases el0 : lbl = 0
    · have E := (if_pos el0).symm.trans E
      obtain ⟨e1, E⟩ := gd_some E
      obtain ⟨f2, E⟩ := gd_some E
      obtain ⟨z3, E⟩ := gd_some E
      obtain ⟨z4, E⟩ := gd_some E
      obtain ⟨z5, E⟩ := gd_some E
      obtain ⟨z6, E⟩ := gd_some E
      obtain ⟨z7, E⟩ := gd_some E
      obtain ⟨H10, eH10, E⟩ := let_some E
      have hsH10 : ShC b0 H10 := by rw [eH10]; exact (ShC_wa hs)
      exact ih 15 (r1 : Option Nat) 0 (x2 : Int32) 0 0 H10 _ _ E hsH10
    have E := (if_neg el0).symm.trans E
    by_cases el1 : lbl = 15
    · have E := (if_pos el1).symm.trans E
      by_cases c11 : (12 : Int32) ≤ x3
      · have E := (if_pos c11).symm.trans E
        exact ea_shO E hs
      have E := (if_neg c11).symm.trans E
      exact ih 24 (r1 : Option Nat) 0 (x3 : Int32) (0 : Int32) 0 h _ _ E hs
    have E := (if_neg el1).symm.trans E
    by_cases el2 : lbl = 24
    · have E := (if_pos el2).symm.trans E
      by_cases c12 : (12 : Int32) ≤ x4
      · have E := (if_pos c12).symm.trans E
        exact ih 15 (r1 : Option Nat) 0 ((x3 + (1 : Int32)) : Int32) 0 0 h _ _ E hs
      have E := (if_neg c12).symm.trans E
      exact ih 34 (r1 : Option Nat) 0 (x3 : Int32) (x4 : Int32) (0 : Int32) h _ _ E hs
    have E := (if_neg el2).symm.trans E
    by_cases el3 : lbl = 34
    · have E := (if_pos el3).symm.trans E
      by_cases c27 : (12 : Int32) ≤ x5
      · have E := (if_pos c27).symm.trans E
        exact ih 24 (r1 : Option Nat) 0 (x3 : Int32) ((x4 + (1 : Int32)) : Int32) 0 h _ _ E hs
      have E := (if_neg c27).symm.trans E
      obtain ⟨e13, E⟩ := gd_some E
      obtain ⟨f14, E⟩ := gd_some E
      obtain ⟨z15, E⟩ := gd_some E
      obtain ⟨e16, E⟩ := gd_some E
      obtain ⟨f17, E⟩ := gd_some E
      obtain ⟨z18, E⟩ := gd_some E
      obtain ⟨e19, E⟩ := gd_some E
      obtain ⟨f20, E⟩ := gd_some E
      obtain ⟨z21, E⟩ := gd_some E
      obtain ⟨e22, E⟩ := gd_some E
      obtain ⟨f23, E⟩ := gd_some E
      obtain ⟨z24, E⟩ := gd_some E
      obtain ⟨H26, eH26, E⟩ := let_some E
      have hsH26 : ShC b0 H26 := by rw [eH26]; exact (ShC_wi hs)
      exact ih 34 (r1 : Option Nat) 0 (x3 : Int32) (x4 : Int32) ((x5 + (1 : Int32)) : Int32) H26 _ _ E hsH26
    have E := (if_neg el3).symm.trans E
    cases E
theorem shX6_reckon {b0 : Nat} {r1 : Option Nat} {x2 : Int32} {h : ea_H} (hs : ShC b0 h) : ShC b0 (wX6_reckon b0 r1 x2 h) := by
  unfold wX6_reckon
  cases K : qX6_reckon b0 r1 x2 h with
  | none => exact hs
  | some x => obtain ⟨x, y⟩ := x; unfold qX6_reckon at K; exact zX6_reckon _ _ _ _ _ _ _ _ _ _ K hs
noncomputable def wX8_init (a0 : Nat) (h : ea_H) : ea_H := (ea_wr (ea_new (ea_wr (ea_new (ea_wr (ea_new (ea_wr (wX5_init (ea_n h) (ea_new h 5 0 12)) a0 0 (some (ea_n h))) 26 6 6) a0 2 (some (ea_n (ea_wr (wX5_init (ea_n h) (ea_new h 5 0 12)) a0 0 (some (ea_n h)))))) 20 7 7) a0 3 (some (ea_n (ea_wr (ea_new (ea_wr (wX5_init (ea_n h) (ea_new h 5 0 12)) a0 0 (some (ea_n h))) 26 6 6) a0 2 (some (ea_n (ea_wr (wX5_init (ea_n h) (ea_new h 5 0 12)) a0 0 (some (ea_n h))))))))) 20 64 64) a0 4 (some (ea_n (ea_wr (ea_new (ea_wr (ea_new (ea_wr (wX5_init (ea_n h) (ea_new h 5 0 12)) a0 0 (some (ea_n h))) 26 6 6) a0 2 (some (ea_n (ea_wr (wX5_init (ea_n h) (ea_new h 5 0 12)) a0 0 (some (ea_n h)))))) 20 7 7) a0 3 (some (ea_n (ea_wr (ea_new (ea_wr (wX5_init (ea_n h) (ea_new h 5 0 12)) a0 0 (some (ea_n h))) 26 6 6) a0 2 (some (ea_n (ea_wr (wX5_init (ea_n h) (ea_new h 5 0 12)) a0 0 (some (ea_n h))))))))))))
def okX8_init (a0 : Nat) (h : ea_H) : Prop := (okX5_init (ea_n h) (ea_new h 5 0 12)) ∧ ((a0 < ea_n (wX5_init (ea_n h) (ea_new h 5 0 12)) ∧ ea_c (wX5_init (ea_n h) (ea_new h 5 0 12)) a0 = 8) ∧ ((a0 < ea_n (ea_new (ea_wr (wX5_init (ea_n h) (ea_new h 5 0 12)) a0 0 (some (ea_n h))) 26 6 6) ∧ ea_c (ea_new (ea_wr (wX5_init (ea_n h) (ea_new h 5 0 12)) a0 0 (some (ea_n h))) 26 6 6) a0 = 8) ∧ ((a0 < ea_n (ea_new (ea_wr (ea_new (ea_wr (wX5_init (ea_n h) (ea_new h 5 0 12)) a0 0 (some (ea_n h))) 26 6 6) a0 2 (some (ea_n (ea_wr (wX5_init (ea_n h) (ea_new h 5 0 12)) a0 0 (some (ea_n h)))))) 20 7 7) ∧ ea_c (ea_new (ea_wr (ea_new (ea_wr (wX5_init (ea_n h) (ea_new h 5 0 12)) a0 0 (some (ea_n h))) 26 6 6) a0 2 (some (ea_n (ea_wr (wX5_init (ea_n h) (ea_new h 5 0 12)) a0 0 (some (ea_n h)))))) 20 7 7) a0 = 8) ∧ ((a0 < ea_n (ea_new (ea_wr (ea_new (ea_wr (ea_new (ea_wr (wX5_init (ea_n h) (ea_new h 5 0 12)) a0 0 (some (ea_n h))) 26 6 6) a0 2 (some (ea_n (ea_wr (wX5_init (ea_n h) (ea_new h 5 0 12)) a0 0 (some (ea_n h)))))) 20 7 7) a0 3 (some (ea_n (ea_wr (ea_new (ea_wr (wX5_init (ea_n h) (ea_new h 5 0 12)) a0 0 (some (ea_n h))) 26 6 6) a0 2 (some (ea_n (ea_wr (wX5_init (ea_n h) (ea_new h 5 0 12)) a0 0 (some (ea_n h))))))))) 20 64 64) ∧ ea_c (ea_new (ea_wr (ea_new (ea_wr (ea_new (ea_wr (wX5_init (ea_n h) (ea_new h 5 0 12)) a0 0 (some (ea_n h))) 26 6 6) a0 2 (some (ea_n (ea_wr (wX5_init (ea_n h) (ea_new h 5 0 12)) a0 0 (some (ea_n h)))))) 20 7 7) a0 3 (some (ea_n (ea_wr (ea_new (ea_wr (wX5_init (ea_n h) (ea_new h 5 0 12)) a0 0 (some (ea_n h))) 26 6 6) a0 2 (some (ea_n (ea_wr (wX5_init (ea_n h) (ea_new h 5 0 12)) a0 0 (some (ea_n h))))))))) 20 64 64) a0 = 8)))))
theorem sX8_init {d : Nat} {a0 : Nat} {h : ea_H} (hd : 3 ≤ d) (K : okX8_init a0 h) : ea_Met mX8_init d [vR (some a0)] h none (wX8_init a0 h) := by
  obtain ⟨Y, EY⟩ : ∃ z, z = wX8_init a0 h := ⟨_, rfl⟩
  rw [← EY]
  unfold wX8_init at EY
  unfold okX8_init at K
  refine ea_enter rfl (Nat.le_of_ble_eq_true rfl) ?_
  refine ea_aload_n (pc := 0) dX8_init_0 rfl 0 rfl ?_
  refine ea_objInit (pc := 1) dX8_init_1 ew_284 ew_134 ew_135 (by omega) (Nat.le_of_ble_eq_true rfl) ?_
  refine ea_aload_n (pc := 4) dX8_init_4 rfl 0 rfl ?_
  refine ea_newO (pc := 5) dX8_init_5 ec_5 ew_285 ew_286 ew_117 ?_
  refine ea_dup (pc := 8) dX8_init_8 rfl ?_
  obtain ⟨z2, K⟩ := K
  refine ea_callIN (pc := 9) (d' := d - 1) (As := []) (st := [vR (some (ea_n h)), vR (some a0)]) dX8_init_9 kX5_init (sX5_init (d := d - 1) (by omega) z2) (by omega) rfl (Nat.le_of_ble_eq_true rfl) ew_287 ew_288 rfl rfl ?_
  obtain ⟨f4, K⟩ := K
  refine ea_putR (pc := 12) dX8_init_12 ec_8 (k := 0) (Nat.le_of_ble_eq_true rfl) rfl (Or.inr ⟨rfl, rfl, rfl, ew_333⟩) f4.1 f4.2 ?_
  refine ea_aload_n (pc := 15) dX8_init_15 rfl 0 rfl ?_
  refine ea_bipush (pc := 16) dX8_init_16 (v := 6) rfl ?_
  refine ea_newR26 (pc := 18) (N := 6) dX8_init_18 ew_331 ew_332 (by decide) rfl (Nat.le_of_ble_eq_true rfl) ?_
  obtain ⟨f7, K⟩ := K
  refine ea_putR (pc := 21) dX8_init_21 ec_8 (k := 2) (Nat.le_of_ble_eq_true rfl) rfl (Or.inr ⟨rfl, rfl, rfl, ew_337⟩) f7.1 f7.2 ?_
  refine ea_aload_n (pc := 24) dX8_init_24 rfl 0 rfl ?_
  refine ea_bipush (pc := 25) dX8_init_25 (v := 7) rfl ?_
  refine ea_newI (pc := 27) (N := 7) dX8_init_27 ew_170 (by decide) rfl (Nat.le_of_ble_eq_true rfl) ?_
  obtain ⟨f10, K⟩ := K
  refine ea_putR (pc := 29) dX8_init_29 ec_8 (k := 3) (Nat.le_of_ble_eq_true rfl) rfl (Or.inr ⟨rfl, rfl, rfl, ew_338⟩) f10.1 f10.2 ?_
  refine ea_aload_n (pc := 32) dX8_init_32 rfl 0 rfl ?_
  refine ea_bipush (pc := 33) dX8_init_33 (v := 64) rfl ?_
  refine ea_newI (pc := 35) (N := 64) dX8_init_35 ew_170 (by decide) rfl (Nat.le_of_ble_eq_true rfl) ?_
  have f13 := K
  refine ea_putR (pc := 37) dX8_init_37 ec_8 (k := 4) (Nat.le_of_ble_eq_true rfl) rfl (Or.inr ⟨rfl, rfl, rfl, ew_339⟩) f13.1 f13.2 ?_
  exact ea_vretE (pc := 40) dX8_init_40 rfl EY
noncomputable def gX8_numberOn (b0 : Nat) : Nat → Nat → Int32 → Int32 → Int32 → ea_H → Option (Int32 × ea_H)
  | 0, _, _, _, _, _ => none
  | f + 1, lbl, x1, x2, x3, h =>
    if lbl = 0 then (gX8_numberOn b0 f 4 (x1 : Int32) ((-1) : Int32) (0 : Int32) h) else
    if lbl = 4 then (if (ea_i h (b0 + 21) 1) ≤ x3 then (some (x2, h)) else (gd (vp_in x3 6) (gd ((ea_r h (b0 + 28) (Int32.toNatClampNeg x3)) = some (Option.getD (ea_r h (b0 + 28) (Int32.toNatClampNeg x3)) 0)) (gd (((Option.getD (ea_r h (b0 + 28) (Int32.toNatClampNeg x3)) 0) < ea_n h ∧ ea_c h (Option.getD (ea_r h (b0 + 28) (Int32.toNatClampNeg x3)) 0) = 0)) (if x1 < (ea_i h (Option.getD (ea_r h (b0 + 28) (Int32.toNatClampNeg x3)) 0) 0) then (gX8_numberOn b0 f 4 (x1 : Int32) (x2 : Int32) ((x3 + (1 : Int32)) : Int32) h) else (gX8_numberOn b0 f 4 (x1 : Int32) (x3 : Int32) ((x3 + (1 : Int32)) : Int32) h)))))) else none
theorem tX8_numberOn {d : Nat} {b0 : Nat} {h0 : ea_H} (hd : 1 ≤ d) : ∀ (f lbl : Nat) (x1 : Int32) (x2 : Int32) (x3 : Int32) (h : ea_H) (r : Int32) (h' : ea_H), gX8_numberOn b0 f lbl x1 x2 x3 h = some (r, h') → ShC b0 h → (lbl = 0 → ea_W mX8_numberOn d h0 (some (vI r)) h' 0 [(0, vR (some (b0 + 21))), (1, vI x1)] [] h) ∧ (lbl = 4 → ea_W mX8_numberOn d h0 (some (vI r)) h' 4 [(0, vR (some (b0 + 21))), (1, vI x1), (2, vI x2), (3, vI x3)] [] h) := by
  intro f
  induction f with
  | zero => intro lbl x1 x2 x3 h r h' E; cases E
  | succ f ih =>
    intro lbl x1 x2 x3 h r h' E hs
    unfold gX8_numberOn at E
    refine ⟨?_, ?_⟩
    · intro el
      subst el
      have E := (if_pos rfl).symm.trans E
      refine ea_iconst (pc := 0) dX8_numberOn_0 (v := (-1)) rfl ?_
      refine ea_istore_n (pc := 1) (lv' := [(0, vR (some (b0 + 21))), (1, vI x1), (2, vI (-1))]) dX8_numberOn_1 rfl (Nat.le_of_ble_eq_true rfl) [1, 2, 0] rfl ?_
      refine ea_iconst (pc := 2) dX8_numberOn_2 (v := 0) rfl ?_
      refine ea_istore_n (pc := 3) (lv' := [(0, vR (some (b0 + 21))), (1, vI x1), (2, vI (-1)), (3, vI 0)]) dX8_numberOn_3 rfl (Nat.le_of_ble_eq_true rfl) [1, 2, 3, 0] rfl ?_
      exact ((ih 4 (x1 : Int32) ((-1) : Int32) (0 : Int32) h _ _ E hs).2 rfl)
    intro el
    subst el
    have E := (if_neg (by decide)).symm.trans E
    have E := (if_pos rfl).symm.trans E
    refine ea_iload_n (pc := 4) dX8_numberOn_4 rfl 3 rfl ?_
    refine ea_aload_n (pc := 5) dX8_numberOn_5 rfl 0 rfl ?_
    refine ea_getI (pc := 6) dX8_numberOn_6 ec_8 (k := 1) (Nat.le_of_ble_eq_true rfl) rfl (Or.inl ew_335) (hs.1 21 (by decide)).1 (hs.1 21 (by decide)).2.1 ?_
    refine ea_icmp_ge (pc := 9) (tgt := 33) dX8_numberOn_9 rfl (fun c5 => ?_) (fun c5 => ?_)
    · have E := (if_pos c5).symm.trans E
      refine ea_iload_n (pc := 33) dX8_numberOn_33 rfl 2 rfl ?_
      exact ea_iretO (pc := 34) dX8_numberOn_34 rfl rfl E
    · have E := (if_neg c5).symm.trans E
      refine ea_aload_n (pc := 12) dX8_numberOn_12 rfl 0 rfl ?_
      refine ea_getR (pc := 13) dX8_numberOn_13 ec_8 (k := 2) (Nat.le_of_ble_eq_true rfl) rfl (Or.inl ew_337) (hs.1 21 (by decide)).1 (hs.1 21 (by decide)).2.1 (hs.2 21 2 rfl) ?_
      refine ea_iload_n (pc := 16) dX8_numberOn_16 rfl 3 rfl ?_
      obtain ⟨z1, E⟩ := gd_some E
      refine ea_aald26 (pc := 17) dX8_numberOn_17 (hs.1 28 (by decide)).1 (hs.1 28 (by decide)).2.1 (ea_vpl (hs.1 28 (by decide)).2.2 z1) rfl ?_
      obtain ⟨e2, E⟩ := gd_some E
      obtain ⟨f3, E⟩ := gd_some E
      refine ea_deref0 e2 ?_
      refine ea_getI (pc := 18) dX8_numberOn_18 ec_0 (k := 0) (Nat.le_of_ble_eq_true rfl) rfl (Or.inl ew_793) f3.1 f3.2 ?_
      refine ea_iload_n (pc := 21) dX8_numberOn_21 rfl 1 rfl ?_
      refine ea_icmp_gt (pc := 22) (tgt := 27) dX8_numberOn_22 rfl (fun c4 => ?_) (fun c4 => ?_)
      · have E := (if_pos c4).symm.trans E
        refine ea_iinc (pc := 27) (v := 1) (lv' := [(0, vR (some (b0 + 21))), (1, vI x1), (2, vI x2), (3, vI (x3 + (1 : Int32)))]) dX8_numberOn_27 3 rfl rfl (Nat.le_of_ble_eq_true rfl) [1, 2, 3, 0] rfl ?_
        refine ea_goto (pc := 30) (tgt := 4) dX8_numberOn_30 rfl ?_
        exact ((ih 4 (x1 : Int32) (x2 : Int32) ((x3 + (1 : Int32)) : Int32) h _ _ E hs).2 rfl)
      · have E := (if_neg c4).symm.trans E
        refine ea_iload_n (pc := 25) dX8_numberOn_25 rfl 3 rfl ?_
        refine ea_istore_n (pc := 26) (lv' := [(0, vR (some (b0 + 21))), (1, vI x1), (2, vI x3), (3, vI x3)]) dX8_numberOn_26 rfl (Nat.le_of_ble_eq_true rfl) [1, 2, 0, 3] rfl ?_
        refine ea_iinc (pc := 27) (v := 1) (lv' := [(0, vR (some (b0 + 21))), (1, vI x1), (2, vI x3), (3, vI (x3 + (1 : Int32)))]) dX8_numberOn_27 3 rfl rfl (Nat.le_of_ble_eq_true rfl) [1, 2, 3, 0] rfl ?_
        refine ea_goto (pc := 30) (tgt := 4) dX8_numberOn_30 rfl ?_
        exact ((ih 4 (x1 : Int32) (x3 : Int32) ((x3 + (1 : Int32)) : Int32) h _ _ E hs).2 rfl)
noncomputable def qX8_numberOn (b0 : Nat) (x1 : Int32) (h : ea_H) : Option (Int32 × ea_H) := gX8_numberOn b0 1000000000 0 x1 0 0 h
def okX8_numberOn (b0 : Nat) (x1 : Int32) (h : ea_H) : Prop := ∃ x, qX8_numberOn b0 x1 h = some x
noncomputable def vX8_numberOn (b0 : Nat) (x1 : Int32) (h : ea_H) : Int32 := ((qX8_numberOn b0 x1 h).getD (0, h)).1
noncomputable def wX8_numberOn (b0 : Nat) (x1 : Int32) (h : ea_H) : ea_H := ((qX8_numberOn b0 x1 h).getD (0, h)).2
theorem sX8_numberOn {d : Nat} {b0 : Nat} {x1 : Int32} {h : ea_H} (hd : 1 ≤ d) (hs : ShC b0 h) (K : okX8_numberOn b0 x1 h) : ea_Met mX8_numberOn d [vR (some (b0 + 21)), vI x1] h (some (vI (vX8_numberOn b0 x1 h))) (wX8_numberOn b0 x1 h) := by
  obtain ⟨⟨x, y⟩, K⟩ := K
  unfold wX8_numberOn vX8_numberOn
  rw [K]
  unfold qX8_numberOn at K
  exact ea_enter rfl (Nat.le_of_ble_eq_true rfl) ((tX8_numberOn hd 1000000000 0 x1 0 0 h x y K hs).1 rfl)
theorem zX8_numberOn {b0 : Nat} : ∀ (f lbl : Nat) (x1 : Int32) (x2 : Int32) (x3 : Int32) (h : ea_H) (r : Int32) (h' : ea_H), gX8_numberOn b0 f lbl x1 x2 x3 h = some (r, h') → ShC b0 h → ShC b0 h' := by
  intro f
  induction f with
  | zero => intro lbl x1 x2 x3 h r h' E; cases E
  | succ f ih =>
    intro lbl x1 x2 x3 h r h' E hs
    unfold gX8_numberOn at E
    by_cases el0 : lbl = 0
    · have E := (if_pos el0).symm.trans E
      exact ih 4 (x1 : Int32) ((-1) : Int32) (0 : Int32) h _ _ E hs
    have E := (if_neg el0).symm.trans E
    by_cases el1 : lbl = 4
    · have E := (if_pos el1).symm.trans E
      by_cases c5 : (ea_i h (b0 + 21) 1) ≤ x3
      · have E := (if_pos c5).symm.trans E
        exact ea_shO E hs
      have E := (if_neg c5).symm.trans E
      obtain ⟨z1, E⟩ := gd_some E
      obtain ⟨e2, E⟩ := gd_some E
      obtain ⟨f3, E⟩ := gd_some E
      by_cases c4 : x1 < (ea_i h (Option.getD (ea_r h (b0 + 28) (Int32.toNatClampNeg x3)) 0) 0)
      · have E := (if_pos c4).symm.trans E
        exact ih 4 (x1 : Int32) (x2 : Int32) ((x3 + (1 : Int32)) : Int32) h _ _ E hs
      have E := (if_neg c4).symm.trans E
      exact ih 4 (x1 : Int32) (x3 : Int32) ((x3 + (1 : Int32)) : Int32) h _ _ E hs
    have E := (if_neg el1).symm.trans E
    cases E
theorem shX8_numberOn {b0 : Nat} {x1 : Int32} {h : ea_H} (hs : ShC b0 h) : ShC b0 (wX8_numberOn b0 x1 h) := by
  unfold wX8_numberOn
  cases K : qX8_numberOn b0 x1 h with
  | none => exact hs
  | some x => obtain ⟨x, y⟩ := x; unfold qX8_numberOn at K; exact zX8_numberOn _ _ _ _ _ _ _ _ K hs
noncomputable def gX8_ask (b0 : Nat) : Nat → Nat → Option Nat → ea_H → Option (Unit × ea_H)
  | 0, _, _, _ => none
  | f + 1, lbl, r1, h =>
    (gd (r1 = some (Option.getD r1 0)) (gd (((Option.getD r1 0) < ea_n h ∧ ea_c h (Option.getD r1 0) = 4)) (gd (vp_in 0 7) (ea_let (ea_wi h (b0 + 29) (Int32.toNatClampNeg 0) (ea_i h (Option.getD r1 0) 7)) fun H5 => (gd (r1 = some (Option.getD r1 0)) (gd (((Option.getD r1 0) < ea_n H5 ∧ ea_c H5 (Option.getD r1 0) = 4)) (gd (vp_in 1 7) (ea_let (ea_wi H5 (b0 + 29) (Int32.toNatClampNeg 1) (ea_i H5 (Option.getD r1 0) 3)) fun H10 => (gd (r1 = some (Option.getD r1 0)) (gd (((Option.getD r1 0) < ea_n H10 ∧ ea_c H10 (Option.getD r1 0) = 4)) (gd (vp_in 2 7) (ea_let (ea_wi H10 (b0 + 29) (Int32.toNatClampNeg 2) (ea_i H10 (Option.getD r1 0) 4)) fun H15 => (gd (r1 = some (Option.getD r1 0)) (gd (((Option.getD r1 0) < ea_n H15 ∧ ea_c H15 (Option.getD r1 0) = 4)) (gd (vp_in 3 7) (ea_let (ea_wi H15 (b0 + 29) (Int32.toNatClampNeg 3) (((ea_i H15 (Option.getD r1 0) 6) - (ea_i H15 (Option.getD r1 0) 6) / (1440 : Int32) * (1440 : Int32)) / (60 : Int32))) fun H20 => (gd (r1 = some (Option.getD r1 0)) (gd (((Option.getD r1 0) < ea_n H20 ∧ ea_c H20 (Option.getD r1 0) = 4)) (gd ((okX4_dayOf b0 (Option.getD r1 0) H20)) (gd (vp_in 4 7) (ea_let (ea_wi H20 (b0 + 29) (Int32.toNatClampNeg 4) (vX4_dayOf b0 (Option.getD r1 0) H20)) fun H26 => (gd (r1 = some (Option.getD r1 0)) (gd (((Option.getD r1 0) < ea_n H26 ∧ ea_c H26 (Option.getD r1 0) = 4)) (gd (vp_in 5 7) (ea_let (ea_wi H26 (b0 + 29) (Int32.toNatClampNeg 5) (ea_i H26 (Option.getD r1 0) 0)) fun H31 => (gd (r1 = some (Option.getD r1 0)) (gd (((Option.getD r1 0) < ea_n H31 ∧ ea_c H31 (Option.getD r1 0) = 4)) (if (ea_i H31 (Option.getD r1 0) 8) = (0 : Int32) then (gd (vp_in 6 7) (ea_let (ea_wi H31 (b0 + 29) (Int32.toNatClampNeg 6) 0) fun H36 => (some ((), H36)))) else (gd (vp_in 6 7) (ea_let (ea_wi H31 (b0 + 29) (Int32.toNatClampNeg 6) 1) fun H39 => (some ((), H39))))))))))))))))))))))))))))))))
theorem tX8_ask {d : Nat} {b0 : Nat} {h0 : ea_H} (hd : 2 ≤ d) : ∀ (f lbl : Nat) (r1 : Option Nat) (h : ea_H) (r : Unit) (h' : ea_H), gX8_ask b0 f lbl r1 h = some (r, h') → ShC b0 h → (lbl = 0 → ea_W mX8_ask d h0 none h' 0 [(0, vR (some (b0 + 21))), (1, vR r1)] [] h) := by
  intro f
  induction f with
  | zero => intro lbl r1 h r h' E; cases E
  | succ f ih =>
    intro lbl r1 h r h' E hs
    unfold gX8_ask at E
    intro el
    subst el
    refine ea_aload_n (pc := 0) dX8_ask_0 rfl 0 rfl ?_
    refine ea_getR (pc := 1) dX8_ask_1 ec_8 (k := 3) (Nat.le_of_ble_eq_true rfl) rfl (Or.inl ew_338) (hs.1 21 (by decide)).1 (hs.1 21 (by decide)).2.1 (hs.2 21 3 rfl) ?_
    refine ea_iconst (pc := 4) dX8_ask_4 (v := 0) rfl ?_
    refine ea_aload_n (pc := 5) dX8_ask_5 rfl 1 rfl ?_
    obtain ⟨e1, E⟩ := gd_some E
    obtain ⟨f2, E⟩ := gd_some E
    refine ea_deref0 e1 ?_
    refine ea_getI (pc := 6) dX8_ask_6 ec_4 (k := 7) (Nat.le_of_ble_eq_true rfl) rfl (Or.inl ew_952) f2.1 f2.2 ?_
    obtain ⟨z3, E⟩ := gd_some E
    refine ea_iast (pc := 9) dX8_ask_9 (hs.1 29 (by decide)).1 (hs.1 29 (by decide)).2.1 (ea_vpl (hs.1 29 (by decide)).2.2 z3) ?_
    have hs4 : ShC b0 (ea_wi h (b0 + 29) (Int32.toNatClampNeg 0) (ea_i h (Option.getD r1 0) 7)) := ShC_wi hs
    obtain ⟨H5, eH5, E⟩ := let_some E
    refine ea_nm eH5 ?_
    have hsH5 : ShC b0 H5 := by rw [eH5]; exact hs4
    refine ea_aload_n (pc := 10) dX8_ask_10 rfl 0 rfl ?_
    refine ea_getR (pc := 11) dX8_ask_11 ec_8 (k := 3) (Nat.le_of_ble_eq_true rfl) rfl (Or.inl ew_338) (hsH5.1 21 (by decide)).1 (hsH5.1 21 (by decide)).2.1 (hsH5.2 21 3 rfl) ?_
    refine ea_iconst (pc := 14) dX8_ask_14 (v := 1) rfl ?_
    refine ea_aload_n (pc := 15) dX8_ask_15 rfl 1 rfl ?_
    obtain ⟨e6, E⟩ := gd_some E
    obtain ⟨f7, E⟩ := gd_some E
    refine ea_deref0 e6 ?_
    refine ea_getI (pc := 16) dX8_ask_16 ec_4 (k := 3) (Nat.le_of_ble_eq_true rfl) rfl (Or.inl ew_942) f7.1 f7.2 ?_
    obtain ⟨z8, E⟩ := gd_some E
    refine ea_iast (pc := 19) dX8_ask_19 (hsH5.1 29 (by decide)).1 (hsH5.1 29 (by decide)).2.1 (ea_vpl (hsH5.1 29 (by decide)).2.2 z8) ?_
    have hs9 : ShC b0 (ea_wi H5 (b0 + 29) (Int32.toNatClampNeg 1) (ea_i H5 (Option.getD r1 0) 3)) := ShC_wi hsH5
    obtain ⟨H10, eH10, E⟩ := let_some E
    refine ea_nm eH10 ?_
    have hsH10 : ShC b0 H10 := by rw [eH10]; exact hs9
    refine ea_aload_n (pc := 20) dX8_ask_20 rfl 0 rfl ?_
    refine ea_getR (pc := 21) dX8_ask_21 ec_8 (k := 3) (Nat.le_of_ble_eq_true rfl) rfl (Or.inl ew_338) (hsH10.1 21 (by decide)).1 (hsH10.1 21 (by decide)).2.1 (hsH10.2 21 3 rfl) ?_
    refine ea_iconst (pc := 24) dX8_ask_24 (v := 2) rfl ?_
    refine ea_aload_n (pc := 25) dX8_ask_25 rfl 1 rfl ?_
    obtain ⟨e11, E⟩ := gd_some E
    obtain ⟨f12, E⟩ := gd_some E
    refine ea_deref0 e11 ?_
    refine ea_getI (pc := 26) dX8_ask_26 ec_4 (k := 4) (Nat.le_of_ble_eq_true rfl) rfl (Or.inl ew_945) f12.1 f12.2 ?_
    obtain ⟨z13, E⟩ := gd_some E
    refine ea_iast (pc := 29) dX8_ask_29 (hsH10.1 29 (by decide)).1 (hsH10.1 29 (by decide)).2.1 (ea_vpl (hsH10.1 29 (by decide)).2.2 z13) ?_
    have hs14 : ShC b0 (ea_wi H10 (b0 + 29) (Int32.toNatClampNeg 2) (ea_i H10 (Option.getD r1 0) 4)) := ShC_wi hsH10
    obtain ⟨H15, eH15, E⟩ := let_some E
    refine ea_nm eH15 ?_
    have hsH15 : ShC b0 H15 := by rw [eH15]; exact hs14
    refine ea_aload_n (pc := 30) dX8_ask_30 rfl 0 rfl ?_
    refine ea_getR (pc := 31) dX8_ask_31 ec_8 (k := 3) (Nat.le_of_ble_eq_true rfl) rfl (Or.inl ew_338) (hsH15.1 21 (by decide)).1 (hsH15.1 21 (by decide)).2.1 (hsH15.2 21 3 rfl) ?_
    refine ea_iconst (pc := 34) dX8_ask_34 (v := 3) rfl ?_
    refine ea_aload_n (pc := 35) dX8_ask_35 rfl 1 rfl ?_
    obtain ⟨e16, E⟩ := gd_some E
    obtain ⟨f17, E⟩ := gd_some E
    refine ea_deref0 e16 ?_
    refine ea_getI (pc := 36) dX8_ask_36 ec_4 (k := 6) (Nat.le_of_ble_eq_true rfl) rfl (Or.inl ew_950) f17.1 f17.2 ?_
    refine ea_sipush (pc := 39) dX8_ask_39 (v := 1440) rfl ?_
    refine ea_irem (pc := 42) dX8_ask_42 (by decide) ?_
    refine ea_bipush (pc := 43) dX8_ask_43 (v := 60) rfl ?_
    refine ea_idiv (pc := 45) dX8_ask_45 (by decide) ?_
    obtain ⟨z18, E⟩ := gd_some E
    refine ea_iast (pc := 46) dX8_ask_46 (hsH15.1 29 (by decide)).1 (hsH15.1 29 (by decide)).2.1 (ea_vpl (hsH15.1 29 (by decide)).2.2 z18) ?_
    have hs19 : ShC b0 (ea_wi H15 (b0 + 29) (Int32.toNatClampNeg 3) (((ea_i H15 (Option.getD r1 0) 6) - (ea_i H15 (Option.getD r1 0) 6) / (1440 : Int32) * (1440 : Int32)) / (60 : Int32))) := ShC_wi hsH15
    obtain ⟨H20, eH20, E⟩ := let_some E
    refine ea_nm eH20 ?_
    have hsH20 : ShC b0 H20 := by rw [eH20]; exact hs19
    refine ea_aload_n (pc := 47) dX8_ask_47 rfl 0 rfl ?_
    refine ea_getR (pc := 48) dX8_ask_48 ec_8 (k := 3) (Nat.le_of_ble_eq_true rfl) rfl (Or.inl ew_338) (hsH20.1 21 (by decide)).1 (hsH20.1 21 (by decide)).2.1 (hsH20.2 21 3 rfl) ?_
    refine ea_iconst (pc := 51) dX8_ask_51 (v := 4) rfl ?_
    refine ea_aload_n (pc := 52) dX8_ask_52 rfl 1 rfl ?_
    obtain ⟨e21, E⟩ := gd_some E
    obtain ⟨f22, E⟩ := gd_some E
    obtain ⟨z23, E⟩ := gd_some E
    refine ea_deref0 e21 ?_
    refine ea_callV (pc := 53) (d' := d - 1) (As := []) (st := [vI 4, vR (some (b0 + 29))]) dX8_ask_53 kX4_dayOf (sX4_dayOf (d := d - 1) (by omega) hsH20 z23) (by omega) rfl (Nat.le_of_ble_eq_true rfl) ew_1040 ew_1033 ew_1034 (ci := 4) rfl (by decide) f22.1 f22.2 ?_
    obtain ⟨z24, E⟩ := gd_some E
    refine ea_iast (pc := 56) dX8_ask_56 (hsH20.1 29 (by decide)).1 (hsH20.1 29 (by decide)).2.1 (ea_vpl (hsH20.1 29 (by decide)).2.2 z24) ?_
    have hs25 : ShC b0 (ea_wi H20 (b0 + 29) (Int32.toNatClampNeg 4) (vX4_dayOf b0 (Option.getD r1 0) H20)) := ShC_wi hsH20
    obtain ⟨H26, eH26, E⟩ := let_some E
    refine ea_nm eH26 ?_
    have hsH26 : ShC b0 H26 := by rw [eH26]; exact hs25
    refine ea_aload_n (pc := 57) dX8_ask_57 rfl 0 rfl ?_
    refine ea_getR (pc := 58) dX8_ask_58 ec_8 (k := 3) (Nat.le_of_ble_eq_true rfl) rfl (Or.inl ew_338) (hsH26.1 21 (by decide)).1 (hsH26.1 21 (by decide)).2.1 (hsH26.2 21 3 rfl) ?_
    refine ea_iconst (pc := 61) dX8_ask_61 (v := 5) rfl ?_
    refine ea_aload_n (pc := 62) dX8_ask_62 rfl 1 rfl ?_
    obtain ⟨e27, E⟩ := gd_some E
    obtain ⟨f28, E⟩ := gd_some E
    refine ea_deref0 e27 ?_
    refine ea_getI (pc := 63) dX8_ask_63 ec_4 (k := 0) (Nat.le_of_ble_eq_true rfl) rfl (Or.inl ew_934) f28.1 f28.2 ?_
    obtain ⟨z29, E⟩ := gd_some E
    refine ea_iast (pc := 66) dX8_ask_66 (hsH26.1 29 (by decide)).1 (hsH26.1 29 (by decide)).2.1 (ea_vpl (hsH26.1 29 (by decide)).2.2 z29) ?_
    have hs30 : ShC b0 (ea_wi H26 (b0 + 29) (Int32.toNatClampNeg 5) (ea_i H26 (Option.getD r1 0) 0)) := ShC_wi hsH26
    obtain ⟨H31, eH31, E⟩ := let_some E
    refine ea_nm eH31 ?_
    have hsH31 : ShC b0 H31 := by rw [eH31]; exact hs30
    refine ea_aload_n (pc := 67) dX8_ask_67 rfl 0 rfl ?_
    refine ea_getR (pc := 68) dX8_ask_68 ec_8 (k := 3) (Nat.le_of_ble_eq_true rfl) rfl (Or.inl ew_338) (hsH31.1 21 (by decide)).1 (hsH31.1 21 (by decide)).2.1 (hsH31.2 21 3 rfl) ?_
    refine ea_bipush (pc := 71) dX8_ask_71 (v := 6) rfl ?_
    refine ea_aload_n (pc := 73) dX8_ask_73 rfl 1 rfl ?_
    obtain ⟨e32, E⟩ := gd_some E
    obtain ⟨f33, E⟩ := gd_some E
    refine ea_deref0 e32 ?_
    refine ea_getI (pc := 74) dX8_ask_74 ec_4 (k := 8) (Nat.le_of_ble_eq_true rfl) rfl (Or.inl ew_954) f33.1 f33.2 ?_
    refine ea_if_eq (pc := 77) (tgt := 84) dX8_ask_77 rfl (fun c40 => ?_) (fun c40 => ?_)
    · have E := (if_pos c40).symm.trans E
      refine ea_iconst (pc := 84) dX8_ask_84 (v := 0) rfl ?_
      obtain ⟨z34, E⟩ := gd_some E
      refine ea_iast (pc := 85) dX8_ask_85 (hsH31.1 29 (by decide)).1 (hsH31.1 29 (by decide)).2.1 (ea_vpl (hsH31.1 29 (by decide)).2.2 z34) ?_
      have hs35 : ShC b0 (ea_wi H31 (b0 + 29) (Int32.toNatClampNeg 6) 0) := ShC_wi hsH31
      obtain ⟨H36, eH36, E⟩ := let_some E
      refine ea_nm eH36 ?_
      have hsH36 : ShC b0 H36 := by rw [eH36]; exact hs35
      exact ea_vretO (pc := 86) dX8_ask_86 rfl E
    · have E := (if_neg c40).symm.trans E
      refine ea_iconst (pc := 80) dX8_ask_80 (v := 1) rfl ?_
      refine ea_goto (pc := 81) (tgt := 85) dX8_ask_81 rfl ?_
      obtain ⟨z37, E⟩ := gd_some E
      refine ea_iast (pc := 85) dX8_ask_85 (hsH31.1 29 (by decide)).1 (hsH31.1 29 (by decide)).2.1 (ea_vpl (hsH31.1 29 (by decide)).2.2 z37) ?_
      have hs38 : ShC b0 (ea_wi H31 (b0 + 29) (Int32.toNatClampNeg 6) 1) := ShC_wi hsH31
      obtain ⟨H39, eH39, E⟩ := let_some E
      refine ea_nm eH39 ?_
      have hsH39 : ShC b0 H39 := by rw [eH39]; exact hs38
      exact ea_vretO (pc := 86) dX8_ask_86 rfl E
noncomputable def qX8_ask (b0 : Nat) (r1 : Option Nat) (h : ea_H) : Option (Unit × ea_H) := gX8_ask b0 1000000000 0 r1 h
def okX8_ask (b0 : Nat) (r1 : Option Nat) (h : ea_H) : Prop := ∃ x, qX8_ask b0 r1 h = some x
noncomputable def wX8_ask (b0 : Nat) (r1 : Option Nat) (h : ea_H) : ea_H := ((qX8_ask b0 r1 h).getD ((), h)).2
theorem sX8_ask {d : Nat} {b0 : Nat} {r1 : Option Nat} {h : ea_H} (hd : 2 ≤ d) (hs : ShC b0 h) (K : okX8_ask b0 r1 h) : ea_Met mX8_ask d [vR (some (b0 + 21)), vR r1] h none (wX8_ask b0 r1 h) := by
  obtain ⟨⟨x, y⟩, K⟩ := K
  unfold wX8_ask
  rw [K]
  unfold qX8_ask at K
  exact ea_enter rfl (Nat.le_of_ble_eq_true rfl) ((tX8_ask hd 1000000000 0 r1 h x y K hs) rfl)
theorem zX8_ask {b0 : Nat} : ∀ (f lbl : Nat) (r1 : Option Nat) (h : ea_H) (r : Unit) (h' : ea_H), gX8_ask b0 f lbl r1 h = some (r, h') → ShC b0 h → ShC b0 h' := by
  intro f
  induction f with
  | zero => intro lbl r1 h r h' E; cases E
  | succ f ih =>
    intro lbl r1 h r h' E hs
    unfold gX8_ask at E
    obtain ⟨e1, E⟩ := gd_some E
    obtain ⟨f2, E⟩ := gd_some E
    obtain ⟨z3, E⟩ := gd_some E
    obtain ⟨H5, eH5, E⟩ := let_some E
    have hsH5 : ShC b0 H5 := by rw [eH5]; exact (ShC_wi hs)
    obtain ⟨e6, E⟩ := gd_some E
    obtain ⟨f7, E⟩ := gd_some E
    obtain ⟨z8, E⟩ := gd_some E
    obtain ⟨H10, eH10, E⟩ := let_some E
    have hsH10 : ShC b0 H10 := by rw [eH10]; exact (ShC_wi hsH5)
    obtain ⟨e11, E⟩ := gd_some E
    obtain ⟨f12, E⟩ := gd_some E
    obtain ⟨z13, E⟩ := gd_some E
    obtain ⟨H15, eH15, E⟩ := let_some E
    have hsH15 : ShC b0 H15 := by rw [eH15]; exact (ShC_wi hsH10)
    obtain ⟨e16, E⟩ := gd_some E
    obtain ⟨f17, E⟩ := gd_some E
    obtain ⟨z18, E⟩ := gd_some E
    obtain ⟨H20, eH20, E⟩ := let_some E
    have hsH20 : ShC b0 H20 := by rw [eH20]; exact (ShC_wi hsH15)
    obtain ⟨e21, E⟩ := gd_some E
    obtain ⟨f22, E⟩ := gd_some E
    obtain ⟨z23, E⟩ := gd_some E
    obtain ⟨z24, E⟩ := gd_some E
    obtain ⟨H26, eH26, E⟩ := let_some E
    have hsH26 : ShC b0 H26 := by rw [eH26]; exact (ShC_wi hsH20)
    obtain ⟨e27, E⟩ := gd_some E
    obtain ⟨f28, E⟩ := gd_some E
    obtain ⟨z29, E⟩ := gd_some E
    obtain ⟨H31, eH31, E⟩ := let_some E
    have hsH31 : ShC b0 H31 := by rw [eH31]; exact (ShC_wi hsH26)
    obtain ⟨e32, E⟩ := gd_some E
    obtain ⟨f33, E⟩ := gd_some E
    by_cases c40 : (ea_i H31 (Option.getD r1 0) 8) = (0 : Int32)
    · have E := (if_pos c40).symm.trans E
      obtain ⟨z34, E⟩ := gd_some E
      obtain ⟨H36, eH36, E⟩ := let_some E
      have hsH36 : ShC b0 H36 := by rw [eH36]; exact (ShC_wi hsH31)
      exact ea_shO E hsH36
    have E := (if_neg c40).symm.trans E
    obtain ⟨z37, E⟩ := gd_some E
    obtain ⟨H39, eH39, E⟩ := let_some E
    have hsH39 : ShC b0 H39 := by rw [eH39]; exact (ShC_wi hsH31)
    exact ea_shO E hsH39
theorem shX8_ask {b0 : Nat} {r1 : Option Nat} {h : ea_H} (hs : ShC b0 h) : ShC b0 (wX8_ask b0 r1 h) := by
  unfold wX8_ask
  cases K : qX8_ask b0 r1 h with
  | none => exact hs
  | some x => obtain ⟨x, y⟩ := x; unfold qX8_ask at K; exact zX8_ask _ _ _ _ _ _ K hs
noncomputable def gX8_worth (b0 : Nat) : Nat → Nat → Option Nat → Int32 → Int32 → Int32 → Int32 → ea_H → Option (Int32 × ea_H)
  | 0, _, _, _, _, _, _, _ => none
  | f + 1, lbl, r1, x2, x3, x4, x5, h =>
    if lbl = 0 then (gX8_worth b0 f 5 (r1 : Option Nat) 0 (0 : Int32) (x2 : Int32) 0 h) else
    if lbl = 5 then (if x4 < (0 : Int32) then (gX8_worth b0 f 166 none 0 (x3 : Int32) 0 0 h) else (gd (r1 = some (Option.getD r1 0)) (gd (((Option.getD r1 0) < ea_n h ∧ ea_c h (Option.getD r1 0) = 20)) (if (Int32.ofNat (ea_l h (Option.getD r1 0))) ≤ x4 then (gX8_worth b0 f 166 none 0 (x3 : Int32) 0 0 h) else (gd (r1 = some (Option.getD r1 0)) (gd (((Option.getD r1 0) < ea_n h ∧ ea_c h (Option.getD r1 0) = 20)) (gd (vp_in x4 (ea_l h (Option.getD r1 0))) (if (ea_i h (Option.getD r1 0) (Int32.toNatClampNeg x4)) = ((-100) : Int32) then (gX8_worth b0 f 166 none 0 (x3 : Int32) 0 0 h) else (gd (r1 = some (Option.getD r1 0)) (gd (((Option.getD r1 0) < ea_n h ∧ ea_c h (Option.getD r1 0) = 20)) (gd (vp_in x4 (ea_l h (Option.getD r1 0))) (if (ea_i h (Option.getD r1 0) (Int32.toNatClampNeg x4)) ≤ ((-10) : Int32) then (if (ea_i h (Option.getD r1 0) (Int32.toNatClampNeg x4)) = ((-17) : Int32) then (if x3 ≤ (0 : Int32) then (gX8_worth b0 f 125 (r1 : Option Nat) 0 (x3 : Int32) (x4 : Int32) ((ea_i h (Option.getD r1 0) (Int32.toNatClampNeg x4)) : Int32) h) else (gd (vp_in (x3 - (1 : Int32)) 64) (gd (vp_in (x3 - (1 : Int32)) 64) (ea_let (ea_wi h (b0 + 30) (Int32.toNatClampNeg (x3 - (1 : Int32))) ((1 : Int32) - (ea_i h (b0 + 30) (Int32.toNatClampNeg (x3 - (1 : Int32)))))) fun H12 => (gX8_worth b0 f 5 (r1 : Option Nat) 0 (x3 : Int32) ((x4 + (1 : Int32)) : Int32) 0 H12))))) else (gX8_worth b0 f 125 (r1 : Option Nat) 0 (x3 : Int32) (x4 : Int32) ((ea_i h (Option.getD r1 0) (Int32.toNatClampNeg x4)) : Int32) h)) else (if (64 : Int32) ≤ x3 then (some ((0 : Int32), h)) else (if (((-1) : Int32) - (ea_i h (Option.getD r1 0) (Int32.toNatClampNeg x4))) < (7 : Int32) then (if (ea_i h (Option.getD r1 0) (Int32.toNatClampNeg x4)) < (0 : Int32) then (gd (vp_in (((-1) : Int32) - (ea_i h (Option.getD r1 0) (Int32.toNatClampNeg x4))) 7) (gd (vp_in x3 64) (ea_let (ea_wi h (b0 + 30) (Int32.toNatClampNeg x3) (ea_i h (b0 + 29) (Int32.toNatClampNeg (((-1) : Int32) - (ea_i h (Option.getD r1 0) (Int32.toNatClampNeg x4)))))) fun H18 => (gX8_worth b0 f 5 (r1 : Option Nat) 0 ((x3 + (1 : Int32)) : Int32) ((x4 + (1 : Int32)) : Int32) 0 H18)))) else (gd (vp_in x3 64) (ea_let (ea_wi h (b0 + 30) (Int32.toNatClampNeg x3) (ea_i h (Option.getD r1 0) (Int32.toNatClampNeg x4))) fun H21 => (gX8_worth b0 f 5 (r1 : Option Nat) 0 ((x3 + (1 : Int32)) : Int32) ((x4 + (1 : Int32)) : Int32) 0 H21)))) else (some ((0 : Int32), h)))))))))))))))) else
    if lbl = 125 then (if x3 ≤ (1 : Int32) then (gX8_worth b0 f 5 (r1 : Option Nat) 0 (x3 : Int32) ((x4 + (1 : Int32)) : Int32) 0 h) else (gd (vp_in ((x3 + ((-1) : Int32)) - (1 : Int32)) 64) (gd (vp_in (x3 + ((-1) : Int32)) 64) (gd ((okX8_joined (x5 : Int32) ((ea_i h (b0 + 30) (Int32.toNatClampNeg ((x3 + ((-1) : Int32)) - (1 : Int32)))) : Int32) ((ea_i h (b0 + 30) (Int32.toNatClampNeg (x3 + ((-1) : Int32)))) : Int32) h)) (gd (vp_in ((x3 + ((-1) : Int32)) - (1 : Int32)) 64) (ea_let (ea_wi h (b0 + 30) (Int32.toNatClampNeg ((x3 + ((-1) : Int32)) - (1 : Int32))) (vX8_joined (x5 : Int32) ((ea_i h (b0 + 30) (Int32.toNatClampNeg ((x3 + ((-1) : Int32)) - (1 : Int32)))) : Int32) ((ea_i h (b0 + 30) (Int32.toNatClampNeg (x3 + ((-1) : Int32)))) : Int32) h)) fun H34 => (gX8_worth b0 f 5 (r1 : Option Nat) 0 ((x3 + ((-1) : Int32)) : Int32) ((x4 + (1 : Int32)) : Int32) 0 H34))))))) else
    if lbl = 166 then (if x3 ≤ (0 : Int32) then (some ((0 : Int32), h)) else (gd (vp_in (x3 - (1 : Int32)) 64) (some ((ea_i h (b0 + 30) (Int32.toNatClampNeg (x3 - (1 : Int32)))), h)))) else none
theorem tX8_worth {d : Nat} {b0 : Nat} {h0 : ea_H} (hd : 2 ≤ d) : ∀ (f lbl : Nat) (r1 : Option Nat) (x2 : Int32) (x3 : Int32) (x4 : Int32) (x5 : Int32) (h : ea_H) (r : Int32) (h' : ea_H), gX8_worth b0 f lbl r1 x2 x3 x4 x5 h = some (r, h') → ShC b0 h → (lbl = 0 → ea_W mX8_worth d h0 (some (vI r)) h' 0 [(0, vR (some (b0 + 21))), (1, vR r1), (2, vI x2)] [] h) ∧ (lbl = 5 → ea_W mX8_worth d h0 (some (vI r)) h' 5 [(0, vR (some (b0 + 21))), (1, vR r1), (3, vI x3), (4, vI x4)] [] h) ∧ (lbl = 125 → ea_W mX8_worth d h0 (some (vI r)) h' 125 [(0, vR (some (b0 + 21))), (1, vR r1), (3, vI x3), (4, vI x4), (5, vI x5)] [] h) ∧ (lbl = 166 → ea_W mX8_worth d h0 (some (vI r)) h' 166 [(0, vR (some (b0 + 21))), (3, vI x3)] [] h) := by
  intro f
  induction f with
  | zero => intro lbl r1 x2 x3 x4 x5 h r h' E; cases E
  | succ f ih =>
    intro lbl r1 x2 x3 x4 x5 h r h' E hs
    unfold gX8_worth at E
    refine ⟨?_, ?_⟩
    · intro el
      subst el
      have E := (if_pos rfl).symm.trans E
      refine ea_iconst (pc := 0) dX8_worth_0 (v := 0) rfl ?_
      refine ea_istore_n (pc := 1) (lv' := [(0, vR (some (b0 + 21))), (1, vR r1), (2, vI x2), (3, vI 0)]) dX8_worth_1 rfl (Nat.le_of_ble_eq_true rfl) [1, 2, 3, 0] rfl ?_
      refine ea_iload_n (pc := 2) dX8_worth_2 rfl 2 rfl ?_
      refine ea_istore (pc := 3) (lv' := [(0, vR (some (b0 + 21))), (1, vR r1), (3, vI 0), (4, vI x2)]) dX8_worth_3 (Nat.le_of_ble_eq_true rfl) [1, 2, 4, 0] rfl ?_
      exact ((ih 5 (r1 : Option Nat) 0 (0 : Int32) (x2 : Int32) 0 h _ _ E hs).2.1 rfl)
    refine ⟨?_, ?_⟩
    · intro el
      subst el
      have E := (if_neg (by decide)).symm.trans E
      have E := (if_pos rfl).symm.trans E
      refine ea_iload (pc := 5) dX8_worth_5 3 rfl ?_
      refine ea_if_lt (pc := 7) (tgt := 166) dX8_worth_7 rfl (fun c28 => ?_) (fun c28 => ?_)
      · have E := (if_pos c28).symm.trans E
        exact (ea_fewer [0, 2] rfl ((ih 166 none 0 (x3 : Int32) 0 0 h _ _ E hs).2.2.2 rfl))
      · have E := (if_neg c28).symm.trans E
        refine ea_iload (pc := 10) dX8_worth_10 3 rfl ?_
        refine ea_aload_n (pc := 12) dX8_worth_12 rfl 1 rfl ?_
        obtain ⟨e1, E⟩ := gd_some E
        obtain ⟨f2, E⟩ := gd_some E
        refine ea_deref0 e1 ?_
        refine ea_alen (pc := 13) dX8_worth_13 f2.1 f2.2 (by decide) (by decide) ?_
        refine ea_icmp_ge (pc := 14) (tgt := 166) dX8_worth_14 rfl (fun c27 => ?_) (fun c27 => ?_)
        · have E := (if_pos c27).symm.trans E
          exact (ea_fewer [0, 2] rfl ((ih 166 none 0 (x3 : Int32) 0 0 h _ _ E hs).2.2.2 rfl))
        · have E := (if_neg c27).symm.trans E
          refine ea_aload_n (pc := 17) dX8_worth_17 rfl 1 rfl ?_
          refine ea_iload (pc := 18) dX8_worth_18 3 rfl ?_
          obtain ⟨e3, E⟩ := gd_some E
          obtain ⟨f4, E⟩ := gd_some E
          obtain ⟨z5, E⟩ := gd_some E
          refine ea_deref1 e3 ?_
          refine ea_iald (pc := 20) dX8_worth_20 f4.1 f4.2 z5 ?_
          refine ea_bipush (pc := 21) dX8_worth_21 (v := (-100)) rfl ?_
          refine ea_icmp_eq (pc := 23) (tgt := 166) dX8_worth_23 rfl (fun c26 => ?_) (fun c26 => ?_)
          · have E := (if_pos c26).symm.trans E
            exact (ea_fewer [0, 2] rfl ((ih 166 none 0 (x3 : Int32) 0 0 h _ _ E hs).2.2.2 rfl))
          · have E := (if_neg c26).symm.trans E
            refine ea_aload_n (pc := 26) dX8_worth_26 rfl 1 rfl ?_
            refine ea_iload (pc := 27) dX8_worth_27 3 rfl ?_
            obtain ⟨e6, E⟩ := gd_some E
            obtain ⟨f7, E⟩ := gd_some E
            obtain ⟨z8, E⟩ := gd_some E
            refine ea_deref1 e6 ?_
            refine ea_iald (pc := 29) dX8_worth_29 f7.1 f7.2 z8 ?_
            refine ea_istore (pc := 30) (lv' := [(0, vR (some (b0 + 21))), (1, vR r1), (3, vI x3), (4, vI x4), (5, vI (ea_i h (Option.getD r1 0) (Int32.toNatClampNeg x4)))]) dX8_worth_30 (Nat.le_of_ble_eq_true rfl) [1, 2, 3, 4, 0] rfl ?_
            refine ea_iload (pc := 32) dX8_worth_32 4 rfl ?_
            refine ea_bipush (pc := 34) dX8_worth_34 (v := (-10)) rfl ?_
            refine ea_icmp_le (pc := 36) (tgt := 93) dX8_worth_36 rfl (fun c25 => ?_) (fun c25 => ?_)
            · have E := (if_pos c25).symm.trans E
              refine ea_iload (pc := 93) dX8_worth_93 4 rfl ?_
              refine ea_bipush (pc := 95) dX8_worth_95 (v := (-17)) rfl ?_
              refine ea_icmp_ne (pc := 97) (tgt := 125) dX8_worth_97 rfl (fun c14 => ?_) (fun c14 => ?_)
              · have E := (if_neg c14).symm.trans E
                exact ((ih 125 (r1 : Option Nat) 0 (x3 : Int32) (x4 : Int32) ((ea_i h (Option.getD r1 0) (Int32.toNatClampNeg x4)) : Int32) h _ _ E hs).2.2.1 rfl)
              · have E := (if_pos c14).symm.trans E
                refine ea_iload_n (pc := 100) dX8_worth_100 rfl 2 rfl ?_
                refine ea_if_le (pc := 101) (tgt := 125) dX8_worth_101 rfl (fun c13 => ?_) (fun c13 => ?_)
                · have E := (if_pos c13).symm.trans E
                  exact ((ih 125 (r1 : Option Nat) 0 (x3 : Int32) (x4 : Int32) ((ea_i h (Option.getD r1 0) (Int32.toNatClampNeg x4)) : Int32) h _ _ E hs).2.2.1 rfl)
                · have E := (if_neg c13).symm.trans E
                  refine ea_aload_n (pc := 104) dX8_worth_104 rfl 0 rfl ?_
                  refine ea_getR (pc := 105) dX8_worth_105 ec_8 (k := 4) (Nat.le_of_ble_eq_true rfl) rfl (Or.inl ew_339) (hs.1 21 (by decide)).1 (hs.1 21 (by decide)).2.1 (hs.2 21 4 rfl) ?_
                  refine ea_iload_n (pc := 108) dX8_worth_108 rfl 2 rfl ?_
                  refine ea_iconst (pc := 109) dX8_worth_109 (v := 1) rfl ?_
                  refine ea_isub (pc := 110) dX8_worth_110 ?_
                  refine ea_iconst (pc := 111) dX8_worth_111 (v := 1) rfl ?_
                  refine ea_aload_n (pc := 112) dX8_worth_112 rfl 0 rfl ?_
                  refine ea_getR (pc := 113) dX8_worth_113 ec_8 (k := 4) (Nat.le_of_ble_eq_true rfl) rfl (Or.inl ew_339) (hs.1 21 (by decide)).1 (hs.1 21 (by decide)).2.1 (hs.2 21 4 rfl) ?_
                  refine ea_iload_n (pc := 116) dX8_worth_116 rfl 2 rfl ?_
                  refine ea_iconst (pc := 117) dX8_worth_117 (v := 1) rfl ?_
                  refine ea_isub (pc := 118) dX8_worth_118 ?_
                  obtain ⟨z9, E⟩ := gd_some E
                  refine ea_iald (pc := 119) dX8_worth_119 (hs.1 30 (by decide)).1 (hs.1 30 (by decide)).2.1 (ea_vpl (hs.1 30 (by decide)).2.2 z9) ?_
                  refine ea_isub (pc := 120) dX8_worth_120 ?_
                  obtain ⟨z10, E⟩ := gd_some E
                  refine ea_iast (pc := 121) dX8_worth_121 (hs.1 30 (by decide)).1 (hs.1 30 (by decide)).2.1 (ea_vpl (hs.1 30 (by decide)).2.2 z10) ?_
                  have hs11 : ShC b0 (ea_wi h (b0 + 30) (Int32.toNatClampNeg (x3 - (1 : Int32))) ((1 : Int32) - (ea_i h (b0 + 30) (Int32.toNatClampNeg (x3 - (1 : Int32)))))) := ShC_wi hs
                  obtain ⟨H12, eH12, E⟩ := let_some E
                  refine ea_nm eH12 ?_
                  have hsH12 : ShC b0 H12 := by rw [eH12]; exact hs11
                  refine ea_goto (pc := 122) (tgt := 160) dX8_worth_122 rfl ?_
                  refine ea_iinc (pc := 160) (v := 1) (lv' := [(0, vR (some (b0 + 21))), (1, vR r1), (3, vI x3), (4, vI (x4 + (1 : Int32)))]) dX8_worth_160 3 rfl rfl (Nat.le_of_ble_eq_true rfl) [1, 2, 3, 0] rfl ?_
                  refine ea_goto (pc := 163) (tgt := 5) dX8_worth_163 rfl ?_
                  exact ((ih 5 (r1 : Option Nat) 0 (x3 : Int32) ((x4 + (1 : Int32)) : Int32) 0 H12 _ _ E hsH12).2.1 rfl)
            · have E := (if_neg c25).symm.trans E
              refine ea_iload_n (pc := 39) dX8_worth_39 rfl 2 rfl ?_
              refine ea_aload_n (pc := 40) dX8_worth_40 rfl 0 rfl ?_
              refine ea_getR (pc := 41) dX8_worth_41 ec_8 (k := 4) (Nat.le_of_ble_eq_true rfl) rfl (Or.inl ew_339) (hs.1 21 (by decide)).1 (hs.1 21 (by decide)).2.1 (hs.2 21 4 rfl) ?_
              refine ea_alen (pc := 44) dX8_worth_44 (hs.1 30 (by decide)).1 (hs.1 30 (by decide)).2.1 (by decide) (by decide) ?_
              refine ea_tops (by rw [(hs.1 30 (by decide)).2.2]; rfl : vI (Int32.ofNat (ea_l h (b0 + 30))) = vI 64) ?_
              refine ea_icmp_ge (pc := 45) (tgt := 60) dX8_worth_45 rfl (fun c24 => ?_) (fun c24 => ?_)
              · have E := (if_pos c24).symm.trans E
                refine ea_iconst (pc := 60) dX8_worth_60 (v := 0) rfl ?_
                exact ea_iretO (pc := 61) dX8_worth_61 rfl rfl E
              · have E := (if_neg c24).symm.trans E
                refine ea_iconst (pc := 48) dX8_worth_48 (v := (-1)) rfl ?_
                refine ea_iload (pc := 49) dX8_worth_49 4 rfl ?_
                refine ea_isub (pc := 51) dX8_worth_51 ?_
                refine ea_aload_n (pc := 52) dX8_worth_52 rfl 0 rfl ?_
                refine ea_getR (pc := 53) dX8_worth_53 ec_8 (k := 3) (Nat.le_of_ble_eq_true rfl) rfl (Or.inl ew_338) (hs.1 21 (by decide)).1 (hs.1 21 (by decide)).2.1 (hs.2 21 3 rfl) ?_
                refine ea_alen (pc := 56) dX8_worth_56 (hs.1 29 (by decide)).1 (hs.1 29 (by decide)).2.1 (by decide) (by decide) ?_
                refine ea_tops (by rw [(hs.1 29 (by decide)).2.2]; rfl : vI (Int32.ofNat (ea_l h (b0 + 29))) = vI 7) ?_
                refine ea_icmp_lt (pc := 57) (tgt := 62) dX8_worth_57 rfl (fun c23 => ?_) (fun c23 => ?_)
                · have E := (if_pos c23).symm.trans E
                  refine ea_aload_n (pc := 62) dX8_worth_62 rfl 0 rfl ?_
                  refine ea_getR (pc := 63) dX8_worth_63 ec_8 (k := 4) (Nat.le_of_ble_eq_true rfl) rfl (Or.inl ew_339) (hs.1 21 (by decide)).1 (hs.1 21 (by decide)).2.1 (hs.2 21 4 rfl) ?_
                  refine ea_iload_n (pc := 66) dX8_worth_66 rfl 2 rfl ?_
                  refine ea_iload (pc := 67) dX8_worth_67 4 rfl ?_
                  refine ea_if_lt (pc := 69) (tgt := 77) dX8_worth_69 rfl (fun c22 => ?_) (fun c22 => ?_)
                  · have E := (if_pos c22).symm.trans E
                    refine ea_aload_n (pc := 77) dX8_worth_77 rfl 0 rfl ?_
                    refine ea_getR (pc := 78) dX8_worth_78 ec_8 (k := 3) (Nat.le_of_ble_eq_true rfl) rfl (Or.inl ew_338) (hs.1 21 (by decide)).1 (hs.1 21 (by decide)).2.1 (hs.2 21 3 rfl) ?_
                    refine ea_iconst (pc := 81) dX8_worth_81 (v := (-1)) rfl ?_
                    refine ea_iload (pc := 82) dX8_worth_82 4 rfl ?_
                    refine ea_isub (pc := 84) dX8_worth_84 ?_
                    obtain ⟨z15, E⟩ := gd_some E
                    refine ea_iald (pc := 85) dX8_worth_85 (hs.1 29 (by decide)).1 (hs.1 29 (by decide)).2.1 (ea_vpl (hs.1 29 (by decide)).2.2 z15) ?_
                    obtain ⟨z16, E⟩ := gd_some E
                    refine ea_iast (pc := 86) dX8_worth_86 (hs.1 30 (by decide)).1 (hs.1 30 (by decide)).2.1 (ea_vpl (hs.1 30 (by decide)).2.2 z16) ?_
                    have hs17 : ShC b0 (ea_wi h (b0 + 30) (Int32.toNatClampNeg x3) (ea_i h (b0 + 29) (Int32.toNatClampNeg (((-1) : Int32) - (ea_i h (Option.getD r1 0) (Int32.toNatClampNeg x4)))))) := ShC_wi hs
                    obtain ⟨H18, eH18, E⟩ := let_some E
                    refine ea_nm eH18 ?_
                    have hsH18 : ShC b0 H18 := by rw [eH18]; exact hs17
                    refine ea_iinc (pc := 87) (v := 1) (lv' := [(0, vR (some (b0 + 21))), (1, vR r1), (3, vI (x3 + (1 : Int32))), (4, vI x4)]) dX8_worth_87 2 rfl rfl (Nat.le_of_ble_eq_true rfl) [1, 2, 0, 3] rfl ?_
                    refine ea_goto (pc := 90) (tgt := 160) dX8_worth_90 rfl ?_
                    refine ea_iinc (pc := 160) (v := 1) (lv' := [(0, vR (some (b0 + 21))), (1, vR r1), (3, vI (x3 + (1 : Int32))), (4, vI (x4 + (1 : Int32)))]) dX8_worth_160 3 rfl rfl (Nat.le_of_ble_eq_true rfl) [1, 2, 3, 0] rfl ?_
                    refine ea_goto (pc := 163) (tgt := 5) dX8_worth_163 rfl ?_
                    exact ((ih 5 (r1 : Option Nat) 0 ((x3 + (1 : Int32)) : Int32) ((x4 + (1 : Int32)) : Int32) 0 H18 _ _ E hsH18).2.1 rfl)
                  · have E := (if_neg c22).symm.trans E
                    refine ea_iload (pc := 72) dX8_worth_72 4 rfl ?_
                    refine ea_goto (pc := 74) (tgt := 86) dX8_worth_74 rfl ?_
                    obtain ⟨z19, E⟩ := gd_some E
                    refine ea_iast (pc := 86) dX8_worth_86 (hs.1 30 (by decide)).1 (hs.1 30 (by decide)).2.1 (ea_vpl (hs.1 30 (by decide)).2.2 z19) ?_
                    have hs20 : ShC b0 (ea_wi h (b0 + 30) (Int32.toNatClampNeg x3) (ea_i h (Option.getD r1 0) (Int32.toNatClampNeg x4))) := ShC_wi hs
                    obtain ⟨H21, eH21, E⟩ := let_some E
                    refine ea_nm eH21 ?_
                    have hsH21 : ShC b0 H21 := by rw [eH21]; exact hs20
                    refine ea_iinc (pc := 87) (v := 1) (lv' := [(0, vR (some (b0 + 21))), (1, vR r1), (3, vI (x3 + (1 : Int32))), (4, vI x4)]) dX8_worth_87 2 rfl rfl (Nat.le_of_ble_eq_true rfl) [1, 2, 0, 3] rfl ?_
                    refine ea_goto (pc := 90) (tgt := 160) dX8_worth_90 rfl ?_
                    refine ea_iinc (pc := 160) (v := 1) (lv' := [(0, vR (some (b0 + 21))), (1, vR r1), (3, vI (x3 + (1 : Int32))), (4, vI (x4 + (1 : Int32)))]) dX8_worth_160 3 rfl rfl (Nat.le_of_ble_eq_true rfl) [1, 2, 3, 0] rfl ?_
                    refine ea_goto (pc := 163) (tgt := 5) dX8_worth_163 rfl ?_
                    exact ((ih 5 (r1 : Option Nat) 0 ((x3 + (1 : Int32)) : Int32) ((x4 + (1 : Int32)) : Int32) 0 H21 _ _ E hsH21).2.1 rfl)
                · have E := (if_neg c23).symm.trans E
                  refine ea_iconst (pc := 60) dX8_worth_60 (v := 0) rfl ?_
                  exact ea_iretO (pc := 61) dX8_worth_61 rfl rfl E
    refine ⟨?_, ?_⟩
    · intro el
      subst el
      have E := (if_neg (by decide)).symm.trans E
      have E := (if_neg (by decide)).symm.trans E
      have E := (if_pos rfl).symm.trans E
      refine ea_iload_n (pc := 125) dX8_worth_125 rfl 2 rfl ?_
      refine ea_iconst (pc := 126) dX8_worth_126 (v := 1) rfl ?_
      refine ea_icmp_le (pc := 127) (tgt := 160) dX8_worth_127 rfl (fun c35 => ?_) (fun c35 => ?_)
      · have E := (if_pos c35).symm.trans E
        refine ea_iinc (pc := 160) (v := 1) (lv' := [(0, vR (some (b0 + 21))), (1, vR r1), (3, vI x3), (4, vI (x4 + (1 : Int32)))]) dX8_worth_160 3 rfl rfl (Nat.le_of_ble_eq_true rfl) [1, 2, 3, 0] rfl ?_
        refine ea_goto (pc := 163) (tgt := 5) dX8_worth_163 rfl ?_
        exact ((ih 5 (r1 : Option Nat) 0 (x3 : Int32) ((x4 + (1 : Int32)) : Int32) 0 h _ _ E hs).2.1 rfl)
      · have E := (if_neg c35).symm.trans E
        refine ea_iinc (pc := 130) (v := (-1)) (lv' := [(0, vR (some (b0 + 21))), (1, vR r1), (3, vI (x3 + ((-1) : Int32))), (4, vI x4), (5, vI x5)]) dX8_worth_130 2 rfl rfl (Nat.le_of_ble_eq_true rfl) [1, 2, 0, 3, 4] rfl ?_
        refine ea_aload_n (pc := 133) dX8_worth_133 rfl 0 rfl ?_
        refine ea_getR (pc := 134) dX8_worth_134 ec_8 (k := 4) (Nat.le_of_ble_eq_true rfl) rfl (Or.inl ew_339) (hs.1 21 (by decide)).1 (hs.1 21 (by decide)).2.1 (hs.2 21 4 rfl) ?_
        refine ea_iload_n (pc := 137) dX8_worth_137 rfl 2 rfl ?_
        refine ea_iconst (pc := 138) dX8_worth_138 (v := 1) rfl ?_
        refine ea_isub (pc := 139) dX8_worth_139 ?_
        refine ea_iload (pc := 140) dX8_worth_140 4 rfl ?_
        refine ea_aload_n (pc := 142) dX8_worth_142 rfl 0 rfl ?_
        refine ea_getR (pc := 143) dX8_worth_143 ec_8 (k := 4) (Nat.le_of_ble_eq_true rfl) rfl (Or.inl ew_339) (hs.1 21 (by decide)).1 (hs.1 21 (by decide)).2.1 (hs.2 21 4 rfl) ?_
        refine ea_iload_n (pc := 146) dX8_worth_146 rfl 2 rfl ?_
        refine ea_iconst (pc := 147) dX8_worth_147 (v := 1) rfl ?_
        refine ea_isub (pc := 148) dX8_worth_148 ?_
        obtain ⟨z29, E⟩ := gd_some E
        refine ea_iald (pc := 149) dX8_worth_149 (hs.1 30 (by decide)).1 (hs.1 30 (by decide)).2.1 (ea_vpl (hs.1 30 (by decide)).2.2 z29) ?_
        refine ea_aload_n (pc := 150) dX8_worth_150 rfl 0 rfl ?_
        refine ea_getR (pc := 151) dX8_worth_151 ec_8 (k := 4) (Nat.le_of_ble_eq_true rfl) rfl (Or.inl ew_339) (hs.1 21 (by decide)).1 (hs.1 21 (by decide)).2.1 (hs.2 21 4 rfl) ?_
        refine ea_iload_n (pc := 154) dX8_worth_154 rfl 2 rfl ?_
        obtain ⟨z30, E⟩ := gd_some E
        refine ea_iald (pc := 155) dX8_worth_155 (hs.1 30 (by decide)).1 (hs.1 30 (by decide)).2.1 (ea_vpl (hs.1 30 (by decide)).2.2 z30) ?_
        obtain ⟨z31, E⟩ := gd_some E
        refine ea_callS (pc := 156) (d' := d - 1) (As := [vI x5, vI (ea_i h (b0 + 30) (Int32.toNatClampNeg ((x3 + ((-1) : Int32)) - (1 : Int32)))), vI (ea_i h (b0 + 30) (Int32.toNatClampNeg (x3 + ((-1) : Int32))))]) (st := [vI ((x3 + ((-1) : Int32)) - (1 : Int32)), vR (some (b0 + 30))]) dX8_worth_156 kX8_joined (sX8_joined (d := d - 1) (by omega) z31) (by omega) rfl (Nat.le_of_ble_eq_true rfl) ew_1062 ew_1063 ?_
        obtain ⟨z32, E⟩ := gd_some E
        refine ea_iast (pc := 159) dX8_worth_159 (hs.1 30 (by decide)).1 (hs.1 30 (by decide)).2.1 (ea_vpl (hs.1 30 (by decide)).2.2 z32) ?_
        have hs33 : ShC b0 (ea_wi h (b0 + 30) (Int32.toNatClampNeg ((x3 + ((-1) : Int32)) - (1 : Int32))) (vX8_joined (x5 : Int32) ((ea_i h (b0 + 30) (Int32.toNatClampNeg ((x3 + ((-1) : Int32)) - (1 : Int32)))) : Int32) ((ea_i h (b0 + 30) (Int32.toNatClampNeg (x3 + ((-1) : Int32)))) : Int32) h)) := ShC_wi hs
        obtain ⟨H34, eH34, E⟩ := let_some E
        refine ea_nm eH34 ?_
        have hsH34 : ShC b0 H34 := by rw [eH34]; exact hs33
        refine ea_iinc (pc := 160) (v := 1) (lv' := [(0, vR (some (b0 + 21))), (1, vR r1), (3, vI (x3 + ((-1) : Int32))), (4, vI (x4 + (1 : Int32)))]) dX8_worth_160 3 rfl rfl (Nat.le_of_ble_eq_true rfl) [1, 2, 3, 0] rfl ?_
        refine ea_goto (pc := 163) (tgt := 5) dX8_worth_163 rfl ?_
        exact ((ih 5 (r1 : Option Nat) 0 ((x3 + ((-1) : Int32)) : Int32) ((x4 + (1 : Int32)) : Int32) 0 H34 _ _ E hsH34).2.1 rfl)
    intro el
    subst el
    have E := (if_neg (by decide)).symm.trans E
    have E := (if_neg (by decide)).symm.trans E
    have E := (if_neg (by decide)).symm.trans E
    have E := (if_pos rfl).symm.trans E
    refine ea_iload_n (pc := 166) dX8_worth_166 rfl 1 rfl ?_
    refine ea_if_le (pc := 167) (tgt := 181) dX8_worth_167 rfl (fun c37 => ?_) (fun c37 => ?_)
    · have E := (if_pos c37).symm.trans E
      refine ea_iconst (pc := 181) dX8_worth_181 (v := 0) rfl ?_
      exact ea_iretO (pc := 182) dX8_worth_182 rfl rfl E
    · have E := (if_neg c37).symm.trans E
      refine ea_aload_n (pc := 170) dX8_worth_170 rfl 0 rfl ?_
      refine ea_getR (pc := 171) dX8_worth_171 ec_8 (k := 4) (Nat.le_of_ble_eq_true rfl) rfl (Or.inl ew_339) (hs.1 21 (by decide)).1 (hs.1 21 (by decide)).2.1 (hs.2 21 4 rfl) ?_
      refine ea_iload_n (pc := 174) dX8_worth_174 rfl 1 rfl ?_
      refine ea_iconst (pc := 175) dX8_worth_175 (v := 1) rfl ?_
      refine ea_isub (pc := 176) dX8_worth_176 ?_
      obtain ⟨z36, E⟩ := gd_some E
      refine ea_iald (pc := 177) dX8_worth_177 (hs.1 30 (by decide)).1 (hs.1 30 (by decide)).2.1 (ea_vpl (hs.1 30 (by decide)).2.2 z36) ?_
      refine ea_goto (pc := 178) (tgt := 182) dX8_worth_178 rfl ?_
      exact ea_iretO (pc := 182) dX8_worth_182 rfl rfl E
noncomputable def qX8_worth (b0 : Nat) (r1 : Option Nat) (x2 : Int32) (h : ea_H) : Option (Int32 × ea_H) := gX8_worth b0 1000000000 0 r1 x2 0 0 0 h
def okX8_worth (b0 : Nat) (r1 : Option Nat) (x2 : Int32) (h : ea_H) : Prop := ∃ x, qX8_worth b0 r1 x2 h = some x
noncomputable def vX8_worth (b0 : Nat) (r1 : Option Nat) (x2 : Int32) (h : ea_H) : Int32 := ((qX8_worth b0 r1 x2 h).getD (0, h)).1
noncomputable def wX8_worth (b0 : Nat) (r1 : Option Nat) (x2 : Int32) (h : ea_H) : ea_H := ((qX8_worth b0 r1 x2 h).getD (0, h)).2
theorem sX8_worth {d : Nat} {b0 : Nat} {r1 : Option Nat} {x2 : Int32} {h : ea_H} (hd : 2 ≤ d) (hs : ShC b0 h) (K : okX8_worth b0 r1 x2 h) : ea_Met mX8_worth d [vR (some (b0 + 21)), vR r1, vI x2] h (some (vI (vX8_worth b0 r1 x2 h))) (wX8_worth b0 r1 x2 h) := by
  obtain ⟨⟨x, y⟩, K⟩ := K
  unfold wX8_worth vX8_worth
  rw [K]
  unfold qX8_worth at K
  exact ea_enter rfl (Nat.le_of_ble_eq_true rfl) ((tX8_worth hd 1000000000 0 r1 x2 0 0 0 h x y K hs).1 rfl)
