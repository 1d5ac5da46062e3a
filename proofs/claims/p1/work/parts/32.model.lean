/-! the reference, 2 -/
theorem zX12_order {b0 : Nat} : ∀ (f lbl : Nat) (x1 : Int32) (x2 : Int32) (x7 : Int32) (y3 : Int64) (y5 : Int64) (h : ea_H) (r : Int64) (h' : ea_H), gX12_order b0 f lbl x1 x2 x7 y3 y5 h = some (r, h') → ShM b0 h → ShM b0 h' := by
  intro f
  induction f with
  | zero => intro lbl x1 x2 x7 y3 y5 h r h' E; cases E
  | succ f ih =>
    intro lbl x1 x2 x7 y3 y5 h r h' E hs
    unfold gX12_order at E
    by_cases el0 : lbl = 0
    · have E := (if_pos el0).symm.trans E
      by_cases c20 : (vX12_isLetterOf b0 (x1 : Int32) h) = (0 : Int32)
      · have E := (if_pos c20).symm.trans E
        exact ea_shO E hs
      have E := (if_neg c20).symm.trans E
      by_cases c19 : x2 = (0 : Int32)
      · have E := (if_pos c19).symm.trans E
        obtain ⟨z18, E⟩ := gd_some E
        exact ea_shO E hs
      have E := (if_neg c19).symm.trans E
      by_cases c17 : x2 = (1 : Int32)
      · have E := (if_pos c17).symm.trans E
        exact ih 34 (x1 : Int32) (x2 : Int32) 0 0 0 h _ _ E hs
      have E := (if_neg c17).symm.trans E
      by_cases c16 : x2 = (2 : Int32)
      · have E := (if_pos c16).symm.trans E
        exact ih 34 (x1 : Int32) (x2 : Int32) 0 0 0 h _ _ E hs
      have E := (if_neg c16).symm.trans E
      obtain ⟨z2, E⟩ := gd_some E
      by_cases c15 : (vX12_isIn (x2 : Int32) (10 : Int32) (((9 : Int32) + (ea_i h (b0 + 70) (Int32.toNatClampNeg x1))) : Int32) h) = (0 : Int32)
      · have E := (if_pos c15).symm.trans E
        obtain ⟨z4, E⟩ := gd_some E
        by_cases c10 : (vX12_isIn (x2 : Int32) (20 : Int32) (((19 : Int32) + (ea_i h (b0 + 70) (Int32.toNatClampNeg x1))) : Int32) h) = (0 : Int32)
        · have E := (if_pos c10).symm.trans E
          exact ea_shO E hs
        have E := (if_neg c10).symm.trans E
        obtain ⟨z6, E⟩ := gd_some E
        obtain ⟨H8, eH8, E⟩ := let_some E
        have hsH8 : ShM b0 H8 := by rw [eH8]; exact (shX12_ordered hs)
        obtain ⟨z9, E⟩ := gd_some E
        exact ea_shO E hsH8
      have E := (if_neg c15).symm.trans E
      obtain ⟨z11, E⟩ := gd_some E
      obtain ⟨H13, eH13, E⟩ := let_some E
      have hsH13 : ShM b0 H13 := by rw [eH13]; exact (shX12_ordered hs)
      obtain ⟨z14, E⟩ := gd_some E
      exact ea_shO E hsH13
    have E := (if_neg el0).symm.trans E
    by_cases el1 : lbl = 34
    · have E := (if_pos el1).symm.trans E
      obtain ⟨z21, E⟩ := gd_some E
      by_cases c22 : (ea_i h (b0 + 70) (Int32.toNatClampNeg x1)) = (0 : Int32)
      · have E := (if_pos c22).symm.trans E
        exact ea_shO E hs
      have E := (if_neg c22).symm.trans E
      exact ih 55 (x1 : Int32) (x2 : Int32) (0 : Int32) (1 : Int64) (1 : Int64) h _ _ E hs
    have E := (if_neg el1).symm.trans E
    by_cases el2 : lbl = 55
    · have E := (if_pos el2).symm.trans E
      obtain ⟨z23, E⟩ := gd_some E
      by_cases c31 : (ea_i h (b0 + 70) (Int32.toNatClampNeg x1)) ≤ x7
      · have E := (if_pos c31).symm.trans E
        obtain ⟨z24, E⟩ := gd_some E
        obtain ⟨H26, eH26, E⟩ := let_some E
        have hsH26 : ShM b0 H26 := by rw [eH26]; exact (shX12_common hs)
        by_cases c29 : x2 = (1 : Int32)
        · have E := (if_pos c29).symm.trans E
          obtain ⟨z28, E⟩ := gd_some E
          exact ea_shO E hsH26
        have E := (if_neg c29).symm.trans E
        obtain ⟨z27, E⟩ := gd_some E
        exact ea_shO E hsH26
      have E := (if_neg c31).symm.trans E
      obtain ⟨z30, E⟩ := gd_some E
      exact ih 55 (x1 : Int32) (x2 : Int32) ((x7 + (1 : Int32)) : Int32) ((y3 * (100 : Int64)) : Int64) ((y5 * (Int32.toInt64 ((100 : Int32) - (ea_i h (b0 + 72) (Int32.toNatClampNeg (((4 : Int32) * x1) + x7)))))) : Int64) h _ _ E hs
    have E := (if_neg el2).symm.trans E
    cases E
theorem shX12_order {b0 : Nat} {x1 : Int32} {x2 : Int32} {h : ea_H} (hs : ShM b0 h) : ShM b0 (wX12_order b0 x1 x2 h) := by
  unfold wX12_order
  cases K : qX12_order b0 x1 x2 h with
  | none => exact hs
  | some x => obtain ⟨x, y⟩ := x; unfold qX12_order at K; exact zX12_order _ _ _ _ _ _ _ _ _ _ K hs
noncomputable def gX12_found (b0 : Nat) : Nat → Nat → Int32 → Int32 → Int32 → ea_H → Option (Int32 × ea_H)
  | 0, _, _, _, _, _ => none
  | f + 1, lbl, x1, x2, x3, h =>
    if lbl = 0 then (if (vX12_isLetterOf b0 (x1 : Int32) h) = (0 : Int32) then (some ((0 : Int32), h)) else (gd (vp_in x1 120) (if (ea_i h (b0 + 55) (Int32.toNatClampNeg x1)) = (3 : Int32) then (gX12_found b0 f 22 (x1 : Int32) (x2 : Int32) (0 : Int32) h) else (some ((0 : Int32), h))))) else
    if lbl = 22 then (gd (vp_in x1 120) (if (ea_i h (b0 + 70) (Int32.toNatClampNeg x1)) ≤ x3 then (some ((0 : Int32), h)) else (gd (vp_in (((4 : Int32) * x1) + x3) 480) (if (ea_i h (b0 + 71) (Int32.toNatClampNeg (((4 : Int32) * x1) + x3))) = x2 then (gd ((okX12_turns b0 (x1 : Int32) ((ea_i h (b0 + 0) 0) : Int32) (5 : Int32) (x2 : Int32) h)) (ea_let (wX12_turns b0 (x1 : Int32) ((ea_i h (b0 + 0) 0) : Int32) (5 : Int32) (x2 : Int32) h) fun H9 => (some ((1 : Int32), H9)))) else (gX12_found b0 f 22 (x1 : Int32) (x2 : Int32) ((x3 + (1 : Int32)) : Int32) h))))) else none
theorem tX12_found {d : Nat} {b0 : Nat} {h0 : ea_H} (hd : 3 ≤ d) : ∀ (f lbl : Nat) (x1 : Int32) (x2 : Int32) (x3 : Int32) (h : ea_H) (r : Int32) (h' : ea_H), gX12_found b0 f lbl x1 x2 x3 h = some (r, h') → ShM b0 h → (lbl = 0 → ea_W mX12_found d h0 (some (vI r)) h' 0 [(0, vR (some (b0 + 0))), (1, vI x1), (2, vI x2)] [] h) ∧ (lbl = 22 → ea_W mX12_found d h0 (some (vI r)) h' 22 [(0, vR (some (b0 + 0))), (1, vI x1), (2, vI x2), (3, vI x3)] [] h) := by
  intro f
  induction f with
  | zero => intro lbl x1 x2 x3 h r h' E; cases E
  | succ f ih =>
    intro lbl x1 x2 x3 h r h' E hs
    unfold gX12_found at E
    refine ⟨?_, ?_⟩
    · intro el
      subst el
      have E := (if_pos rfl).symm.trans E
      refine ea_aload_n (pc := 0) dX12_found_0 rfl 0 rfl ?_
      refine ea_iload_n (pc := 1) dX12_found_1 rfl 1 rfl ?_
      refine ea_callV (pc := 2) (d' := d - 1) (As := [vI x1]) (st := []) dX12_found_2 kX12_isLetterOf (sX12_isLetterOf (d := d - 1) (by omega) hs) (by omega) rfl (Nat.le_of_ble_eq_true rfl) ew_2019 ew_2021 ew_89 (ci := 12) rfl (by decide) (hs.1 0 (by decide)).1 (hs.1 0 (by decide)).2.1 ?_
      refine ea_if_eq (pc := 5) (tgt := 18) dX12_found_5 rfl (fun c4 => ?_) (fun c4 => ?_)
      · have E := (if_pos c4).symm.trans E
        refine ea_iconst (pc := 18) dX12_found_18 (v := 0) rfl ?_
        exact ea_iretO (pc := 19) dX12_found_19 rfl (ea_bn (Or.inl rfl)) E
      · have E := (if_neg c4).symm.trans E
        refine ea_aload_n (pc := 8) dX12_found_8 rfl 0 rfl ?_
        refine ea_getR (pc := 9) dX12_found_9 ec_12 (k := 81) (Nat.le_of_ble_eq_true rfl) rfl (Or.inl ew_1426) (hs.1 0 (by decide)).1 (hs.1 0 (by decide)).2.1 (hs.2 0 81 rfl) ?_
        refine ea_iload_n (pc := 12) dX12_found_12 rfl 1 rfl ?_
        obtain ⟨z2, E⟩ := gd_some E
        refine ea_iald (pc := 13) dX12_found_13 (hs.1 55 (by decide)).1 (hs.1 55 (by decide)).2.1 (ea_vpl (hs.1 55 (by decide)).2.2 z2) ?_
        refine ea_iconst (pc := 14) dX12_found_14 (v := 3) rfl ?_
        refine ea_icmp_eq (pc := 15) (tgt := 20) dX12_found_15 rfl (fun c3 => ?_) (fun c3 => ?_)
        · have E := (if_pos c3).symm.trans E
          refine ea_iconst (pc := 20) dX12_found_20 (v := 0) rfl ?_
          refine ea_istore_n (pc := 21) (lv' := [(0, vR (some (b0 + 0))), (1, vI x1), (2, vI x2), (3, vI 0)]) dX12_found_21 rfl (Nat.le_of_ble_eq_true rfl) [1, 2, 3, 0] rfl ?_
          exact ((ih 22 (x1 : Int32) (x2 : Int32) (0 : Int32) h _ _ E hs).2 rfl)
        · have E := (if_neg c3).symm.trans E
          refine ea_iconst (pc := 18) dX12_found_18 (v := 0) rfl ?_
          exact ea_iretO (pc := 19) dX12_found_19 rfl (ea_bn (Or.inl rfl)) E
    intro el
    subst el
    have E := (if_neg (by decide)).symm.trans E
    have E := (if_pos rfl).symm.trans E
    refine ea_iload_n (pc := 22) dX12_found_22 rfl 3 rfl ?_
    refine ea_aload_n (pc := 23) dX12_found_23 rfl 0 rfl ?_
    refine ea_getR (pc := 24) dX12_found_24 ec_12 (k := 97) (Nat.le_of_ble_eq_true rfl) rfl (Or.inl ew_1442) (hs.1 0 (by decide)).1 (hs.1 0 (by decide)).2.1 (hs.2 0 97 rfl) ?_
    refine ea_iload_n (pc := 27) dX12_found_27 rfl 1 rfl ?_
    obtain ⟨z5, E⟩ := gd_some E
    refine ea_iald (pc := 28) dX12_found_28 (hs.1 70 (by decide)).1 (hs.1 70 (by decide)).2.1 (ea_vpl (hs.1 70 (by decide)).2.2 z5) ?_
    refine ea_icmp_ge (pc := 29) (tgt := 68) dX12_found_29 rfl (fun c11 => ?_) (fun c11 => ?_)
    · have E := (if_pos c11).symm.trans E
      refine ea_iconst (pc := 68) dX12_found_68 (v := 0) rfl ?_
      exact ea_iretO (pc := 69) dX12_found_69 rfl (ea_bn (Or.inl rfl)) E
    · have E := (if_neg c11).symm.trans E
      refine ea_aload_n (pc := 32) dX12_found_32 rfl 0 rfl ?_
      refine ea_getR (pc := 33) dX12_found_33 ec_12 (k := 98) (Nat.le_of_ble_eq_true rfl) rfl (Or.inl ew_1443) (hs.1 0 (by decide)).1 (hs.1 0 (by decide)).2.1 (hs.2 0 98 rfl) ?_
      refine ea_iconst (pc := 36) dX12_found_36 (v := 4) rfl ?_
      refine ea_iload_n (pc := 37) dX12_found_37 rfl 1 rfl ?_
      refine ea_imul (pc := 38) dX12_found_38 ?_
      refine ea_iload_n (pc := 39) dX12_found_39 rfl 3 rfl ?_
      refine ea_iadd (pc := 40) dX12_found_40 ?_
      obtain ⟨z6, E⟩ := gd_some E
      refine ea_iald (pc := 41) dX12_found_41 (hs.1 71 (by decide)).1 (hs.1 71 (by decide)).2.1 (ea_vpl (hs.1 71 (by decide)).2.2 z6) ?_
      refine ea_iload_n (pc := 42) dX12_found_42 rfl 2 rfl ?_
      refine ea_icmp_eq (pc := 43) (tgt := 49) dX12_found_43 rfl (fun c10 => ?_) (fun c10 => ?_)
      · have E := (if_pos c10).symm.trans E
        refine ea_aload_n (pc := 49) dX12_found_49 rfl 0 rfl ?_
        refine ea_iload_n (pc := 50) dX12_found_50 rfl 1 rfl ?_
        refine ea_aload_n (pc := 51) dX12_found_51 rfl 0 rfl ?_
        refine ea_getI (pc := 52) dX12_found_52 ec_12 (k := 0) (Nat.le_of_ble_eq_true rfl) rfl (Or.inl ew_1345) (hs.1 0 (by decide)).1 (hs.1 0 (by decide)).2.1 ?_
        refine ea_iconst (pc := 55) dX12_found_55 (v := 5) rfl ?_
        refine ea_iload_n (pc := 56) dX12_found_56 rfl 2 rfl ?_
        obtain ⟨z7, E⟩ := gd_some E
        refine ea_callV (pc := 57) (d' := d - 1) (As := [vI x1, vI (ea_i h (b0 + 0) 0), vI 5, vI x2]) (st := []) dX12_found_57 kX12_turns (sX12_turns (d := d - 1) (by omega) hs z7) (by omega) rfl (Nat.le_of_ble_eq_true rfl) ew_2011 ew_2013 ew_88 (ci := 12) rfl (by decide) (hs.1 0 (by decide)).1 (hs.1 0 (by decide)).2.1 ?_
        have hs8 : ShM b0 (wX12_turns b0 (x1 : Int32) ((ea_i h (b0 + 0) 0) : Int32) (5 : Int32) (x2 : Int32) h) := shX12_turns hs
        obtain ⟨H9, eH9, E⟩ := let_some E
        refine ea_nm eH9 ?_
        have hsH9 : ShM b0 H9 := by rw [eH9]; exact hs8
        refine ea_iconst (pc := 60) dX12_found_60 (v := 1) rfl ?_
        exact ea_iretO (pc := 61) dX12_found_61 rfl (ea_bn (Or.inr rfl)) E
      · have E := (if_neg c10).symm.trans E
        refine ea_goto (pc := 46) (tgt := 62) dX12_found_46 rfl ?_
        refine ea_iinc (pc := 62) (v := 1) (lv' := [(0, vR (some (b0 + 0))), (1, vI x1), (2, vI x2), (3, vI (x3 + (1 : Int32)))]) dX12_found_62 3 rfl rfl (Nat.le_of_ble_eq_true rfl) [1, 2, 3, 0] rfl ?_
        refine ea_goto (pc := 65) (tgt := 22) dX12_found_65 rfl ?_
        exact ((ih 22 (x1 : Int32) (x2 : Int32) ((x3 + (1 : Int32)) : Int32) h _ _ E hs).2 rfl)
noncomputable def qX12_found (b0 : Nat) (x1 : Int32) (x2 : Int32) (h : ea_H) : Option (Int32 × ea_H) := gX12_found b0 1000000000 0 x1 x2 0 h
def okX12_found (b0 : Nat) (x1 : Int32) (x2 : Int32) (h : ea_H) : Prop := ∃ x, qX12_found b0 x1 x2 h = some x
noncomputable def vX12_found (b0 : Nat) (x1 : Int32) (x2 : Int32) (h : ea_H) : Int32 := ((qX12_found b0 x1 x2 h).getD (0, h)).1
noncomputable def wX12_found (b0 : Nat) (x1 : Int32) (x2 : Int32) (h : ea_H) : ea_H := ((qX12_found b0 x1 x2 h).getD (0, h)).2
theorem sX12_found {d : Nat} {b0 : Nat} {x1 : Int32} {x2 : Int32} {h : ea_H} (hd : 3 ≤ d) (hs : ShM b0 h) (K : okX12_found b0 x1 x2 h) : ea_Met mX12_found d [vR (some (b0 + 0)), vI x1, vI x2] h (some (vI (vX12_found b0 x1 x2 h))) (wX12_found b0 x1 x2 h) := by
  obtain ⟨⟨x, y⟩, K⟩ := K
  unfold wX12_found vX12_found
  rw [K]
  unfold qX12_found at K
  exact ea_enter rfl (Nat.le_of_ble_eq_true rfl) ((tX12_found hd 1000000000 0 x1 x2 0 h x y K hs).1 rfl)
theorem zX12_found {b0 : Nat} : ∀ (f lbl : Nat) (x1 : Int32) (x2 : Int32) (x3 : Int32) (h : ea_H) (r : Int32) (h' : ea_H), gX12_found b0 f lbl x1 x2 x3 h = some (r, h') → ShM b0 h → ShM b0 h' := by
  intro f
  induction f with
  | zero => intro lbl x1 x2 x3 h r h' E; cases E
  | succ f ih =>
    intro lbl x1 x2 x3 h r h' E hs
    unfold gX12_found at E
    by_cases el0 : lbl = 0
    · have E := (if_pos el0).symm.trans E
      by_cases c4 : (vX12_isLetterOf b0 (x1 : Int32) h) = (0 : Int32)
      · have E := (if_pos c4).symm.trans E
        exact ea_shO E hs
      have E := (if_neg c4).symm.trans E
      obtain ⟨z2, E⟩ := gd_some E
      by_cases c3 : (ea_i h (b0 + 55) (Int32.toNatClampNeg x1)) = (3 : Int32)
      · have E := (if_pos c3).symm.trans E
        exact ih 22 (x1 : Int32) (x2 : Int32) (0 : Int32) h _ _ E hs
      have E := (if_neg c3).symm.trans E
      exact ea_shO E hs
    have E := (if_neg el0).symm.trans E
    by_cases el1 : lbl = 22
    · have E := (if_pos el1).symm.trans E
      obtain ⟨z5, E⟩ := gd_some E
      by_cases c11 : (ea_i h (b0 + 70) (Int32.toNatClampNeg x1)) ≤ x3
      · have E := (if_pos c11).symm.trans E
        exact ea_shO E hs
      have E := (if_neg c11).symm.trans E
      obtain ⟨z6, E⟩ := gd_some E
      by_cases c10 : (ea_i h (b0 + 71) (Int32.toNatClampNeg (((4 : Int32) * x1) + x3))) = x2
      · have E := (if_pos c10).symm.trans E
        obtain ⟨z7, E⟩ := gd_some E
        obtain ⟨H9, eH9, E⟩ := let_some E
        have hsH9 : ShM b0 H9 := by rw [eH9]; exact (shX12_turns hs)
        exact ea_shO E hsH9
      have E := (if_neg c10).symm.trans E
      exact ih 22 (x1 : Int32) (x2 : Int32) ((x3 + (1 : Int32)) : Int32) h _ _ E hs
    have E := (if_neg el1).symm.trans E
    cases E
theorem shX12_found {b0 : Nat} {x1 : Int32} {x2 : Int32} {h : ea_H} (hs : ShM b0 h) : ShM b0 (wX12_found b0 x1 x2 h) := by
  unfold wX12_found
  cases K : qX12_found b0 x1 x2 h with
  | none => exact hs
  | some x => obtain ⟨x, y⟩ := x; unfold qX12_found at K; exact zX12_found _ _ _ _ _ _ _ _ K hs
noncomputable def gX12_rob (b0 : Nat) : Nat → Nat → Int32 → Int32 → Int32 → Int32 → Int32 → ea_H → Option (Int32 × ea_H)
  | 0, _, _, _, _, _, _, _ => none
  | f + 1, lbl, x1, x2, x3, x5, x6, h =>
    if lbl = 0 then (if (vX12_isTrain b0 (x1 : Int32) h) = (0 : Int32) then (some (((-1) : Int32), h)) else (if (vX12_isDay (x2 : Int32) h) = (0 : Int32) then (some (((-1) : Int32), h)) else (if (ea_i h (b0 + 0) 100) = (20 : Int32) then (some (((-1) : Int32), h)) else (gd ((okX12_gone b0 ((vX12_run (x1 : Int32) (x2 : Int32) h) : Int32) h)) (ea_let (wX12_gone b0 ((vX12_run (x1 : Int32) (x2 : Int32) h) : Int32) h) fun H6 => (if (vX12_gone b0 ((vX12_run (x1 : Int32) (x2 : Int32) h) : Int32) h) = ((-1) : Int32) then (some (((-1) : Int32), H6)) else (gd ((okX12_comesAt b0 ((vX12_run (x1 : Int32) (x2 : Int32) h) : Int32) (((vX12_gone b0 ((vX12_run (x1 : Int32) (x2 : Int32) h) : Int32) h) + (1 : Int32)) : Int32) H6)) (if (ea_i H6 (b0 + 0) 0) < (vX12_comesAt b0 ((vX12_run (x1 : Int32) (x2 : Int32) h) : Int32) (((vX12_gone b0 ((vX12_run (x1 : Int32) (x2 : Int32) h) : Int32) h) + (1 : Int32)) : Int32) H6) then (ea_let (ea_wi H6 (b0 + 0) 100 ((ea_i H6 (b0 + 0) 100) + (1 : Int32))) fun H9 => (gd (vp_in (ea_i H6 (b0 + 0) 100) 20) (ea_let (ea_wi H9 (b0 + 73) (Int32.toNatClampNeg (ea_i H6 (b0 + 0) 100)) (vX12_code ((vX12_run (x1 : Int32) (x2 : Int32) h) : Int32) H9)) fun H13 => (gd (vp_in (ea_i H6 (b0 + 0) 100) 20) (ea_let (ea_wi H13 (b0 + 74) (Int32.toNatClampNeg (ea_i H6 (b0 + 0) 100)) (ea_i H13 (b0 + 0) 0)) fun H16 => (gX12_rob b0 f 104 0 0 ((vX12_run (x1 : Int32) (x2 : Int32) h) : Int32) ((ea_i H6 (b0 + 0) 100) : Int32) (0 : Int32) H16)))))) else (some (((-1) : Int32), H6)))))))))) else
    if lbl = 104 then (if (ea_i h (b0 + 0) 63) ≤ x6 then (some (x5, h)) else (gd ((okX12_isAboard b0 (x6 : Int32) (x3 : Int32) h)) (if (vX12_isAboard b0 (x6 : Int32) (x3 : Int32) h) = (0 : Int32) then (gX12_rob b0 f 104 0 0 (x3 : Int32) (x5 : Int32) ((x6 + (1 : Int32)) : Int32) h) else (gd (vp_in x6 120) (if (ea_i h (b0 + 61) (Int32.toNatClampNeg x6)) = (0 : Int32) then (gX12_rob b0 f 104 0 0 (x3 : Int32) (x5 : Int32) ((x6 + (1 : Int32)) : Int32) h) else (gd (vp_in x5 20) (gd (vp_in (((120 : Int32) * x5) + (ea_i h (b0 + 75) (Int32.toNatClampNeg x5))) 2400) (ea_let (ea_wi h (b0 + 77) (Int32.toNatClampNeg (((120 : Int32) * x5) + (ea_i h (b0 + 75) (Int32.toNatClampNeg x5)))) x6) fun H27 => (gd (vp_in x5 20) (gd (vp_in x5 20) (ea_let (ea_wi H27 (b0 + 75) (Int32.toNatClampNeg x5) ((ea_i H27 (b0 + 75) (Int32.toNatClampNeg x5)) + (1 : Int32))) fun H31 => (gd (vp_in x5 20) (gd ((okX12_owed b0 (x6 : Int32) H31)) (gd (vp_in x5 20) (ea_let (ea_wi H31 (b0 + 76) (Int32.toNatClampNeg x5) ((ea_i H31 (b0 + 76) (Int32.toNatClampNeg x5)) + (vX12_owed b0 (x6 : Int32) H31))) fun H36 => (gd ((okX12_turns b0 (x6 : Int32) ((ea_i H36 (b0 + 0) 0) : Int32) (4 : Int32) ((vX12_code (x3 : Int32) H36) : Int32) H36)) (ea_let (wX12_turns b0 (x6 : Int32) ((ea_i H36 (b0 + 0) 0) : Int32) (4 : Int32) ((vX12_code (x3 : Int32) H36) : Int32) H36) fun H40 => (gX12_rob b0 f 104 0 0 (x3 : Int32) (x5 : Int32) ((x6 + (1 : Int32)) : Int32) H40)))))))))))))))))) else none
theorem tX12_rob {d : Nat} {b0 : Nat} {h0 : ea_H} (hd : 3 ≤ d) : ∀ (f lbl : Nat) (x1 : Int32) (x2 : Int32) (x3 : Int32) (x5 : Int32) (x6 : Int32) (h : ea_H) (r : Int32) (h' : ea_H), gX12_rob b0 f lbl x1 x2 x3 x5 x6 h = some (r, h') → ShM b0 h → (lbl = 0 → ea_W mX12_rob d h0 (some (vI r)) h' 0 [(0, vR (some (b0 + 0))), (1, vI x1), (2, vI x2)] [] h) ∧ (lbl = 104 → ea_W mX12_rob d h0 (some (vI r)) h' 104 [(0, vR (some (b0 + 0))), (3, vI x3), (5, vI x5), (6, vI x6)] [] h) := by
  intro f
  induction f with
  | zero => intro lbl x1 x2 x3 x5 x6 h r h' E; cases E
  | succ f ih =>
    intro lbl x1 x2 x3 x5 x6 h r h' E hs
    unfold gX12_rob at E
    refine ⟨?_, ?_⟩
    · intro el
      subst el
      have E := (if_pos rfl).symm.trans E
      refine ea_aload_n (pc := 0) dX12_rob_0 rfl 0 rfl ?_
      refine ea_iload_n (pc := 1) dX12_rob_1 rfl 1 rfl ?_
      refine ea_callV (pc := 2) (d' := d - 1) (As := [vI x1]) (st := []) dX12_rob_2 kX12_isTrain (sX12_isTrain (d := d - 1) (by omega) hs) (by omega) rfl (Nat.le_of_ble_eq_true rfl) ew_1736 ew_1738 ew_50 (ci := 12) rfl (by decide) (hs.1 0 (by decide)).1 (hs.1 0 (by decide)).2.1 ?_
      refine ea_if_eq (pc := 5) (tgt := 24) dX12_rob_5 rfl (fun c21 => ?_) (fun c21 => ?_)
      · have E := (if_pos c21).symm.trans E
        refine ea_iconst (pc := 24) dX12_rob_24 (v := (-1)) rfl ?_
        exact ea_iretO (pc := 25) dX12_rob_25 rfl rfl E
      · have E := (if_neg c21).symm.trans E
        refine ea_iload_n (pc := 8) dX12_rob_8 rfl 2 rfl ?_
        refine ea_callS (pc := 9) (d' := d - 1) (As := [vI x2]) (st := []) dX12_rob_9 kX12_isDay (sX12_isDay (d := d - 1) (by omega)) (by omega) rfl (Nat.le_of_ble_eq_true rfl) ew_1752 ew_1753 ?_
        refine ea_if_eq (pc := 12) (tgt := 24) dX12_rob_12 rfl (fun c20 => ?_) (fun c20 => ?_)
        · have E := (if_pos c20).symm.trans E
          refine ea_iconst (pc := 24) dX12_rob_24 (v := (-1)) rfl ?_
          exact ea_iretO (pc := 25) dX12_rob_25 rfl rfl E
        · have E := (if_neg c20).symm.trans E
          refine ea_aload_n (pc := 15) dX12_rob_15 rfl 0 rfl ?_
          refine ea_getI (pc := 16) dX12_rob_16 ec_12 (k := 100) (Nat.le_of_ble_eq_true rfl) rfl (Or.inl ew_1445) (hs.1 0 (by decide)).1 (hs.1 0 (by decide)).2.1 ?_
          refine ea_bipush (pc := 19) dX12_rob_19 (v := 20) rfl ?_
          refine ea_icmp_ne (pc := 21) (tgt := 26) dX12_rob_21 rfl (fun c19 => ?_) (fun c19 => ?_)
          · have E := (if_neg c19).symm.trans E
            refine ea_iload_n (pc := 26) dX12_rob_26 rfl 1 rfl ?_
            refine ea_iload_n (pc := 27) dX12_rob_27 rfl 2 rfl ?_
            refine ea_callS (pc := 28) (d' := d - 1) (As := [vI x1, vI x2]) (st := []) dX12_rob_28 kX12_run (sX12_run (d := d - 1) (by omega)) (by omega) rfl (Nat.le_of_ble_eq_true rfl) ew_1755 ew_1756 ?_
            refine ea_istore_n (pc := 31) (lv' := [(0, vR (some (b0 + 0))), (3, vI (vX12_run (x1 : Int32) (x2 : Int32) h))]) dX12_rob_31 rfl (Nat.le_of_ble_eq_true rfl) [1, 0] rfl ?_
            refine ea_aload_n (pc := 32) dX12_rob_32 rfl 0 rfl ?_
            refine ea_iload_n (pc := 33) dX12_rob_33 rfl 1 rfl ?_
            obtain ⟨z4, E⟩ := gd_some E
            refine ea_callV (pc := 34) (d' := d - 1) (As := [vI (vX12_run (x1 : Int32) (x2 : Int32) h)]) (st := []) dX12_rob_34 kX12_gone (sX12_gone (d := d - 1) (by omega) hs z4) (by omega) rfl (Nat.le_of_ble_eq_true rfl) ew_2094 ew_2096 ew_99 (ci := 12) rfl (by decide) (hs.1 0 (by decide)).1 (hs.1 0 (by decide)).2.1 ?_
            have hs5 : ShM b0 (wX12_gone b0 ((vX12_run (x1 : Int32) (x2 : Int32) h) : Int32) h) := shX12_gone hs
            obtain ⟨H6, eH6, E⟩ := let_some E
            refine ea_nm eH6 ?_
            have hsH6 : ShM b0 H6 := by rw [eH6]; exact hs5
            refine ea_istore (pc := 37) (lv' := [(0, vR (some (b0 + 0))), (3, vI (vX12_run (x1 : Int32) (x2 : Int32) h)), (4, vI (vX12_gone b0 ((vX12_run (x1 : Int32) (x2 : Int32) h) : Int32) h))]) dX12_rob_37 (Nat.le_of_ble_eq_true rfl) [1, 2, 0] rfl ?_
            refine ea_iload (pc := 39) dX12_rob_39 2 rfl ?_
            refine ea_iconst (pc := 41) dX12_rob_41 (v := (-1)) rfl ?_
            refine ea_icmp_eq (pc := 42) (tgt := 61) dX12_rob_42 rfl (fun c18 => ?_) (fun c18 => ?_)
            · have E := (if_pos c18).symm.trans E
              refine ea_iconst (pc := 61) dX12_rob_61 (v := (-1)) rfl ?_
              exact ea_iretO (pc := 62) dX12_rob_62 rfl rfl E
            · have E := (if_neg c18).symm.trans E
              refine ea_aload_n (pc := 45) dX12_rob_45 rfl 0 rfl ?_
              refine ea_iload_n (pc := 46) dX12_rob_46 rfl 1 rfl ?_
              refine ea_iload (pc := 47) dX12_rob_47 2 rfl ?_
              refine ea_iconst (pc := 49) dX12_rob_49 (v := 1) rfl ?_
              refine ea_iadd (pc := 50) dX12_rob_50 ?_
              obtain ⟨z7, E⟩ := gd_some E
              refine ea_callV (pc := 51) (d' := d - 1) (As := [vI (vX12_run (x1 : Int32) (x2 : Int32) h), vI ((vX12_gone b0 ((vX12_run (x1 : Int32) (x2 : Int32) h) : Int32) h) + (1 : Int32))]) (st := []) dX12_rob_51 kX12_comesAt (sX12_comesAt (d := d - 1) (by omega) hsH6 z7) (by omega) rfl (Nat.le_of_ble_eq_true rfl) ew_1762 ew_1764 ew_52 (ci := 12) rfl (by decide) (hsH6.1 0 (by decide)).1 (hsH6.1 0 (by decide)).2.1 ?_
              refine ea_aload_n (pc := 54) dX12_rob_54 rfl 0 rfl ?_
              refine ea_getI (pc := 55) dX12_rob_55 ec_12 (k := 0) (Nat.le_of_ble_eq_true rfl) rfl (Or.inl ew_1345) (hsH6.1 0 (by decide)).1 (hsH6.1 0 (by decide)).2.1 ?_
              refine ea_icmp_gt (pc := 58) (tgt := 63) dX12_rob_58 rfl (fun c17 => ?_) (fun c17 => ?_)
              · have E := (if_pos c17).symm.trans E
                refine ea_aload_n (pc := 63) dX12_rob_63 rfl 0 rfl ?_
                refine ea_getI (pc := 64) dX12_rob_64 ec_12 (k := 100) (Nat.le_of_ble_eq_true rfl) rfl (Or.inl ew_1445) (hsH6.1 0 (by decide)).1 (hsH6.1 0 (by decide)).2.1 ?_
                refine ea_istore (pc := 67) (lv' := [(0, vR (some (b0 + 0))), (3, vI (vX12_run (x1 : Int32) (x2 : Int32) h)), (5, vI (ea_i H6 (b0 + 0) 100))]) dX12_rob_67 (Nat.le_of_ble_eq_true rfl) [1, 2, 0] rfl ?_
                refine ea_aload_n (pc := 69) dX12_rob_69 rfl 0 rfl ?_
                refine ea_dup (pc := 70) dX12_rob_70 rfl ?_
                refine ea_getI (pc := 71) dX12_rob_71 ec_12 (k := 100) (Nat.le_of_ble_eq_true rfl) rfl (Or.inl ew_1445) (hsH6.1 0 (by decide)).1 (hsH6.1 0 (by decide)).2.1 ?_
                refine ea_iconst (pc := 74) dX12_rob_74 (v := 1) rfl ?_
                refine ea_iadd (pc := 75) dX12_rob_75 ?_
                refine ea_putI (pc := 76) dX12_rob_76 ec_12 (k := 100) (Nat.le_of_ble_eq_true rfl) rfl (Or.inl ⟨rfl, Or.inl ew_1445⟩) rfl rfl (hsH6.1 0 (by decide)).1 (hsH6.1 0 (by decide)).2.1 ?_
                have hs8 : ShM b0 (ea_wi H6 (b0 + 0) 100 ((ea_i H6 (b0 + 0) 100) + (1 : Int32))) := ShM_wi hsH6
                obtain ⟨H9, eH9, E⟩ := let_some E
                refine ea_nm eH9 ?_
                have hsH9 : ShM b0 H9 := by rw [eH9]; exact hs8
                refine ea_aload_n (pc := 79) dX12_rob_79 rfl 0 rfl ?_
                refine ea_getR (pc := 80) dX12_rob_80 ec_12 (k := 101) (Nat.le_of_ble_eq_true rfl) rfl (Or.inl ew_1446) (hsH9.1 0 (by decide)).1 (hsH9.1 0 (by decide)).2.1 (hsH9.2 0 101 rfl) ?_
                refine ea_iload (pc := 83) dX12_rob_83 2 rfl ?_
                refine ea_iload_n (pc := 85) dX12_rob_85 rfl 1 rfl ?_
                refine ea_callS (pc := 86) (d' := d - 1) (As := [vI (vX12_run (x1 : Int32) (x2 : Int32) h)]) (st := [vI (ea_i H6 (b0 + 0) 100), vR (some (b0 + 73))]) dX12_rob_86 kX12_code (sX12_code (d := d - 1) (by omega)) (by omega) rfl (Nat.le_of_ble_eq_true rfl) ew_2071 ew_2072 ?_
                obtain ⟨z11, E⟩ := gd_some E
                refine ea_iast (pc := 89) dX12_rob_89 (hsH9.1 73 (by decide)).1 (hsH9.1 73 (by decide)).2.1 (ea_vpl (hsH9.1 73 (by decide)).2.2 z11) ?_
                have hs12 : ShM b0 (ea_wi H9 (b0 + 73) (Int32.toNatClampNeg (ea_i H6 (b0 + 0) 100)) (vX12_code ((vX12_run (x1 : Int32) (x2 : Int32) h) : Int32) H9)) := ShM_wi hsH9
                obtain ⟨H13, eH13, E⟩ := let_some E
                refine ea_nm eH13 ?_
                have hsH13 : ShM b0 H13 := by rw [eH13]; exact hs12
                refine ea_aload_n (pc := 90) dX12_rob_90 rfl 0 rfl ?_
                refine ea_getR (pc := 91) dX12_rob_91 ec_12 (k := 102) (Nat.le_of_ble_eq_true rfl) rfl (Or.inl ew_1447) (hsH13.1 0 (by decide)).1 (hsH13.1 0 (by decide)).2.1 (hsH13.2 0 102 rfl) ?_
                refine ea_iload (pc := 94) dX12_rob_94 2 rfl ?_
                refine ea_aload_n (pc := 96) dX12_rob_96 rfl 0 rfl ?_
                refine ea_getI (pc := 97) dX12_rob_97 ec_12 (k := 0) (Nat.le_of_ble_eq_true rfl) rfl (Or.inl ew_1345) (hsH13.1 0 (by decide)).1 (hsH13.1 0 (by decide)).2.1 ?_
                obtain ⟨z14, E⟩ := gd_some E
                refine ea_iast (pc := 100) dX12_rob_100 (hsH13.1 74 (by decide)).1 (hsH13.1 74 (by decide)).2.1 (ea_vpl (hsH13.1 74 (by decide)).2.2 z14) ?_
                have hs15 : ShM b0 (ea_wi H13 (b0 + 74) (Int32.toNatClampNeg (ea_i H6 (b0 + 0) 100)) (ea_i H13 (b0 + 0) 0)) := ShM_wi hsH13
                obtain ⟨H16, eH16, E⟩ := let_some E
                refine ea_nm eH16 ?_
                have hsH16 : ShM b0 H16 := by rw [eH16]; exact hs15
                refine ea_iconst (pc := 101) dX12_rob_101 (v := 0) rfl ?_
                refine ea_istore (pc := 102) (lv' := [(0, vR (some (b0 + 0))), (3, vI (vX12_run (x1 : Int32) (x2 : Int32) h)), (5, vI (ea_i H6 (b0 + 0) 100)), (6, vI 0)]) dX12_rob_102 (Nat.le_of_ble_eq_true rfl) [1, 2, 3, 0] rfl ?_
                exact ((ih 104 0 0 ((vX12_run (x1 : Int32) (x2 : Int32) h) : Int32) ((ea_i H6 (b0 + 0) 100) : Int32) (0 : Int32) H16 _ _ E hsH16).2 rfl)
              · have E := (if_neg c17).symm.trans E
                refine ea_iconst (pc := 61) dX12_rob_61 (v := (-1)) rfl ?_
                exact ea_iretO (pc := 62) dX12_rob_62 rfl rfl E
          · have E := (if_pos c19).symm.trans E
            refine ea_iconst (pc := 24) dX12_rob_24 (v := (-1)) rfl ?_
            exact ea_iretO (pc := 25) dX12_rob_25 rfl rfl E
    intro el
    subst el
    have E := (if_neg (by decide)).symm.trans E
    have E := (if_pos rfl).symm.trans E
    refine ea_iload (pc := 104) dX12_rob_104 3 rfl ?_
    refine ea_aload_n (pc := 106) dX12_rob_106 rfl 0 rfl ?_
    refine ea_getI (pc := 107) dX12_rob_107 ec_12 (k := 63) (Nat.le_of_ble_eq_true rfl) rfl (Or.inl ew_1408) (hs.1 0 (by decide)).1 (hs.1 0 (by decide)).2.1 ?_
    refine ea_icmp_ge (pc := 110) (tgt := 204) dX12_rob_110 rfl (fun c43 => ?_) (fun c43 => ?_)
    · have E := (if_pos c43).symm.trans E
      refine ea_iload (pc := 204) dX12_rob_204 2 rfl ?_
      exact ea_iretO (pc := 206) dX12_rob_206 rfl rfl E
    · have E := (if_neg c43).symm.trans E
      refine ea_aload_n (pc := 113) dX12_rob_113 rfl 0 rfl ?_
      refine ea_iload (pc := 114) dX12_rob_114 3 rfl ?_
      refine ea_iload_n (pc := 116) dX12_rob_116 rfl 1 rfl ?_
      obtain ⟨z22, E⟩ := gd_some E
      refine ea_callV (pc := 117) (d' := d - 1) (As := [vI x6, vI x3]) (st := []) dX12_rob_117 kX12_isAboard (sX12_isAboard (d := d - 1) (by omega) hs z22) (by omega) rfl (Nat.le_of_ble_eq_true rfl) ew_2067 ew_2069 ew_95 (ci := 12) rfl (by decide) (hs.1 0 (by decide)).1 (hs.1 0 (by decide)).2.1 ?_
      refine ea_if_eq (pc := 120) (tgt := 198) dX12_rob_120 rfl (fun c42 => ?_) (fun c42 => ?_)
      · have E := (if_pos c42).symm.trans E
        refine ea_iinc (pc := 198) (v := 1) (lv' := [(0, vR (some (b0 + 0))), (3, vI x3), (5, vI x5), (6, vI (x6 + (1 : Int32)))]) dX12_rob_198 3 rfl rfl (Nat.le_of_ble_eq_true rfl) [1, 2, 3, 0] rfl ?_
        refine ea_goto (pc := 201) (tgt := 104) dX12_rob_201 rfl ?_
        exact ((ih 104 0 0 (x3 : Int32) (x5 : Int32) ((x6 + (1 : Int32)) : Int32) h _ _ E hs).2 rfl)
      · have E := (if_neg c42).symm.trans E
        refine ea_aload_n (pc := 123) dX12_rob_123 rfl 0 rfl ?_
        refine ea_getR (pc := 124) dX12_rob_124 ec_12 (k := 87) (Nat.le_of_ble_eq_true rfl) rfl (Or.inl ew_1432) (hs.1 0 (by decide)).1 (hs.1 0 (by decide)).2.1 (hs.2 0 87 rfl) ?_
        refine ea_iload (pc := 127) dX12_rob_127 3 rfl ?_
        obtain ⟨z23, E⟩ := gd_some E
        refine ea_zald (pc := 129) dX12_rob_129 (hs.1 61 (by decide)).1 (hs.1 61 (by decide)).2.1 (ea_vpl (hs.1 61 (by decide)).2.2 z23) ?_
        refine ea_if_ne (pc := 130) (tgt := 136) dX12_rob_130 rfl (fun c41 => ?_) (fun c41 => ?_)
        · have E := (if_neg c41).symm.trans E
          refine ea_aload_n (pc := 136) dX12_rob_136 rfl 0 rfl ?_
          refine ea_getR (pc := 137) dX12_rob_137 ec_12 (k := 105) (Nat.le_of_ble_eq_true rfl) rfl (Or.inl ew_1450) (hs.1 0 (by decide)).1 (hs.1 0 (by decide)).2.1 (hs.2 0 105 rfl) ?_
          refine ea_bipush (pc := 140) dX12_rob_140 (v := 120) rfl ?_
          refine ea_iload (pc := 142) dX12_rob_142 2 rfl ?_
          refine ea_imul (pc := 144) dX12_rob_144 ?_
          refine ea_aload_n (pc := 145) dX12_rob_145 rfl 0 rfl ?_
          refine ea_getR (pc := 146) dX12_rob_146 ec_12 (k := 103) (Nat.le_of_ble_eq_true rfl) rfl (Or.inl ew_1448) (hs.1 0 (by decide)).1 (hs.1 0 (by decide)).2.1 (hs.2 0 103 rfl) ?_
          refine ea_iload (pc := 149) dX12_rob_149 2 rfl ?_
          obtain ⟨z24, E⟩ := gd_some E
          refine ea_iald (pc := 151) dX12_rob_151 (hs.1 75 (by decide)).1 (hs.1 75 (by decide)).2.1 (ea_vpl (hs.1 75 (by decide)).2.2 z24) ?_
          refine ea_iadd (pc := 152) dX12_rob_152 ?_
          refine ea_iload (pc := 153) dX12_rob_153 3 rfl ?_
          obtain ⟨z25, E⟩ := gd_some E
          refine ea_iast (pc := 155) dX12_rob_155 (hs.1 77 (by decide)).1 (hs.1 77 (by decide)).2.1 (ea_vpl (hs.1 77 (by decide)).2.2 z25) ?_
          have hs26 : ShM b0 (ea_wi h (b0 + 77) (Int32.toNatClampNeg (((120 : Int32) * x5) + (ea_i h (b0 + 75) (Int32.toNatClampNeg x5)))) x6) := ShM_wi hs
          obtain ⟨H27, eH27, E⟩ := let_some E
          refine ea_nm eH27 ?_
          have hsH27 : ShM b0 H27 := by rw [eH27]; exact hs26
          refine ea_aload_n (pc := 156) dX12_rob_156 rfl 0 rfl ?_
          refine ea_getR (pc := 157) dX12_rob_157 ec_12 (k := 103) (Nat.le_of_ble_eq_true rfl) rfl (Or.inl ew_1448) (hsH27.1 0 (by decide)).1 (hsH27.1 0 (by decide)).2.1 (hsH27.2 0 103 rfl) ?_
          refine ea_iload (pc := 160) dX12_rob_160 2 rfl ?_
          refine ea_dup2 (pc := 162) dX12_rob_162 rfl rfl ?_
          obtain ⟨z28, E⟩ := gd_some E
          refine ea_iald (pc := 163) dX12_rob_163 (hsH27.1 75 (by decide)).1 (hsH27.1 75 (by decide)).2.1 (ea_vpl (hsH27.1 75 (by decide)).2.2 z28) ?_
          refine ea_iconst (pc := 164) dX12_rob_164 (v := 1) rfl ?_
          refine ea_iadd (pc := 165) dX12_rob_165 ?_
          obtain ⟨z29, E⟩ := gd_some E
          refine ea_iast (pc := 166) dX12_rob_166 (hsH27.1 75 (by decide)).1 (hsH27.1 75 (by decide)).2.1 (ea_vpl (hsH27.1 75 (by decide)).2.2 z29) ?_
          have hs30 : ShM b0 (ea_wi H27 (b0 + 75) (Int32.toNatClampNeg x5) ((ea_i H27 (b0 + 75) (Int32.toNatClampNeg x5)) + (1 : Int32))) := ShM_wi hsH27
          obtain ⟨H31, eH31, E⟩ := let_some E
          refine ea_nm eH31 ?_
          have hsH31 : ShM b0 H31 := by rw [eH31]; exact hs30
          refine ea_aload_n (pc := 167) dX12_rob_167 rfl 0 rfl ?_
          refine ea_getR (pc := 168) dX12_rob_168 ec_12 (k := 104) (Nat.le_of_ble_eq_true rfl) rfl (Or.inl ew_1449) (hsH31.1 0 (by decide)).1 (hsH31.1 0 (by decide)).2.1 (hsH31.2 0 104 rfl) ?_
          refine ea_iload (pc := 171) dX12_rob_171 2 rfl ?_
          refine ea_dup2 (pc := 173) dX12_rob_173 rfl rfl ?_
          obtain ⟨z32, E⟩ := gd_some E
          refine ea_iald (pc := 174) dX12_rob_174 (hsH31.1 76 (by decide)).1 (hsH31.1 76 (by decide)).2.1 (ea_vpl (hsH31.1 76 (by decide)).2.2 z32) ?_
          refine ea_aload_n (pc := 175) dX12_rob_175 rfl 0 rfl ?_
          refine ea_iload (pc := 176) dX12_rob_176 3 rfl ?_
          obtain ⟨z33, E⟩ := gd_some E
          refine ea_callV (pc := 178) (d' := d - 1) (As := [vI x6]) (st := [vI (ea_i H31 (b0 + 76) (Int32.toNatClampNeg x5)), vI x5, vR (some (b0 + 76))]) dX12_rob_178 kX12_owed (sX12_owed (d := d - 1) (by omega) hsH31 z33) (by omega) rfl (Nat.le_of_ble_eq_true rfl) ew_2027 ew_2029 ew_90 (ci := 12) rfl (by decide) (hsH31.1 0 (by decide)).1 (hsH31.1 0 (by decide)).2.1 ?_
          refine ea_iadd (pc := 181) dX12_rob_181 ?_
          obtain ⟨z34, E⟩ := gd_some E
          refine ea_iast (pc := 182) dX12_rob_182 (hsH31.1 76 (by decide)).1 (hsH31.1 76 (by decide)).2.1 (ea_vpl (hsH31.1 76 (by decide)).2.2 z34) ?_
          have hs35 : ShM b0 (ea_wi H31 (b0 + 76) (Int32.toNatClampNeg x5) ((ea_i H31 (b0 + 76) (Int32.toNatClampNeg x5)) + (vX12_owed b0 (x6 : Int32) H31))) := ShM_wi hsH31
          obtain ⟨H36, eH36, E⟩ := let_some E
          refine ea_nm eH36 ?_
          have hsH36 : ShM b0 H36 := by rw [eH36]; exact hs35
          refine ea_aload_n (pc := 183) dX12_rob_183 rfl 0 rfl ?_
          refine ea_iload (pc := 184) dX12_rob_184 3 rfl ?_
          refine ea_aload_n (pc := 186) dX12_rob_186 rfl 0 rfl ?_
          refine ea_getI (pc := 187) dX12_rob_187 ec_12 (k := 0) (Nat.le_of_ble_eq_true rfl) rfl (Or.inl ew_1345) (hsH36.1 0 (by decide)).1 (hsH36.1 0 (by decide)).2.1 ?_
          refine ea_iconst (pc := 190) dX12_rob_190 (v := 4) rfl ?_
          refine ea_iload_n (pc := 191) dX12_rob_191 rfl 1 rfl ?_
          refine ea_callS (pc := 192) (d' := d - 1) (As := [vI x3]) (st := [vI 4, vI (ea_i H36 (b0 + 0) 0), vI x6, vR (some (b0 + 0))]) dX12_rob_192 kX12_code (sX12_code (d := d - 1) (by omega)) (by omega) rfl (Nat.le_of_ble_eq_true rfl) ew_2071 ew_2072 ?_
          obtain ⟨z38, E⟩ := gd_some E
          refine ea_callV (pc := 195) (d' := d - 1) (As := [vI x6, vI (ea_i H36 (b0 + 0) 0), vI 4, vI (vX12_code (x3 : Int32) H36)]) (st := []) dX12_rob_195 kX12_turns (sX12_turns (d := d - 1) (by omega) hsH36 z38) (by omega) rfl (Nat.le_of_ble_eq_true rfl) ew_2011 ew_2013 ew_88 (ci := 12) rfl (by decide) (hsH36.1 0 (by decide)).1 (hsH36.1 0 (by decide)).2.1 ?_
          have hs39 : ShM b0 (wX12_turns b0 (x6 : Int32) ((ea_i H36 (b0 + 0) 0) : Int32) (4 : Int32) ((vX12_code (x3 : Int32) H36) : Int32) H36) := shX12_turns hsH36
          obtain ⟨H40, eH40, E⟩ := let_some E
          refine ea_nm eH40 ?_
          have hsH40 : ShM b0 H40 := by rw [eH40]; exact hs39
          refine ea_iinc (pc := 198) (v := 1) (lv' := [(0, vR (some (b0 + 0))), (3, vI x3), (5, vI x5), (6, vI (x6 + (1 : Int32)))]) dX12_rob_198 3 rfl rfl (Nat.le_of_ble_eq_true rfl) [1, 2, 3, 0] rfl ?_
          refine ea_goto (pc := 201) (tgt := 104) dX12_rob_201 rfl ?_
          exact ((ih 104 0 0 (x3 : Int32) (x5 : Int32) ((x6 + (1 : Int32)) : Int32) H40 _ _ E hsH40).2 rfl)
        · have E := (if_pos c41).symm.trans E
          refine ea_goto (pc := 133) (tgt := 198) dX12_rob_133 rfl ?_
          refine ea_iinc (pc := 198) (v := 1) (lv' := [(0, vR (some (b0 + 0))), (3, vI x3), (5, vI x5), (6, vI (x6 + (1 : Int32)))]) dX12_rob_198 3 rfl rfl (Nat.le_of_ble_eq_true rfl) [1, 2, 3, 0] rfl ?_
          refine ea_goto (pc := 201) (tgt := 104) dX12_rob_201 rfl ?_
          exact ((ih 104 0 0 (x3 : Int32) (x5 : Int32) ((x6 + (1 : Int32)) : Int32) h _ _ E hs).2 rfl)
noncomputable def qX12_rob (b0 : Nat) (x1 : Int32) (x2 : Int32) (h : ea_H) : Option (Int32 × ea_H) := gX12_rob b0 1000000000 0 x1 x2 0 0 0 h
def okX12_rob (b0 : Nat) (x1 : Int32) (x2 : Int32) (h : ea_H) : Prop := ∃ x, qX12_rob b0 x1 x2 h = some x
noncomputable def vX12_rob (b0 : Nat) (x1 : Int32) (x2 : Int32) (h : ea_H) : Int32 := ((qX12_rob b0 x1 x2 h).getD (0, h)).1
noncomputable def wX12_rob (b0 : Nat) (x1 : Int32) (x2 : Int32) (h : ea_H) : ea_H := ((qX12_rob b0 x1 x2 h).getD (0, h)).2
theorem sX12_rob {d : Nat} {b0 : Nat} {x1 : Int32} {x2 : Int32} {h : ea_H} (hd : 3 ≤ d) (hs : ShM b0 h) (K : okX12_rob b0 x1 x2 h) : ea_Met mX12_rob d [vR (some (b0 + 0)), vI x1, vI x2] h (some (vI (vX12_rob b0 x1 x2 h))) (wX12_rob b0 x1 x2 h) := by
  obtain ⟨⟨x, y⟩, K⟩ := K
  unfold wX12_rob vX12_rob
  rw [K]
  unfold qX12_rob at K
  exact ea_enter rfl (Nat.le_of_ble_eq_true rfl) ((tX12_rob hd 1000000000 0 x1 x2 0 0 0 h x y K hs).1 rfl)
theorem zX12_rob {b0 : Nat} : ∀ (f lbl : Nat) (x1 : Int32) (x2 : Int32) (x3 : Int32) (x5 : Int32) (x6 : Int32) (h : ea_H) (r : Int32) (h' : ea_H), gX12_rob b0 f lbl x1 x2 x3 x5 x6 h = some (r, h') → ShM b0 h → ShM b0 h' := by
  intro f
  induction f with
  | zero => intro lbl x1 x2 x3 x5 x6 h r h' E; cases E
  | succ f ih =>
    intro lbl x1 x2 x3 x5 x6 h r h' E hs
    unfold gX12_rob at E
    by_cases el0 : lbl = 0
    · have E := (if_pos el0).symm.trans E
      by_cases c21 : (vX12_isTrain b0 (x1 : Int32) h) = (0 : Int32)
      · have E := (if_pos c21).symm.trans E
        exact ea_shO E hs
      have E := (if_neg c21).symm.trans E
      by_cases c20 : (vX12_isDay (x2 : Int32) h) = (0 : Int32)
      · have E := (if_pos c20).symm.trans E
        exact ea_shO E hs
      have E := (if_neg c20).symm.trans E
      by_cases c19 : (ea_i h (b0 + 0) 100) = (20 : Int32)
      · have E := (if_pos c19).symm.trans E
        exact ea_shO E hs
      have E := (if_neg c19).symm.trans E
      obtain ⟨z4, E⟩ := gd_some E
      obtain ⟨H6, eH6, E⟩ := let_some E
      have hsH6 : ShM b0 H6 := by rw [eH6]; exact (shX12_gone hs)
      by_cases c18 : (vX12_gone b0 ((vX12_run (x1 : Int32) (x2 : Int32) h) : Int32) h) = ((-1) : Int32)
      · have E := (if_pos c18).symm.trans E
        exact ea_shO E hsH6
      have E := (if_neg c18).symm.trans E
      obtain ⟨z7, E⟩ := gd_some E
      by_cases c17 : (ea_i H6 (b0 + 0) 0) < (vX12_comesAt b0 ((vX12_run (x1 : Int32) (x2 : Int32) h) : Int32) (((vX12_gone b0 ((vX12_run (x1 : Int32) (x2 : Int32) h) : Int32) h) + (1 : Int32)) : Int32) H6)
      · have E := (if_pos c17).symm.trans E
        obtain ⟨H9, eH9, E⟩ := let_some E
        have hsH9 : ShM b0 H9 := by rw [eH9]; exact (ShM_wi hsH6)
        obtain ⟨z11, E⟩ := gd_some E
        obtain ⟨H13, eH13, E⟩ := let_some E
        have hsH13 : ShM b0 H13 := by rw [eH13]; exact (ShM_wi hsH9)
        obtain ⟨z14, E⟩ := gd_some E
        obtain ⟨H16, eH16, E⟩ := let_some E
        have hsH16 : ShM b0 H16 := by rw [eH16]; exact (ShM_wi hsH13)
        exact ih 104 0 0 ((vX12_run (x1 : Int32) (x2 : Int32) h) : Int32) ((ea_i H6 (b0 + 0) 100) : Int32) (0 : Int32) H16 _ _ E hsH16
      have E := (if_neg c17).symm.trans E
      exact ea_shO E hsH6
    have E := (if_neg el0).symm.trans E
    by_cases el1 : lbl = 104
    · have E := (if_pos el1).symm.trans E
      by_cases c43 : (ea_i h (b0 + 0) 63) ≤ x6
      · have E := (if_pos c43).symm.trans E
        exact ea_shO E hs
      have E := (if_neg c43).symm.trans E
      obtain ⟨z22, E⟩ := gd_some E
      by_cases c42 : (vX12_isAboard b0 (x6 : Int32) (x3 : Int32) h) = (0 : Int32)
      · have E := (if_pos c42).symm.trans E
        exact ih 104 0 0 (x3 : Int32) (x5 : Int32) ((x6 + (1 : Int32)) : Int32) h _ _ E hs
      have E := (if_neg c42).symm.trans E
      obtain ⟨z23, E⟩ := gd_some E
      by_cases c41 : (ea_i h (b0 + 61) (Int32.toNatClampNeg x6)) = (0 : Int32)
      · have E := (if_pos c41).symm.trans E
        exact ih 104 0 0 (x3 : Int32) (x5 : Int32) ((x6 + (1 : Int32)) : Int32) h _ _ E hs
      have E := (if_neg c41).symm.trans E
      obtain ⟨z24, E⟩ := gd_some E
      obtain ⟨z25, E⟩ := gd_some E
      obtain ⟨H27, eH27, E⟩ := let_some E
      have hsH27 : ShM b0 H27 := by rw [eH27]; exact (ShM_wi hs)
      obtain ⟨z28, E⟩ := gd_some E
      obtain ⟨z29, E⟩ := gd_some E
      obtain ⟨H31, eH31, E⟩ := let_some E
      have hsH31 : ShM b0 H31 := by rw [eH31]; exact (ShM_wi hsH27)
      obtain ⟨z32, E⟩ := gd_some E
      obtain ⟨z33, E⟩ := gd_some E
      obtain ⟨z34, E⟩ := gd_some E
      obtain ⟨H36, eH36, E⟩ := let_some E
      have hsH36 : ShM b0 H36 := by rw [eH36]; exact (ShM_wi hsH31)
      obtain ⟨z38, E⟩ := gd_some E
      obtain ⟨H40, eH40, E⟩ := let_some E
      have hsH40 : ShM b0 H40 := by rw [eH40]; exact (shX12_turns hsH36)
      exact ih 104 0 0 (x3 : Int32) (x5 : Int32) ((x6 + (1 : Int32)) : Int32) H40 _ _ E hsH40
    have E := (if_neg el1).symm.trans E
    cases E
theorem shX12_rob {b0 : Nat} {x1 : Int32} {x2 : Int32} {h : ea_H} (hs : ShM b0 h) : ShM b0 (wX12_rob b0 x1 x2 h) := by
  unfold wX12_rob
  cases K : qX12_rob b0 x1 x2 h with
  | none => exact hs
  | some x => obtain ⟨x, y⟩ := x; unfold qX12_rob at K; exact zX12_rob _ _ _ _ _ _ _ _ _ _ K hs
noncomputable def gX12_seen (b0 : Nat) : Nat → Nat → Int32 → Int32 → Int32 → Int32 → Int32 → Int32 → ea_H → Option (Int32 × ea_H)
  | 0, _, _, _, _, _, _, _, _ => none
  | f + 1, lbl, sx0, x1, x2, x3, x4, x5, h =>
    if lbl = 0 then (if (vX12_isTrain b0 (x1 : Int32) h) = (0 : Int32) then (some ((0 : Int32), h)) else (if (vX12_isMinute (x2 : Int32) h) = (0 : Int32) then (some ((0 : Int32), h)) else (gd (vp_in x1 10) (gd (vp_in x1 10) (gd (vp_in x1 10) (gX12_seen b0 f 44 0 (x1 : Int32) (x2 : Int32) (((ea_i h (b0 + 79) (Int32.toNatClampNeg x1)) + (1 : Int32)) : Int32) (((ea_i h (b0 + 78) (Int32.toNatClampNeg x1)) - (1 : Int32)) : Int32) ((ea_i h (b0 + 78) (Int32.toNatClampNeg x1)) : Int32) h)))))) else
    if lbl = 44 then (gd (vp_in x1 10) (if (ea_i h (b0 + 79) (Int32.toNatClampNeg x1)) < x5 then (if x3 ≤ x4 then (gd (vp_in x1 10) (ea_let (ea_wi h (b0 + 78) (Int32.toNatClampNeg x1) x3) fun H11 => (gd (vp_in x1 10) (ea_let (ea_wi H11 (b0 + 79) (Int32.toNatClampNeg x1) x4) fun H14 => (some ((1 : Int32), H14)))))) else (some ((0 : Int32), h))) else (gd ((okX12_shows b0 (x1 : Int32) (x5 : Int32) ((ea_i h (b0 + 0) 0) : Int32) h)) (if (vX12_shows b0 (x1 : Int32) (x5 : Int32) ((ea_i h (b0 + 0) 0) : Int32) h) = x2 then (if x3 ≤ x5 then (gX12_seen b0 f 85 (x3 : Int32) (x1 : Int32) (x2 : Int32) 0 (x4 : Int32) (x5 : Int32) h) else (gX12_seen b0 f 85 (x5 : Int32) (x1 : Int32) (x2 : Int32) 0 (x4 : Int32) (x5 : Int32) h)) else (gX12_seen b0 f 44 0 (x1 : Int32) (x2 : Int32) (x3 : Int32) (x4 : Int32) ((x5 + (1 : Int32)) : Int32) h))))) else
    if lbl = 85 then (if x5 ≤ x4 then (gX12_seen b0 f 44 0 (x1 : Int32) (x2 : Int32) (sx0 : Int32) (x4 : Int32) ((x5 + (1 : Int32)) : Int32) h) else (gX12_seen b0 f 44 0 (x1 : Int32) (x2 : Int32) (sx0 : Int32) (x5 : Int32) ((x5 + (1 : Int32)) : Int32) h)) else none
theorem tX12_seen {d : Nat} {b0 : Nat} {h0 : ea_H} (hd : 3 ≤ d) : ∀ (f lbl : Nat) (sx0 : Int32) (x1 : Int32) (x2 : Int32) (x3 : Int32) (x4 : Int32) (x5 : Int32) (h : ea_H) (r : Int32) (h' : ea_H), gX12_seen b0 f lbl sx0 x1 x2 x3 x4 x5 h = some (r, h') → ShM b0 h → (lbl = 0 → ea_W mX12_seen d h0 (some (vI r)) h' 0 [(0, vR (some (b0 + 0))), (1, vI x1), (2, vI x2)] [] h) ∧ (lbl = 44 → ea_W mX12_seen d h0 (some (vI r)) h' 44 [(0, vR (some (b0 + 0))), (1, vI x1), (2, vI x2), (3, vI x3), (4, vI x4), (5, vI x5)] [] h) ∧ (lbl = 85 → ea_W mX12_seen d h0 (some (vI r)) h' 85 [(0, vR (some (b0 + 0))), (1, vI x1), (2, vI x2), (4, vI x4), (5, vI x5)] [vI sx0] h) := by
  intro f
  induction f with
  | zero => intro lbl sx0 x1 x2 x3 x4 x5 h r h' E; cases E
  | succ f ih =>
    intro lbl sx0 x1 x2 x3 x4 x5 h r h' E hs
    unfold gX12_seen at E
    refine ⟨?_, ?_⟩
    · intro el
      subst el
      have E := (if_pos rfl).symm.trans E
      refine ea_aload_n (pc := 0) dX12_seen_0 rfl 0 rfl ?_
      refine ea_iload_n (pc := 1) dX12_seen_1 rfl 1 rfl ?_
      refine ea_callV (pc := 2) (d' := d - 1) (As := [vI x1]) (st := []) dX12_seen_2 kX12_isTrain (sX12_isTrain (d := d - 1) (by omega) hs) (by omega) rfl (Nat.le_of_ble_eq_true rfl) ew_1736 ew_1738 ew_50 (ci := 12) rfl (by decide) (hs.1 0 (by decide)).1 (hs.1 0 (by decide)).2.1 ?_
      refine ea_if_eq (pc := 5) (tgt := 15) dX12_seen_5 rfl (fun c7 => ?_) (fun c7 => ?_)
      · have E := (if_pos c7).symm.trans E
        refine ea_iconst (pc := 15) dX12_seen_15 (v := 0) rfl ?_
        exact ea_iretO (pc := 16) dX12_seen_16 rfl (ea_bn (Or.inl rfl)) E
      · have E := (if_neg c7).symm.trans E
        refine ea_iload_n (pc := 8) dX12_seen_8 rfl 2 rfl ?_
        refine ea_callS (pc := 9) (d' := d - 1) (As := [vI x2]) (st := []) dX12_seen_9 kX12_isMinute (sX12_isMinute (d := d - 1) (by omega)) (by omega) rfl (Nat.le_of_ble_eq_true rfl) ew_2147 ew_2148 ?_
        refine ea_if_ne (pc := 12) (tgt := 17) dX12_seen_12 rfl (fun c6 => ?_) (fun c6 => ?_)
        · have E := (if_neg c6).symm.trans E
          refine ea_aload_n (pc := 17) dX12_seen_17 rfl 0 rfl ?_
          refine ea_getR (pc := 18) dX12_seen_18 ec_12 (k := 107) (Nat.le_of_ble_eq_true rfl) rfl (Or.inl ew_1452) (hs.1 0 (by decide)).1 (hs.1 0 (by decide)).2.1 (hs.2 0 107 rfl) ?_
          refine ea_iload_n (pc := 21) dX12_seen_21 rfl 1 rfl ?_
          obtain ⟨z3, E⟩ := gd_some E
          refine ea_iald (pc := 22) dX12_seen_22 (hs.1 79 (by decide)).1 (hs.1 79 (by decide)).2.1 (ea_vpl (hs.1 79 (by decide)).2.2 z3) ?_
          refine ea_iconst (pc := 23) dX12_seen_23 (v := 1) rfl ?_
          refine ea_iadd (pc := 24) dX12_seen_24 ?_
          refine ea_istore_n (pc := 25) (lv' := [(0, vR (some (b0 + 0))), (1, vI x1), (2, vI x2), (3, vI ((ea_i h (b0 + 79) (Int32.toNatClampNeg x1)) + (1 : Int32)))]) dX12_seen_25 rfl (Nat.le_of_ble_eq_true rfl) [1, 2, 3, 0] rfl ?_
          refine ea_aload_n (pc := 26) dX12_seen_26 rfl 0 rfl ?_
          refine ea_getR (pc := 27) dX12_seen_27 ec_12 (k := 106) (Nat.le_of_ble_eq_true rfl) rfl (Or.inl ew_1451) (hs.1 0 (by decide)).1 (hs.1 0 (by decide)).2.1 (hs.2 0 106 rfl) ?_
          refine ea_iload_n (pc := 30) dX12_seen_30 rfl 1 rfl ?_
          obtain ⟨z4, E⟩ := gd_some E
          refine ea_iald (pc := 31) dX12_seen_31 (hs.1 78 (by decide)).1 (hs.1 78 (by decide)).2.1 (ea_vpl (hs.1 78 (by decide)).2.2 z4) ?_
          refine ea_iconst (pc := 32) dX12_seen_32 (v := 1) rfl ?_
          refine ea_isub (pc := 33) dX12_seen_33 ?_
          refine ea_istore (pc := 34) (lv' := [(0, vR (some (b0 + 0))), (1, vI x1), (2, vI x2), (3, vI ((ea_i h (b0 + 79) (Int32.toNatClampNeg x1)) + (1 : Int32))), (4, vI ((ea_i h (b0 + 78) (Int32.toNatClampNeg x1)) - (1 : Int32)))]) dX12_seen_34 (Nat.le_of_ble_eq_true rfl) [1, 2, 3, 4, 0] rfl ?_
          refine ea_aload_n (pc := 36) dX12_seen_36 rfl 0 rfl ?_
          refine ea_getR (pc := 37) dX12_seen_37 ec_12 (k := 106) (Nat.le_of_ble_eq_true rfl) rfl (Or.inl ew_1451) (hs.1 0 (by decide)).1 (hs.1 0 (by decide)).2.1 (hs.2 0 106 rfl) ?_
          refine ea_iload_n (pc := 40) dX12_seen_40 rfl 1 rfl ?_
          obtain ⟨z5, E⟩ := gd_some E
          refine ea_iald (pc := 41) dX12_seen_41 (hs.1 78 (by decide)).1 (hs.1 78 (by decide)).2.1 (ea_vpl (hs.1 78 (by decide)).2.2 z5) ?_
          refine ea_istore (pc := 42) (lv' := [(0, vR (some (b0 + 0))), (1, vI x1), (2, vI x2), (3, vI ((ea_i h (b0 + 79) (Int32.toNatClampNeg x1)) + (1 : Int32))), (4, vI ((ea_i h (b0 + 78) (Int32.toNatClampNeg x1)) - (1 : Int32))), (5, vI (ea_i h (b0 + 78) (Int32.toNatClampNeg x1)))]) dX12_seen_42 (Nat.le_of_ble_eq_true rfl) [1, 2, 3, 4, 5, 0] rfl ?_
          exact ((ih 44 0 (x1 : Int32) (x2 : Int32) (((ea_i h (b0 + 79) (Int32.toNatClampNeg x1)) + (1 : Int32)) : Int32) (((ea_i h (b0 + 78) (Int32.toNatClampNeg x1)) - (1 : Int32)) : Int32) ((ea_i h (b0 + 78) (Int32.toNatClampNeg x1)) : Int32) h _ _ E hs).2.1 rfl)
        · have E := (if_pos c6).symm.trans E
          refine ea_iconst (pc := 15) dX12_seen_15 (v := 0) rfl ?_
          exact ea_iretO (pc := 16) dX12_seen_16 rfl (ea_bn (Or.inl rfl)) E
    refine ⟨?_, ?_⟩
    · intro el
      subst el
      have E := (if_neg (by decide)).symm.trans E
      have E := (if_pos rfl).symm.trans E
      refine ea_iload (pc := 44) dX12_seen_44 5 rfl ?_
      refine ea_aload_n (pc := 46) dX12_seen_46 rfl 0 rfl ?_
      refine ea_getR (pc := 47) dX12_seen_47 ec_12 (k := 107) (Nat.le_of_ble_eq_true rfl) rfl (Or.inl ew_1452) (hs.1 0 (by decide)).1 (hs.1 0 (by decide)).2.1 (hs.2 0 107 rfl) ?_
      refine ea_iload_n (pc := 50) dX12_seen_50 rfl 1 rfl ?_
      obtain ⟨z8, E⟩ := gd_some E
      refine ea_iald (pc := 51) dX12_seen_51 (hs.1 79 (by decide)).1 (hs.1 79 (by decide)).2.1 (ea_vpl (hs.1 79 (by decide)).2.2 z8) ?_
      refine ea_icmp_gt (pc := 52) (tgt := 108) dX12_seen_52 rfl (fun c19 => ?_) (fun c19 => ?_)
      · have E := (if_pos c19).symm.trans E
        refine ea_iload_n (pc := 108) dX12_seen_108 rfl 3 rfl ?_
        refine ea_iload (pc := 109) dX12_seen_109 4 rfl ?_
        refine ea_icmp_le (pc := 111) (tgt := 116) dX12_seen_111 rfl (fun c15 => ?_) (fun c15 => ?_)
        · have E := (if_pos c15).symm.trans E
          refine ea_aload_n (pc := 116) dX12_seen_116 rfl 0 rfl ?_
          refine ea_getR (pc := 117) dX12_seen_117 ec_12 (k := 106) (Nat.le_of_ble_eq_true rfl) rfl (Or.inl ew_1451) (hs.1 0 (by decide)).1 (hs.1 0 (by decide)).2.1 (hs.2 0 106 rfl) ?_
          refine ea_iload_n (pc := 120) dX12_seen_120 rfl 1 rfl ?_
          refine ea_iload_n (pc := 121) dX12_seen_121 rfl 3 rfl ?_
          obtain ⟨z9, E⟩ := gd_some E
          refine ea_iast (pc := 122) dX12_seen_122 (hs.1 78 (by decide)).1 (hs.1 78 (by decide)).2.1 (ea_vpl (hs.1 78 (by decide)).2.2 z9) ?_
          have hs10 : ShM b0 (ea_wi h (b0 + 78) (Int32.toNatClampNeg x1) x3) := ShM_wi hs
          obtain ⟨H11, eH11, E⟩ := let_some E
          refine ea_nm eH11 ?_
          have hsH11 : ShM b0 H11 := by rw [eH11]; exact hs10
          refine ea_aload_n (pc := 123) dX12_seen_123 rfl 0 rfl ?_
          refine ea_getR (pc := 124) dX12_seen_124 ec_12 (k := 107) (Nat.le_of_ble_eq_true rfl) rfl (Or.inl ew_1452) (hsH11.1 0 (by decide)).1 (hsH11.1 0 (by decide)).2.1 (hsH11.2 0 107 rfl) ?_
          refine ea_iload_n (pc := 127) dX12_seen_127 rfl 1 rfl ?_
          refine ea_iload (pc := 128) dX12_seen_128 4 rfl ?_
          obtain ⟨z12, E⟩ := gd_some E
          refine ea_iast (pc := 130) dX12_seen_130 (hsH11.1 79 (by decide)).1 (hsH11.1 79 (by decide)).2.1 (ea_vpl (hsH11.1 79 (by decide)).2.2 z12) ?_
          have hs13 : ShM b0 (ea_wi H11 (b0 + 79) (Int32.toNatClampNeg x1) x4) := ShM_wi hsH11
          obtain ⟨H14, eH14, E⟩ := let_some E
          refine ea_nm eH14 ?_
          have hsH14 : ShM b0 H14 := by rw [eH14]; exact hs13
          refine ea_iconst (pc := 131) dX12_seen_131 (v := 1) rfl ?_
          exact ea_iretO (pc := 132) dX12_seen_132 rfl (ea_bn (Or.inr rfl)) E
        · have E := (if_neg c15).symm.trans E
          refine ea_iconst (pc := 114) dX12_seen_114 (v := 0) rfl ?_
          exact ea_iretO (pc := 115) dX12_seen_115 rfl (ea_bn (Or.inl rfl)) E
      · have E := (if_neg c19).symm.trans E
        refine ea_aload_n (pc := 55) dX12_seen_55 rfl 0 rfl ?_
        refine ea_iload_n (pc := 56) dX12_seen_56 rfl 1 rfl ?_
        refine ea_iload (pc := 57) dX12_seen_57 5 rfl ?_
        refine ea_aload_n (pc := 59) dX12_seen_59 rfl 0 rfl ?_
        refine ea_getI (pc := 60) dX12_seen_60 ec_12 (k := 0) (Nat.le_of_ble_eq_true rfl) rfl (Or.inl ew_1345) (hs.1 0 (by decide)).1 (hs.1 0 (by decide)).2.1 ?_
        obtain ⟨z16, E⟩ := gd_some E
        refine ea_callV (pc := 63) (d' := d - 1) (As := [vI x1, vI x5, vI (ea_i h (b0 + 0) 0)]) (st := []) dX12_seen_63 kX12_shows (sX12_shows (d := d - 1) (by omega) hs z16) (by omega) rfl (Nat.le_of_ble_eq_true rfl) ew_2150 ew_2152 ew_102 (ci := 12) rfl (by decide) (hs.1 0 (by decide)).1 (hs.1 0 (by decide)).2.1 ?_
        refine ea_iload_n (pc := 66) dX12_seen_66 rfl 2 rfl ?_
        refine ea_icmp_eq (pc := 67) (tgt := 73) dX12_seen_67 rfl (fun c18 => ?_) (fun c18 => ?_)
        · have E := (if_pos c18).symm.trans E
          refine ea_iload (pc := 73) dX12_seen_73 5 rfl ?_
          refine ea_iload_n (pc := 75) dX12_seen_75 rfl 3 rfl ?_
          refine ea_icmp_ge (pc := 76) (tgt := 84) dX12_seen_76 rfl (fun c17 => ?_) (fun c17 => ?_)
          · have E := (if_pos c17).symm.trans E
            refine ea_iload_n (pc := 84) dX12_seen_84 rfl 3 rfl ?_
            exact (ea_fewer [0, 1, 2, 4, 5] rfl ((ih 85 (x3 : Int32) (x1 : Int32) (x2 : Int32) 0 (x4 : Int32) (x5 : Int32) h _ _ E hs).2.2 rfl))
          · have E := (if_neg c17).symm.trans E
            refine ea_iload (pc := 79) dX12_seen_79 5 rfl ?_
            refine ea_goto (pc := 81) (tgt := 85) dX12_seen_81 rfl ?_
            exact (ea_fewer [0, 1, 2, 4, 5] rfl ((ih 85 (x5 : Int32) (x1 : Int32) (x2 : Int32) 0 (x4 : Int32) (x5 : Int32) h _ _ E hs).2.2 rfl))
        · have E := (if_neg c18).symm.trans E
          refine ea_goto (pc := 70) (tgt := 102) dX12_seen_70 rfl ?_
          refine ea_iinc (pc := 102) (v := 1) (lv' := [(0, vR (some (b0 + 0))), (1, vI x1), (2, vI x2), (3, vI x3), (4, vI x4), (5, vI (x5 + (1 : Int32)))]) dX12_seen_102 5 rfl rfl (Nat.le_of_ble_eq_true rfl) [1, 2, 3, 4, 5, 0] rfl ?_
          refine ea_goto (pc := 105) (tgt := 44) dX12_seen_105 rfl ?_
          exact ((ih 44 0 (x1 : Int32) (x2 : Int32) (x3 : Int32) (x4 : Int32) ((x5 + (1 : Int32)) : Int32) h _ _ E hs).2.1 rfl)
    intro el
    subst el
    have E := (if_neg (by decide)).symm.trans E
    have E := (if_neg (by decide)).symm.trans E
    have E := (if_pos rfl).symm.trans E
    refine ea_istore_n (pc := 85) (lv' := [(0, vR (some (b0 + 0))), (1, vI x1), (2, vI x2), (3, vI sx0), (4, vI x4), (5, vI x5)]) dX12_seen_85 rfl (Nat.le_of_ble_eq_true rfl) [1, 2, 3, 0, 4, 5] rfl ?_
    refine ea_iload (pc := 86) dX12_seen_86 5 rfl ?_
    refine ea_iload (pc := 88) dX12_seen_88 4 rfl ?_
    refine ea_icmp_le (pc := 90) (tgt := 98) dX12_seen_90 rfl (fun c20 => ?_) (fun c20 => ?_)
    · have E := (if_pos c20).symm.trans E
      refine ea_iload (pc := 98) dX12_seen_98 4 rfl ?_
      refine ea_istore (pc := 100) (lv' := [(0, vR (some (b0 + 0))), (1, vI x1), (2, vI x2), (3, vI sx0), (4, vI x4), (5, vI x5)]) dX12_seen_100 (Nat.le_of_ble_eq_true rfl) [1, 2, 3, 4, 0, 5] rfl ?_
      refine ea_iinc (pc := 102) (v := 1) (lv' := [(0, vR (some (b0 + 0))), (1, vI x1), (2, vI x2), (3, vI sx0), (4, vI x4), (5, vI (x5 + (1 : Int32)))]) dX12_seen_102 5 rfl rfl (Nat.le_of_ble_eq_true rfl) [1, 2, 3, 4, 5, 0] rfl ?_
      refine ea_goto (pc := 105) (tgt := 44) dX12_seen_105 rfl ?_
      exact ((ih 44 0 (x1 : Int32) (x2 : Int32) (sx0 : Int32) (x4 : Int32) ((x5 + (1 : Int32)) : Int32) h _ _ E hs).2.1 rfl)
    · have E := (if_neg c20).symm.trans E
      refine ea_iload (pc := 93) dX12_seen_93 5 rfl ?_
      refine ea_goto (pc := 95) (tgt := 100) dX12_seen_95 rfl ?_
      refine ea_istore (pc := 100) (lv' := [(0, vR (some (b0 + 0))), (1, vI x1), (2, vI x2), (3, vI sx0), (4, vI x5), (5, vI x5)]) dX12_seen_100 (Nat.le_of_ble_eq_true rfl) [1, 2, 3, 4, 0, 5] rfl ?_
      refine ea_iinc (pc := 102) (v := 1) (lv' := [(0, vR (some (b0 + 0))), (1, vI x1), (2, vI x2), (3, vI sx0), (4, vI x5), (5, vI (x5 + (1 : Int32)))]) dX12_seen_102 5 rfl rfl (Nat.le_of_ble_eq_true rfl) [1, 2, 3, 4, 5, 0] rfl ?_
      refine ea_goto (pc := 105) (tgt := 44) dX12_seen_105 rfl ?_
      exact ((ih 44 0 (x1 : Int32) (x2 : Int32) (sx0 : Int32) (x5 : Int32) ((x5 + (1 : Int32)) : Int32) h _ _ E hs).2.1 rfl)
noncomputable def qX12_seen (b0 : Nat) (x1 : Int32) (x2 : Int32) (h : ea_H) : Option (Int32 × ea_H) := gX12_seen b0 1000000000 0 0 x1 x2 0 0 0 h
def okX12_seen (b0 : Nat) (x1 : Int32) (x2 : Int32) (h : ea_H) : Prop := ∃ x, qX12_seen b0 x1 x2 h = some x
noncomputable def vX12_seen (b0 : Nat) (x1 : Int32) (x2 : Int32) (h : ea_H) : Int32 := ((qX12_seen b0 x1 x2 h).getD (0, h)).1
noncomputable def wX12_seen (b0 : Nat) (x1 : Int32) (x2 : Int32) (h : ea_H) : ea_H := ((qX12_seen b0 x1 x2 h).getD (0, h)).2
theorem sX12_seen {d : Nat} {b0 : Nat} {x1 : Int32} {x2 : Int32} {h : ea_H} (hd : 3 ≤ d) (hs : ShM b0 h) (K : okX12_seen b0 x1 x2 h) : ea_Met mX12_seen d [vR (some (b0 + 0)), vI x1, vI x2] h (some (vI (vX12_seen b0 x1 x2 h))) (wX12_seen b0 x1 x2 h) := by
  obtain ⟨⟨x, y⟩, K⟩ := K
  unfold wX12_seen vX12_seen
  rw [K]
  unfold qX12_seen at K
  exact ea_enter rfl (Nat.le_of_ble_eq_true rfl) ((tX12_seen hd 1000000000 0 0 x1 x2 0 0 0 h x y K hs).1 rfl)
theorem zX12_seen {b0 : Nat} : ∀ (f lbl : Nat) (sx0 : Int32) (x1 : Int32) (x2 : Int32) (x3 : Int32) (x4 : Int32) (x5 : Int32) (h : ea_H) (r : Int32) (h' : ea_H), gX12_seen b0 f lbl sx0 x1 x2 x3 x4 x5 h = some (r, h') → ShM b0 h → ShM b0 h' := by
  intro f
  induction f with
  | zero => intro lbl sx0 x1 x2 x3 x4 x5 h r h' E; cases E
  | succ f ih =>
    intro lbl sx0 x1 x2 x3 x4 x5 h r h' E hs
    unfold gX12_seen at E
    by_cases el0 : lbl = 0
    · have E := (if_pos el0).symm.trans E
      by_cases c7 : (vX12_isTrain b0 (x1 : Int32) h) = (0 : Int32)
      · have E := (if_pos c7).symm.trans E
        exact ea_shO E hs
      have E := (if_neg c7).symm.trans E
      by_cases c6 : (vX12_isMinute (x2 : Int32) h) = (0 : Int32)
      · have E := (if_pos c6).symm.trans E
        exact ea_shO E hs
      have E := (if_neg c6).symm.trans E
      obtain ⟨z3, E⟩ := gd_some E
      obtain ⟨z4, E⟩ := gd_some E
      obtain ⟨z5, E⟩ := gd_some E
      exact ih 44 0 (x1 : Int32) (x2 : Int32) (((ea_i h (b0 + 79) (Int32.toNatClampNeg x1)) + (1 : Int32)) : Int32) (((ea_i h (b0 + 78) (Int32.toNatClampNeg x1)) - (1 : Int32)) : Int32) ((ea_i h (b0 + 78) (Int32.toNatClampNeg x1)) : Int32) h _ _ E hs
    have E := (if_neg el0).symm.trans E
    by_cases el1 : lbl = 44
    · have E := (if_pos el1).symm.trans E
      obtain ⟨z8, E⟩ := gd_some E
      by_cases c19 : (ea_i h (b0 + 79) (Int32.toNatClampNeg x1)) < x5
      · have E := (if_pos c19).symm.trans E
        by_cases c15 : x3 ≤ x4
        · have E := (if_pos c15).symm.trans E
          obtain ⟨z9, E⟩ := gd_some E
          obtain ⟨H11, eH11, E⟩ := let_some E
          have hsH11 : ShM b0 H11 := by rw [eH11]; exact (ShM_wi hs)
          obtain ⟨z12, E⟩ := gd_some E
          obtain ⟨H14, eH14, E⟩ := let_some E
          have hsH14 : ShM b0 H14 := by rw [eH14]; exact (ShM_wi hsH11)
          exact ea_shO E hsH14
        have E := (if_neg c15).symm.trans E
        exact ea_shO E hs
      have E := (if_neg c19).symm.trans E
      obtain ⟨z16, E⟩ := gd_some E
      by_cases c18 : (vX12_shows b0 (x1 : Int32) (x5 : Int32) ((ea_i h (b0 + 0) 0) : Int32) h) = x2
      · have E := (if_pos c18).symm.trans E
        by_cases c17 : x3 ≤ x5
        · have E := (if_pos c17).symm.trans E
          exact ih 85 (x3 : Int32) (x1 : Int32) (x2 : Int32) 0 (x4 : Int32) (x5 : Int32) h _ _ E hs
        have E := (if_neg c17).symm.trans E
        exact ih 85 (x5 : Int32) (x1 : Int32) (x2 : Int32) 0 (x4 : Int32) (x5 : Int32) h _ _ E hs
      have E := (if_neg c18).symm.trans E
      exact ih 44 0 (x1 : Int32) (x2 : Int32) (x3 : Int32) (x4 : Int32) ((x5 + (1 : Int32)) : Int32) h _ _ E hs
    have E := (if_neg el1).symm.trans E
    by_cases el2 : lbl = 85
    · have E := (if_pos el2).symm.trans E
      by_cases c20 : x5 ≤ x4
      · have E := (if_pos c20).symm.trans E
        exact ih 44 0 (x1 : Int32) (x2 : Int32) (sx0 : Int32) (x4 : Int32) ((x5 + (1 : Int32)) : Int32) h _ _ E hs
      have E := (if_neg c20).symm.trans E
      exact ih 44 0 (x1 : Int32) (x2 : Int32) (sx0 : Int32) (x5 : Int32) ((x5 + (1 : Int32)) : Int32) h _ _ E hs
    have E := (if_neg el2).symm.trans E
    cases E
theorem shX12_seen {b0 : Nat} {x1 : Int32} {x2 : Int32} {h : ea_H} (hs : ShM b0 h) : ShM b0 (wX12_seen b0 x1 x2 h) := by
  unfold wX12_seen
  cases K : qX12_seen b0 x1 x2 h with
  | none => exact hs
  | some x => obtain ⟨x, y⟩ := x; unfold qX12_seen at K; exact zX12_seen _ _ _ _ _ _ _ _ _ _ _ K hs
noncomputable def gX12_mayShow (b0 : Nat) : Nat → Nat → Int32 → Int32 → Int32 → Int32 → Int32 → ea_H → Option (Int32 × ea_H)
  | 0, _, _, _, _, _, _, _ => none
  | f + 1, lbl, x1, x2, x3, x4, x5, h =>
    if lbl = 0 then (gd (vp_in x1 10) (gX12_mayShow b0 f 11 (x1 : Int32) (x2 : Int32) (x3 : Int32) (0 : Int32) ((ea_i h (b0 + 78) (Int32.toNatClampNeg x1)) : Int32) h)) else
    if lbl = 11 then (gd (vp_in x1 10) (if (ea_i h (b0 + 79) (Int32.toNatClampNeg x1)) < x5 then (gd (x4 = 0 ∨ x4 = 1) ((some (x4, h)))) else (if x4 = (0 : Int32) then (gd ((okX12_shows b0 (x1 : Int32) (x5 : Int32) (x3 : Int32) h)) (if (vX12_shows b0 (x1 : Int32) (x5 : Int32) (x3 : Int32) h) = x2 then (gX12_mayShow b0 f 11 (x1 : Int32) (x2 : Int32) (x3 : Int32) (1 : Int32) ((x5 + (1 : Int32)) : Int32) h) else (gX12_mayShow b0 f 11 (x1 : Int32) (x2 : Int32) (x3 : Int32) (0 : Int32) ((x5 + (1 : Int32)) : Int32) h))) else (gd (x4 = 0 ∨ x4 = 1) ((some (x4, h))))))) else none
theorem tX12_mayShow {d : Nat} {b0 : Nat} {h0 : ea_H} (hd : 2 ≤ d) : ∀ (f lbl : Nat) (x1 : Int32) (x2 : Int32) (x3 : Int32) (x4 : Int32) (x5 : Int32) (h : ea_H) (r : Int32) (h' : ea_H), gX12_mayShow b0 f lbl x1 x2 x3 x4 x5 h = some (r, h') → ShM b0 h → (lbl = 0 → ea_W mX12_mayShow d h0 (some (vI r)) h' 0 [(0, vR (some (b0 + 0))), (1, vI x1), (2, vI x2), (3, vI x3)] [] h) ∧ (lbl = 11 → ea_W mX12_mayShow d h0 (some (vI r)) h' 11 [(0, vR (some (b0 + 0))), (1, vI x1), (2, vI x2), (3, vI x3), (4, vI x4), (5, vI x5)] [] h) := by
  intro f
  induction f with
  | zero => intro lbl x1 x2 x3 x4 x5 h r h' E; cases E
  | succ f ih =>
    intro lbl x1 x2 x3 x4 x5 h r h' E hs
    unfold gX12_mayShow at E
    refine ⟨?_, ?_⟩
    · intro el
      subst el
      have E := (if_pos rfl).symm.trans E
      refine ea_iconst (pc := 0) dX12_mayShow_0 (v := 0) rfl ?_
      refine ea_istore (pc := 1) (lv' := [(0, vR (some (b0 + 0))), (1, vI x1), (2, vI x2), (3, vI x3), (4, vI 0)]) dX12_mayShow_1 (Nat.le_of_ble_eq_true rfl) [1, 2, 3, 4, 0] rfl ?_
      refine ea_aload_n (pc := 3) dX12_mayShow_3 rfl 0 rfl ?_
      refine ea_getR (pc := 4) dX12_mayShow_4 ec_12 (k := 106) (Nat.le_of_ble_eq_true rfl) rfl (Or.inl ew_1451) (hs.1 0 (by decide)).1 (hs.1 0 (by decide)).2.1 (hs.2 0 106 rfl) ?_
      refine ea_iload_n (pc := 7) dX12_mayShow_7 rfl 1 rfl ?_
      obtain ⟨z1, E⟩ := gd_some E
      refine ea_iald (pc := 8) dX12_mayShow_8 (hs.1 78 (by decide)).1 (hs.1 78 (by decide)).2.1 (ea_vpl (hs.1 78 (by decide)).2.2 z1) ?_
      refine ea_istore (pc := 9) (lv' := [(0, vR (some (b0 + 0))), (1, vI x1), (2, vI x2), (3, vI x3), (4, vI 0), (5, vI (ea_i h (b0 + 78) (Int32.toNatClampNeg x1)))]) dX12_mayShow_9 (Nat.le_of_ble_eq_true rfl) [1, 2, 3, 4, 5, 0] rfl ?_
      exact ((ih 11 (x1 : Int32) (x2 : Int32) (x3 : Int32) (0 : Int32) ((ea_i h (b0 + 78) (Int32.toNatClampNeg x1)) : Int32) h _ _ E hs).2 rfl)
    intro el
    subst el
    have E := (if_neg (by decide)).symm.trans E
    have E := (if_pos rfl).symm.trans E
    refine ea_iload (pc := 11) dX12_mayShow_11 5 rfl ?_
    refine ea_aload_n (pc := 13) dX12_mayShow_13 rfl 0 rfl ?_
    refine ea_getR (pc := 14) dX12_mayShow_14 ec_12 (k := 107) (Nat.le_of_ble_eq_true rfl) rfl (Or.inl ew_1452) (hs.1 0 (by decide)).1 (hs.1 0 (by decide)).2.1 (hs.2 0 107 rfl) ?_
    refine ea_iload_n (pc := 17) dX12_mayShow_17 rfl 1 rfl ?_
    obtain ⟨z2, E⟩ := gd_some E
    refine ea_iald (pc := 18) dX12_mayShow_18 (hs.1 79 (by decide)).1 (hs.1 79 (by decide)).2.1 (ea_vpl (hs.1 79 (by decide)).2.2 z2) ?_
    refine ea_icmp_gt (pc := 19) (tgt := 52) dX12_mayShow_19 rfl (fun c8 => ?_) (fun c8 => ?_)
    · have E := (if_pos c8).symm.trans E
      refine ea_iload (pc := 52) dX12_mayShow_52 4 rfl ?_
      obtain ⟨z3, E⟩ := gd_some E
      exact ea_iretO (pc := 54) dX12_mayShow_54 rfl (ea_bn z3) E
    · have E := (if_neg c8).symm.trans E
      refine ea_iload (pc := 22) dX12_mayShow_22 4 rfl ?_
      refine ea_if_ne (pc := 24) (tgt := 52) dX12_mayShow_24 rfl (fun c7 => ?_) (fun c7 => ?_)
      · have E := (if_neg c7).symm.trans E
        refine ea_iload (pc := 52) dX12_mayShow_52 4 rfl ?_
        obtain ⟨z4, E⟩ := gd_some E
        exact ea_iretO (pc := 54) dX12_mayShow_54 rfl (ea_bn z4) E
      · have E := (if_pos c7).symm.trans E
        refine ea_aload_n (pc := 27) dX12_mayShow_27 rfl 0 rfl ?_
        refine ea_iload_n (pc := 28) dX12_mayShow_28 rfl 1 rfl ?_
        refine ea_iload (pc := 29) dX12_mayShow_29 5 rfl ?_
        refine ea_iload_n (pc := 31) dX12_mayShow_31 rfl 3 rfl ?_
        obtain ⟨z5, E⟩ := gd_some E
        refine ea_callV (pc := 32) (d' := d - 1) (As := [vI x1, vI x5, vI x3]) (st := []) dX12_mayShow_32 kX12_shows (sX12_shows (d := d - 1) (by omega) hs z5) (by omega) rfl (Nat.le_of_ble_eq_true rfl) ew_2150 ew_2152 ew_102 (ci := 12) rfl (by decide) (hs.1 0 (by decide)).1 (hs.1 0 (by decide)).2.1 ?_
        refine ea_iload_n (pc := 35) dX12_mayShow_35 rfl 2 rfl ?_
        refine ea_icmp_ne (pc := 36) (tgt := 43) dX12_mayShow_36 rfl (fun c6 => ?_) (fun c6 => ?_)
        · have E := (if_neg c6).symm.trans E
          refine ea_iconst (pc := 43) dX12_mayShow_43 (v := 0) rfl ?_
          refine ea_istore (pc := 44) (lv' := [(0, vR (some (b0 + 0))), (1, vI x1), (2, vI x2), (3, vI x3), (4, vI 0), (5, vI x5)]) dX12_mayShow_44 (Nat.le_of_ble_eq_true rfl) [1, 2, 3, 4, 0, 5] rfl ?_
          refine ea_iinc (pc := 46) (v := 1) (lv' := [(0, vR (some (b0 + 0))), (1, vI x1), (2, vI x2), (3, vI x3), (4, vI 0), (5, vI (x5 + (1 : Int32)))]) dX12_mayShow_46 5 rfl rfl (Nat.le_of_ble_eq_true rfl) [1, 2, 3, 4, 5, 0] rfl ?_
          refine ea_goto (pc := 49) (tgt := 11) dX12_mayShow_49 rfl ?_
          exact ((ih 11 (x1 : Int32) (x2 : Int32) (x3 : Int32) (0 : Int32) ((x5 + (1 : Int32)) : Int32) h _ _ E hs).2 rfl)
        · have E := (if_pos c6).symm.trans E
          refine ea_iconst (pc := 39) dX12_mayShow_39 (v := 1) rfl ?_
          refine ea_goto (pc := 40) (tgt := 44) dX12_mayShow_40 rfl ?_
          refine ea_istore (pc := 44) (lv' := [(0, vR (some (b0 + 0))), (1, vI x1), (2, vI x2), (3, vI x3), (4, vI 1), (5, vI x5)]) dX12_mayShow_44 (Nat.le_of_ble_eq_true rfl) [1, 2, 3, 4, 0, 5] rfl ?_
          refine ea_iinc (pc := 46) (v := 1) (lv' := [(0, vR (some (b0 + 0))), (1, vI x1), (2, vI x2), (3, vI x3), (4, vI 1), (5, vI (x5 + (1 : Int32)))]) dX12_mayShow_46 5 rfl rfl (Nat.le_of_ble_eq_true rfl) [1, 2, 3, 4, 5, 0] rfl ?_
          refine ea_goto (pc := 49) (tgt := 11) dX12_mayShow_49 rfl ?_
          exact ((ih 11 (x1 : Int32) (x2 : Int32) (x3 : Int32) (1 : Int32) ((x5 + (1 : Int32)) : Int32) h _ _ E hs).2 rfl)
noncomputable def qX12_mayShow (b0 : Nat) (x1 : Int32) (x2 : Int32) (x3 : Int32) (h : ea_H) : Option (Int32 × ea_H) := gX12_mayShow b0 1000000000 0 x1 x2 x3 0 0 h
def okX12_mayShow (b0 : Nat) (x1 : Int32) (x2 : Int32) (x3 : Int32) (h : ea_H) : Prop := ∃ x, qX12_mayShow b0 x1 x2 x3 h = some x
noncomputable def vX12_mayShow (b0 : Nat) (x1 : Int32) (x2 : Int32) (x3 : Int32) (h : ea_H) : Int32 := ((qX12_mayShow b0 x1 x2 x3 h).getD (0, h)).1
noncomputable def wX12_mayShow (b0 : Nat) (x1 : Int32) (x2 : Int32) (x3 : Int32) (h : ea_H) : ea_H := ((qX12_mayShow b0 x1 x2 x3 h).getD (0, h)).2
theorem sX12_mayShow {d : Nat} {b0 : Nat} {x1 : Int32} {x2 : Int32} {x3 : Int32} {h : ea_H} (hd : 2 ≤ d) (hs : ShM b0 h) (K : okX12_mayShow b0 x1 x2 x3 h) : ea_Met mX12_mayShow d [vR (some (b0 + 0)), vI x1, vI x2, vI x3] h (some (vI (vX12_mayShow b0 x1 x2 x3 h))) (wX12_mayShow b0 x1 x2 x3 h) := by
  obtain ⟨⟨x, y⟩, K⟩ := K
  unfold wX12_mayShow vX12_mayShow
  rw [K]
  unfold qX12_mayShow at K
  exact ea_enter rfl (Nat.le_of_ble_eq_true rfl) ((tX12_mayShow hd 1000000000 0 x1 x2 x3 0 0 h x y K hs).1 rfl)
theorem zX12_mayShow {b0 : Nat} : ∀ (f lbl : Nat) (x1 : Int32) (x2 : Int32) (x3 : Int32) (x4 : Int32) (x5 : Int32) (h : ea_H) (r : Int32) (h' : ea_H), gX12_mayShow b0 f lbl x1 x2 x3 x4 x5 h = some (r, h') → ShM b0 h → ShM b0 h' := by
  intro f
  induction f with
  | zero => intro lbl x1 x2 x3 x4 x5 h r h' E; cases E
  | succ f ih =>
    intro lbl x1 x2 x3 x4 x5 h r h' E hs
    unfold gX12_mayShow at E
    by_cases el0 : lbl = 0
    · have E := (if_pos el0).symm.trans E
      obtain ⟨z1, E⟩ := gd_some E
      exact ih 11 (x1 : Int32) (x2 : Int32) (x3 : Int32) (0 : Int32) ((ea_i h (b0 + 78) (Int32.toNatClampNeg x1)) : Int32) h _ _ E hs
    have E := (if_neg el0).symm.trans E
    by_cases el1 : lbl = 11
    · have E := (if_pos el1).symm.trans E
      obtain ⟨z2, E⟩ := gd_some E
      by_cases c8 : (ea_i h (b0 + 79) (Int32.toNatClampNeg x1)) < x5
      · have E := (if_pos c8).symm.trans E
        obtain ⟨z3, E⟩ := gd_some E
        exact ea_shO E hs
      have E := (if_neg c8).symm.trans E
      by_cases c7 : x4 = (0 : Int32)
      · have E := (if_pos c7).symm.trans E
        obtain ⟨z5, E⟩ := gd_some E
        by_cases c6 : (vX12_shows b0 (x1 : Int32) (x5 : Int32) (x3 : Int32) h) = x2
        · have E := (if_pos c6).symm.trans E
          exact ih 11 (x1 : Int32) (x2 : Int32) (x3 : Int32) (1 : Int32) ((x5 + (1 : Int32)) : Int32) h _ _ E hs
        have E := (if_neg c6).symm.trans E
        exact ih 11 (x1 : Int32) (x2 : Int32) (x3 : Int32) (0 : Int32) ((x5 + (1 : Int32)) : Int32) h _ _ E hs
      have E := (if_neg c7).symm.trans E
      obtain ⟨z4, E⟩ := gd_some E
      exact ea_shO E hs
    have E := (if_neg el1).symm.trans E
    cases E
theorem shX12_mayShow {b0 : Nat} {x1 : Int32} {x2 : Int32} {x3 : Int32} {h : ea_H} (hs : ShM b0 h) : ShM b0 (wX12_mayShow b0 x1 x2 x3 h) := by
  unfold wX12_mayShow
  cases K : qX12_mayShow b0 x1 x2 x3 h with
  | none => exact hs
  | some x => obtain ⟨x, y⟩ := x; unfold qX12_mayShow at K; exact zX12_mayShow _ _ _ _ _ _ _ _ _ _ K hs
noncomputable def gX12_trueMinute (b0 : Nat) : Nat → Nat → Int32 → Int32 → Int32 → Int32 → Int32 → ea_H → Option (Int32 × ea_H)
  | 0, _, _, _, _, _, _, _ => none
  | f + 1, lbl, x1, x2, x3, x4, x5, h =>
    if lbl = 0 then (if (vX12_isTrain b0 (x1 : Int32) h) = (0 : Int32) then (some (((-1) : Int32), h)) else (if (vX12_isMinute (x2 : Int32) h) = (0 : Int32) then (some (((-1) : Int32), h)) else (if (vX12_isIn (x3 : Int32) (0 : Int32) (1 : Int32) h) = (0 : Int32) then (some (((-1) : Int32), h)) else (gd (vp_in x1 10) (gX12_trueMinute b0 f 37 (x1 : Int32) (x2 : Int32) (x3 : Int32) ((-1) : Int32) ((ea_i h (b0 + 80) (Int32.toNatClampNeg x1)) : Int32) h))))) else
    if lbl = 37 then (if (10079 : Int32) < x5 then (some (x4, h)) else (if x3 = (1 : Int32) then (gX12_trueMinute b0 f 56 (x1 : Int32) (x2 : Int32) (x3 : Int32) (x4 : Int32) (x5 : Int32) h) else (if x4 = ((-1) : Int32) then (gX12_trueMinute b0 f 56 (x1 : Int32) (x2 : Int32) (x3 : Int32) (x4 : Int32) (x5 : Int32) h) else (some (x4, h))))) else
    if lbl = 56 then (gd ((okX12_mayShow b0 (x1 : Int32) (x2 : Int32) (x5 : Int32) h)) (ea_let (wX12_mayShow b0 (x1 : Int32) (x2 : Int32) (x5 : Int32) h) fun H13 => (if (vX12_mayShow b0 (x1 : Int32) (x2 : Int32) (x5 : Int32) h) = (0 : Int32) then (gX12_trueMinute b0 f 37 (x1 : Int32) (x2 : Int32) (x3 : Int32) (x4 : Int32) ((x5 + (1 : Int32)) : Int32) H13) else (gX12_trueMinute b0 f 37 (x1 : Int32) (x2 : Int32) (x3 : Int32) (x5 : Int32) ((x5 + (1 : Int32)) : Int32) H13)))) else none
theorem tX12_trueMinute {d : Nat} {b0 : Nat} {h0 : ea_H} (hd : 3 ≤ d) : ∀ (f lbl : Nat) (x1 : Int32) (x2 : Int32) (x3 : Int32) (x4 : Int32) (x5 : Int32) (h : ea_H) (r : Int32) (h' : ea_H), gX12_trueMinute b0 f lbl x1 x2 x3 x4 x5 h = some (r, h') → ShM b0 h → (lbl = 0 → ea_W mX12_trueMinute d h0 (some (vI r)) h' 0 [(0, vR (some (b0 + 0))), (1, vI x1), (2, vI x2), (3, vI x3)] [] h) ∧ (lbl = 37 → ea_W mX12_trueMinute d h0 (some (vI r)) h' 37 [(0, vR (some (b0 + 0))), (1, vI x1), (2, vI x2), (3, vI x3), (4, vI x4), (5, vI x5)] [] h) ∧ (lbl = 56 → ea_W mX12_trueMinute d h0 (some (vI r)) h' 56 [(0, vR (some (b0 + 0))), (1, vI x1), (2, vI x2), (3, vI x3), (4, vI x4), (5, vI x5)] [] h) := by
  intro f
  induction f with
  | zero => intro lbl x1 x2 x3 x4 x5 h r h' E; cases E
  | succ f ih =>
    intro lbl x1 x2 x3 x4 x5 h r h' E hs
    unfold gX12_trueMinute at E
    refine ⟨?_, ?_⟩
    · intro el
      subst el
      have E := (if_pos rfl).symm.trans E
      refine ea_aload_n (pc := 0) dX12_trueMinute_0 rfl 0 rfl ?_
      refine ea_iload_n (pc := 1) dX12_trueMinute_1 rfl 1 rfl ?_
      refine ea_callV (pc := 2) (d' := d - 1) (As := [vI x1]) (st := []) dX12_trueMinute_2 kX12_isTrain (sX12_isTrain (d := d - 1) (by omega) hs) (by omega) rfl (Nat.le_of_ble_eq_true rfl) ew_1736 ew_1738 ew_50 (ci := 12) rfl (by decide) (hs.1 0 (by decide)).1 (hs.1 0 (by decide)).2.1 ?_
      refine ea_if_eq (pc := 5) (tgt := 24) dX12_trueMinute_5 rfl (fun c7 => ?_) (fun c7 => ?_)
      · have E := (if_pos c7).symm.trans E
        refine ea_iconst (pc := 24) dX12_trueMinute_24 (v := (-1)) rfl ?_
        exact ea_iretO (pc := 25) dX12_trueMinute_25 rfl rfl E
      · have E := (if_neg c7).symm.trans E
        refine ea_iload_n (pc := 8) dX12_trueMinute_8 rfl 2 rfl ?_
        refine ea_callS (pc := 9) (d' := d - 1) (As := [vI x2]) (st := []) dX12_trueMinute_9 kX12_isMinute (sX12_isMinute (d := d - 1) (by omega)) (by omega) rfl (Nat.le_of_ble_eq_true rfl) ew_2147 ew_2148 ?_
        refine ea_if_eq (pc := 12) (tgt := 24) dX12_trueMinute_12 rfl (fun c6 => ?_) (fun c6 => ?_)
        · have E := (if_pos c6).symm.trans E
          refine ea_iconst (pc := 24) dX12_trueMinute_24 (v := (-1)) rfl ?_
          exact ea_iretO (pc := 25) dX12_trueMinute_25 rfl rfl E
        · have E := (if_neg c6).symm.trans E
          refine ea_iload_n (pc := 15) dX12_trueMinute_15 rfl 3 rfl ?_
          refine ea_iconst (pc := 16) dX12_trueMinute_16 (v := 0) rfl ?_
          refine ea_iconst (pc := 17) dX12_trueMinute_17 (v := 1) rfl ?_
          refine ea_callS (pc := 18) (d' := d - 1) (As := [vI x3, vI 0, vI 1]) (st := []) dX12_trueMinute_18 kX12_isIn (sX12_isIn (d := d - 1) (by omega)) (by omega) rfl (Nat.le_of_ble_eq_true rfl) ew_1712 ew_1713 ?_
          refine ea_if_ne (pc := 21) (tgt := 26) dX12_trueMinute_21 rfl (fun c5 => ?_) (fun c5 => ?_)
          · have E := (if_neg c5).symm.trans E
            refine ea_iconst (pc := 26) dX12_trueMinute_26 (v := (-1)) rfl ?_
            refine ea_istore (pc := 27) (lv' := [(0, vR (some (b0 + 0))), (1, vI x1), (2, vI x2), (3, vI x3), (4, vI (-1))]) dX12_trueMinute_27 (Nat.le_of_ble_eq_true rfl) [1, 2, 3, 4, 0] rfl ?_
            refine ea_aload_n (pc := 29) dX12_trueMinute_29 rfl 0 rfl ?_
            refine ea_getR (pc := 30) dX12_trueMinute_30 ec_12 (k := 108) (Nat.le_of_ble_eq_true rfl) rfl (Or.inl ew_1453) (hs.1 0 (by decide)).1 (hs.1 0 (by decide)).2.1 (hs.2 0 108 rfl) ?_
            refine ea_iload_n (pc := 33) dX12_trueMinute_33 rfl 1 rfl ?_
            obtain ⟨z4, E⟩ := gd_some E
            refine ea_iald (pc := 34) dX12_trueMinute_34 (hs.1 80 (by decide)).1 (hs.1 80 (by decide)).2.1 (ea_vpl (hs.1 80 (by decide)).2.2 z4) ?_
            refine ea_istore (pc := 35) (lv' := [(0, vR (some (b0 + 0))), (1, vI x1), (2, vI x2), (3, vI x3), (4, vI (-1)), (5, vI (ea_i h (b0 + 80) (Int32.toNatClampNeg x1)))]) dX12_trueMinute_35 (Nat.le_of_ble_eq_true rfl) [1, 2, 3, 4, 5, 0] rfl ?_
            exact ((ih 37 (x1 : Int32) (x2 : Int32) (x3 : Int32) ((-1) : Int32) ((ea_i h (b0 + 80) (Int32.toNatClampNeg x1)) : Int32) h _ _ E hs).2.1 rfl)
          · have E := (if_pos c5).symm.trans E
            refine ea_iconst (pc := 24) dX12_trueMinute_24 (v := (-1)) rfl ?_
            exact ea_iretO (pc := 25) dX12_trueMinute_25 rfl rfl E
    refine ⟨?_, ?_⟩
    · intro el
      subst el
      have E := (if_neg (by decide)).symm.trans E
      have E := (if_pos rfl).symm.trans E
      refine ea_iload (pc := 37) dX12_trueMinute_37 5 rfl ?_
      refine ea_sipush (pc := 39) dX12_trueMinute_39 (v := 10079) rfl ?_
      refine ea_icmp_gt (pc := 42) (tgt := 77) dX12_trueMinute_42 rfl (fun c10 => ?_) (fun c10 => ?_)
      · have E := (if_pos c10).symm.trans E
        refine ea_iload (pc := 77) dX12_trueMinute_77 4 rfl ?_
        exact ea_iretO (pc := 79) dX12_trueMinute_79 rfl rfl E
      · have E := (if_neg c10).symm.trans E
        refine ea_iload_n (pc := 45) dX12_trueMinute_45 rfl 3 rfl ?_
        refine ea_iconst (pc := 46) dX12_trueMinute_46 (v := 1) rfl ?_
        refine ea_icmp_eq (pc := 47) (tgt := 56) dX12_trueMinute_47 rfl (fun c9 => ?_) (fun c9 => ?_)
        · have E := (if_pos c9).symm.trans E
          exact ((ih 56 (x1 : Int32) (x2 : Int32) (x3 : Int32) (x4 : Int32) (x5 : Int32) h _ _ E hs).2.2 rfl)
        · have E := (if_neg c9).symm.trans E
          refine ea_iload (pc := 50) dX12_trueMinute_50 4 rfl ?_
          refine ea_iconst (pc := 52) dX12_trueMinute_52 (v := (-1)) rfl ?_
          refine ea_icmp_ne (pc := 53) (tgt := 77) dX12_trueMinute_53 rfl (fun c8 => ?_) (fun c8 => ?_)
          · have E := (if_neg c8).symm.trans E
            refine ea_iload (pc := 77) dX12_trueMinute_77 4 rfl ?_
            exact ea_iretO (pc := 79) dX12_trueMinute_79 rfl rfl E
          · have E := (if_pos c8).symm.trans E
            exact ((ih 56 (x1 : Int32) (x2 : Int32) (x3 : Int32) (x4 : Int32) (x5 : Int32) h _ _ E hs).2.2 rfl)
    intro el
    subst el
    have E := (if_neg (by decide)).symm.trans E
    have E := (if_neg (by decide)).symm.trans E
    have E := (if_pos rfl).symm.trans E
    refine ea_aload_n (pc := 56) dX12_trueMinute_56 rfl 0 rfl ?_
    refine ea_iload_n (pc := 57) dX12_trueMinute_57 rfl 1 rfl ?_
    refine ea_iload_n (pc := 58) dX12_trueMinute_58 rfl 2 rfl ?_
    refine ea_iload (pc := 59) dX12_trueMinute_59 5 rfl ?_
    obtain ⟨z11, E⟩ := gd_some E
    refine ea_callV (pc := 61) (d' := d - 1) (As := [vI x1, vI x2, vI x5]) (st := []) dX12_trueMinute_61 kX12_mayShow (sX12_mayShow (d := d - 1) (by omega) hs z11) (by omega) rfl (Nat.le_of_ble_eq_true rfl) ew_2163 ew_2165 ew_103 (ci := 12) rfl (by decide) (hs.1 0 (by decide)).1 (hs.1 0 (by decide)).2.1 ?_
    have hs12 : ShM b0 (wX12_mayShow b0 (x1 : Int32) (x2 : Int32) (x5 : Int32) h) := shX12_mayShow hs
    obtain ⟨H13, eH13, E⟩ := let_some E
    refine ea_nm eH13 ?_
    have hsH13 : ShM b0 H13 := by rw [eH13]; exact hs12
    refine ea_if_eq (pc := 64) (tgt := 71) dX12_trueMinute_64 rfl (fun c14 => ?_) (fun c14 => ?_)
    · have E := (if_pos c14).symm.trans E
      refine ea_iinc (pc := 71) (v := 1) (lv' := [(0, vR (some (b0 + 0))), (1, vI x1), (2, vI x2), (3, vI x3), (4, vI x4), (5, vI (x5 + (1 : Int32)))]) dX12_trueMinute_71 5 rfl rfl (Nat.le_of_ble_eq_true rfl) [1, 2, 3, 4, 5, 0] rfl ?_
      refine ea_goto (pc := 74) (tgt := 37) dX12_trueMinute_74 rfl ?_
      exact ((ih 37 (x1 : Int32) (x2 : Int32) (x3 : Int32) (x4 : Int32) ((x5 + (1 : Int32)) : Int32) H13 _ _ E hsH13).2.1 rfl)
    · have E := (if_neg c14).symm.trans E
      refine ea_iload (pc := 67) dX12_trueMinute_67 5 rfl ?_
      refine ea_istore (pc := 69) (lv' := [(0, vR (some (b0 + 0))), (1, vI x1), (2, vI x2), (3, vI x3), (4, vI x5), (5, vI x5)]) dX12_trueMinute_69 (Nat.le_of_ble_eq_true rfl) [1, 2, 3, 4, 0, 5] rfl ?_
      refine ea_iinc (pc := 71) (v := 1) (lv' := [(0, vR (some (b0 + 0))), (1, vI x1), (2, vI x2), (3, vI x3), (4, vI x5), (5, vI (x5 + (1 : Int32)))]) dX12_trueMinute_71 5 rfl rfl (Nat.le_of_ble_eq_true rfl) [1, 2, 3, 4, 5, 0] rfl ?_
      refine ea_goto (pc := 74) (tgt := 37) dX12_trueMinute_74 rfl ?_
      exact ((ih 37 (x1 : Int32) (x2 : Int32) (x3 : Int32) (x5 : Int32) ((x5 + (1 : Int32)) : Int32) H13 _ _ E hsH13).2.1 rfl)
noncomputable def qX12_trueMinute (b0 : Nat) (x1 : Int32) (x2 : Int32) (x3 : Int32) (h : ea_H) : Option (Int32 × ea_H) := gX12_trueMinute b0 1000000000 0 x1 x2 x3 0 0 h
def okX12_trueMinute (b0 : Nat) (x1 : Int32) (x2 : Int32) (x3 : Int32) (h : ea_H) : Prop := ∃ x, qX12_trueMinute b0 x1 x2 x3 h = some x
noncomputable def vX12_trueMinute (b0 : Nat) (x1 : Int32) (x2 : Int32) (x3 : Int32) (h : ea_H) : Int32 := ((qX12_trueMinute b0 x1 x2 x3 h).getD (0, h)).1
noncomputable def wX12_trueMinute (b0 : Nat) (x1 : Int32) (x2 : Int32) (x3 : Int32) (h : ea_H) : ea_H := ((qX12_trueMinute b0 x1 x2 x3 h).getD (0, h)).2
theorem sX12_trueMinute {d : Nat} {b0 : Nat} {x1 : Int32} {x2 : Int32} {x3 : Int32} {h : ea_H} (hd : 3 ≤ d) (hs : ShM b0 h) (K : okX12_trueMinute b0 x1 x2 x3 h) : ea_Met mX12_trueMinute d [vR (some (b0 + 0)), vI x1, vI x2, vI x3] h (some (vI (vX12_trueMinute b0 x1 x2 x3 h))) (wX12_trueMinute b0 x1 x2 x3 h) := by
  obtain ⟨⟨x, y⟩, K⟩ := K
  unfold wX12_trueMinute vX12_trueMinute
  rw [K]
  unfold qX12_trueMinute at K
  exact ea_enter rfl (Nat.le_of_ble_eq_true rfl) ((tX12_trueMinute hd 1000000000 0 x1 x2 x3 0 0 h x y K hs).1 rfl)
theorem zX12_trueMinute {b0 : Nat} : ∀ (f lbl : Nat) (x1 : Int32) (x2 : Int32) (x3 : Int32) (x4 : Int32) (x5 : Int32) (h : ea_H) (r : Int32) (h' : ea_H), gX12_trueMinute b0 f lbl x1 x2 x3 x4 x5 h = some (r, h') → ShM b0 h → ShM b0 h' := by
  intro f
  induction f with
  | zero => intro lbl x1 x2 x3 x4 x5 h r h' E; cases E
  | succ f ih =>
    intro lbl x1 x2 x3 x4 x5 h r h' E hs
    unfold gX12_trueMinute at E
    by_cases el0 : lbl = 0
    · have E := (if_pos el0).symm.trans E
      by_cases c7 : (vX12_isTrain b0 (x1 : Int32) h) = (0 : Int32)
      · have E := (if_pos c7).symm.trans E
        exact ea_shO E hs
      have E := (if_neg c7).symm.trans E
      by_cases c6 : (vX12_isMinute (x2 : Int32) h) = (0 : Int32)
      · have E := (if_pos c6).symm.trans E
        exact ea_shO E hs
      have E := (if_neg c6).symm.trans E
      by_cases c5 : (vX12_isIn (x3 : Int32) (0 : Int32) (1 : Int32) h) = (0 : Int32)
      · have E := (if_pos c5).symm.trans E
        exact ea_shO E hs
      have E := (if_neg c5).symm.trans E
      obtain ⟨z4, E⟩ := gd_some E
      exact ih 37 (x1 : Int32) (x2 : Int32) (x3 : Int32) ((-1) : Int32) ((ea_i h (b0 + 80) (Int32.toNatClampNeg x1)) : Int32) h _ _ E hs
    have E := (if_neg el0).symm.trans E
    by_cases el1 : lbl = 37
    · have E := (if_pos el1).symm.trans E
      by_cases c10 : (10079 : Int32) < x5
      · have E := (if_pos c10).symm.trans E
        exact ea_shO E hs
      have E := (if_neg c10).symm.trans E
      by_cases c9 : x3 = (1 : Int32)
      · have E := (if_pos c9).symm.trans E
        exact ih 56 (x1 : Int32) (x2 : Int32) (x3 : Int32) (x4 : Int32) (x5 : Int32) h _ _ E hs
      have E := (if_neg c9).symm.trans E
      by_cases c8 : x4 = ((-1) : Int32)
      · have E := (if_pos c8).symm.trans E
        exact ih 56 (x1 : Int32) (x2 : Int32) (x3 : Int32) (x4 : Int32) (x5 : Int32) h _ _ E hs
      have E := (if_neg c8).symm.trans E
      exact ea_shO E hs
    have E := (if_neg el1).symm.trans E
    by_cases el2 : lbl = 56
    · have E := (if_pos el2).symm.trans E
      obtain ⟨z11, E⟩ := gd_some E
      obtain ⟨H13, eH13, E⟩ := let_some E
      have hsH13 : ShM b0 H13 := by rw [eH13]; exact (shX12_mayShow hs)
      by_cases c14 : (vX12_mayShow b0 (x1 : Int32) (x2 : Int32) (x5 : Int32) h) = (0 : Int32)
      · have E := (if_pos c14).symm.trans E
        exact ih 37 (x1 : Int32) (x2 : Int32) (x3 : Int32) (x4 : Int32) ((x5 + (1 : Int32)) : Int32) H13 _ _ E hsH13
      have E := (if_neg c14).symm.trans E
      exact ih 37 (x1 : Int32) (x2 : Int32) (x3 : Int32) (x5 : Int32) ((x5 + (1 : Int32)) : Int32) H13 _ _ E hsH13
    have E := (if_neg el2).symm.trans E
    cases E
theorem shX12_trueMinute {b0 : Nat} {x1 : Int32} {x2 : Int32} {x3 : Int32} {h : ea_H} (hs : ShM b0 h) : ShM b0 (wX12_trueMinute b0 x1 x2 x3 h) := by
  unfold wX12_trueMinute
  cases K : qX12_trueMinute b0 x1 x2 x3 h with
  | none => exact hs
  | some x => obtain ⟨x, y⟩ := x; unfold qX12_trueMinute at K; exact zX12_trueMinute _ _ _ _ _ _ _ _ _ _ K hs
noncomputable def gX12_tried (b0 : Nat) : Nat → Nat → Int32 → Int32 → Int64 → ea_H → Option (Int64 × ea_H)
  | 0, _, _, _, _, _ => none
  | f + 1, lbl, x1, x4, y2, h =>
    if lbl = 0 then (if (vX12_isIn (x1 : Int32) (0 : Int32) (((ea_i h (b0 + 0) 25) - (1 : Int32)) : Int32) h) = (0 : Int32) then (some (((-1) : Int64), h)) else (gX12_tried b0 f 23 (x1 : Int32) (0 : Int32) (0 : Int64) h)) else
    if lbl = 23 then (if (ea_i h (b0 + 0) 63) ≤ x4 then (some (y2, h)) else (gd ((okX12_chargeBy b0 (x4 : Int32) (x1 : Int32) h)) (ea_let (wX12_chargeBy b0 (x4 : Int32) (x1 : Int32) h) fun H5 => (gX12_tried b0 f 23 (x1 : Int32) ((x4 + (1 : Int32)) : Int32) ((y2 + (Int32.toInt64 (vX12_chargeBy b0 (x4 : Int32) (x1 : Int32) h))) : Int64) H5)))) else none
theorem tX12_tried {d : Nat} {b0 : Nat} {h0 : ea_H} (hd : 5 ≤ d) : ∀ (f lbl : Nat) (x1 : Int32) (x4 : Int32) (y2 : Int64) (h : ea_H) (r : Int64) (h' : ea_H), gX12_tried b0 f lbl x1 x4 y2 h = some (r, h') → ShM b0 h → (lbl = 0 → ea_W mX12_tried d h0 (some (vJ r)) h' 0 [(0, vR (some (b0 + 0))), (1, vI x1)] [] h) ∧ (lbl = 23 → ea_W mX12_tried d h0 (some (vJ r)) h' 23 [(0, vR (some (b0 + 0))), (1, vI x1), (2, vJ y2), (4, vI x4)] [] h) := by
  intro f
  induction f with
  | zero => intro lbl x1 x4 y2 h r h' E; cases E
  | succ f ih =>
    intro lbl x1 x4 y2 h r h' E hs
    unfold gX12_tried at E
    refine ⟨?_, ?_⟩
    · intro el
      subst el
      have E := (if_pos rfl).symm.trans E
      refine ea_iload_n (pc := 0) dX12_tried_0 rfl 1 rfl ?_
      refine ea_iconst (pc := 1) dX12_tried_1 (v := 0) rfl ?_
      refine ea_aload_n (pc := 2) dX12_tried_2 rfl 0 rfl ?_
      refine ea_getI (pc := 3) dX12_tried_3 ec_12 (k := 25) (Nat.le_of_ble_eq_true rfl) rfl (Or.inl ew_1370) (hs.1 0 (by decide)).1 (hs.1 0 (by decide)).2.1 ?_
      refine ea_iconst (pc := 6) dX12_tried_6 (v := 1) rfl ?_
      refine ea_isub (pc := 7) dX12_tried_7 ?_
      refine ea_callS (pc := 8) (d' := d - 1) (As := [vI x1, vI 0, vI ((ea_i h (b0 + 0) 25) - (1 : Int32))]) (st := []) dX12_tried_8 kX12_isIn (sX12_isIn (d := d - 1) (by omega)) (by omega) rfl (Nat.le_of_ble_eq_true rfl) ew_1712 ew_1713 ?_
      refine ea_if_ne (pc := 11) (tgt := 18) dX12_tried_11 rfl (fun c2 => ?_) (fun c2 => ?_)
      · have E := (if_neg c2).symm.trans E
        refine ea_lconst (pc := 18) dX12_tried_18 (v := 0) rfl ?_
        refine ea_lstore_n (pc := 19) (lv' := [(0, vR (some (b0 + 0))), (1, vI x1), (2, vJ 0)]) dX12_tried_19 rfl (Nat.le_of_ble_eq_true rfl) [1, 2, 0] rfl ?_
        refine ea_iconst (pc := 20) dX12_tried_20 (v := 0) rfl ?_
        refine ea_istore (pc := 21) (lv' := [(0, vR (some (b0 + 0))), (1, vI x1), (2, vJ 0), (4, vI 0)]) dX12_tried_21 (Nat.le_of_ble_eq_true rfl) [1, 2, 3, 0] rfl ?_
        exact ((ih 23 (x1 : Int32) (0 : Int32) (0 : Int64) h _ _ E hs).2 rfl)
      · have E := (if_pos c2).symm.trans E
        refine ea_ldc2 (pc := 14) dX12_tried_14 ew_2118 ?_
        exact ea_lretO (pc := 17) dX12_tried_17 rfl E
    intro el
    subst el
    have E := (if_neg (by decide)).symm.trans E
    have E := (if_pos rfl).symm.trans E
    refine ea_iload (pc := 23) dX12_tried_23 3 rfl ?_
    refine ea_aload_n (pc := 25) dX12_tried_25 rfl 0 rfl ?_
    refine ea_getI (pc := 26) dX12_tried_26 ec_12 (k := 63) (Nat.le_of_ble_eq_true rfl) rfl (Or.inl ew_1408) (hs.1 0 (by decide)).1 (hs.1 0 (by decide)).2.1 ?_
    refine ea_icmp_ge (pc := 29) (tgt := 49) dX12_tried_29 rfl (fun c6 => ?_) (fun c6 => ?_)
    · have E := (if_pos c6).symm.trans E
      refine ea_lload_n (pc := 49) dX12_tried_49 rfl 2 rfl ?_
      exact ea_lretO (pc := 50) dX12_tried_50 rfl E
    · have E := (if_neg c6).symm.trans E
      refine ea_lload_n (pc := 32) dX12_tried_32 rfl 2 rfl ?_
      refine ea_aload_n (pc := 33) dX12_tried_33 rfl 0 rfl ?_
      refine ea_iload (pc := 34) dX12_tried_34 3 rfl ?_
      refine ea_iload_n (pc := 36) dX12_tried_36 rfl 1 rfl ?_
      obtain ⟨z3, E⟩ := gd_some E
      refine ea_callV (pc := 37) (d' := d - 1) (As := [vI x4, vI x1]) (st := [vJ y2]) dX12_tried_37 kX12_chargeBy (sX12_chargeBy (d := d - 1) (by omega) hs z3) (by omega) rfl (Nat.le_of_ble_eq_true rfl) ew_1991 ew_1993 ew_84 (ci := 12) rfl (by decide) (hs.1 0 (by decide)).1 (hs.1 0 (by decide)).2.1 ?_
      have hs4 : ShM b0 (wX12_chargeBy b0 (x4 : Int32) (x1 : Int32) h) := shX12_chargeBy hs
      obtain ⟨H5, eH5, E⟩ := let_some E
      refine ea_nm eH5 ?_
      have hsH5 : ShM b0 H5 := by rw [eH5]; exact hs4
      refine ea_i2l (pc := 40) dX12_tried_40 ?_
      refine ea_ladd (pc := 41) dX12_tried_41 ?_
      refine ea_lstore_n (pc := 42) (lv' := [(0, vR (some (b0 + 0))), (1, vI x1), (2, vJ (y2 + (Int32.toInt64 (vX12_chargeBy b0 (x4 : Int32) (x1 : Int32) h)))), (4, vI x4)]) dX12_tried_42 rfl (Nat.le_of_ble_eq_true rfl) [1, 2, 0, 3] rfl ?_
      refine ea_iinc (pc := 43) (v := 1) (lv' := [(0, vR (some (b0 + 0))), (1, vI x1), (2, vJ (y2 + (Int32.toInt64 (vX12_chargeBy b0 (x4 : Int32) (x1 : Int32) h)))), (4, vI (x4 + (1 : Int32)))]) dX12_tried_43 3 rfl rfl (Nat.le_of_ble_eq_true rfl) [1, 2, 3, 0] rfl ?_
      refine ea_goto (pc := 46) (tgt := 23) dX12_tried_46 rfl ?_
      exact ((ih 23 (x1 : Int32) ((x4 + (1 : Int32)) : Int32) ((y2 + (Int32.toInt64 (vX12_chargeBy b0 (x4 : Int32) (x1 : Int32) h))) : Int64) H5 _ _ E hsH5).2 rfl)
noncomputable def qX12_tried (b0 : Nat) (x1 : Int32) (h : ea_H) : Option (Int64 × ea_H) := gX12_tried b0 1000000000 0 x1 0 0 h
def okX12_tried (b0 : Nat) (x1 : Int32) (h : ea_H) : Prop := ∃ x, qX12_tried b0 x1 h = some x
noncomputable def vX12_tried (b0 : Nat) (x1 : Int32) (h : ea_H) : Int64 := ((qX12_tried b0 x1 h).getD (0, h)).1
noncomputable def wX12_tried (b0 : Nat) (x1 : Int32) (h : ea_H) : ea_H := ((qX12_tried b0 x1 h).getD (0, h)).2
theorem sX12_tried {d : Nat} {b0 : Nat} {x1 : Int32} {h : ea_H} (hd : 5 ≤ d) (hs : ShM b0 h) (K : okX12_tried b0 x1 h) : ea_Met mX12_tried d [vR (some (b0 + 0)), vI x1] h (some (vJ (vX12_tried b0 x1 h))) (wX12_tried b0 x1 h) := by
  obtain ⟨⟨x, y⟩, K⟩ := K
  unfold wX12_tried vX12_tried
  rw [K]
  unfold qX12_tried at K
  exact ea_enter rfl (Nat.le_of_ble_eq_true rfl) ((tX12_tried hd 1000000000 0 x1 0 0 h x y K hs).1 rfl)
theorem zX12_tried {b0 : Nat} : ∀ (f lbl : Nat) (x1 : Int32) (x4 : Int32) (y2 : Int64) (h : ea_H) (r : Int64) (h' : ea_H), gX12_tried b0 f lbl x1 x4 y2 h = some (r, h') → ShM b0 h → ShM b0 h' := by
  intro f
  induction f with
  | zero => intro lbl x1 x4 y2 h r h' E; cases E
  | succ f ih =>
    intro lbl x1 x4 y2 h r h' E hs
    unfold gX12_tried at E
    by_cases el0 : lbl = 0
    · have E := (if_pos el0).symm.trans E
      by_cases c2 : (vX12_isIn (x1 : Int32) (0 : Int32) (((ea_i h (b0 + 0) 25) - (1 : Int32)) : Int32) h) = (0 : Int32)
      · have E := (if_pos c2).symm.trans E
        exact ea_shO E hs
      have E := (if_neg c2).symm.trans E
      exact ih 23 (x1 : Int32) (0 : Int32) (0 : Int64) h _ _ E hs
    have E := (if_neg el0).symm.trans E
    by_cases el1 : lbl = 23
    · have E := (if_pos el1).symm.trans E
      by_cases c6 : (ea_i h (b0 + 0) 63) ≤ x4
      · have E := (if_pos c6).symm.trans E
        exact ea_shO E hs
      have E := (if_neg c6).symm.trans E
      obtain ⟨z3, E⟩ := gd_some E
      obtain ⟨H5, eH5, E⟩ := let_some E
      have hsH5 : ShM b0 H5 := by rw [eH5]; exact (shX12_chargeBy hs)
      exact ih 23 (x1 : Int32) ((x4 + (1 : Int32)) : Int32) ((y2 + (Int32.toInt64 (vX12_chargeBy b0 (x4 : Int32) (x1 : Int32) h))) : Int64) H5 _ _ E hsH5
    have E := (if_neg el1).symm.trans E
    cases E
theorem shX12_tried {b0 : Nat} {x1 : Int32} {h : ea_H} (hs : ShM b0 h) : ShM b0 (wX12_tried b0 x1 h) := by
  unfold wX12_tried
  cases K : qX12_tried b0 x1 h with
  | none => exact hs
  | some x => obtain ⟨x, y⟩ := x; unfold qX12_tried at K; exact zX12_tried _ _ _ _ _ _ _ _ K hs
noncomputable def gX12_keeps (b0 : Nat) : Nat → Nat → Int32 → ea_H → Option (Unit × ea_H)
  | 0, _, _, _ => none
  | f + 1, lbl, x1, h =>
    if lbl = 0 then (gX12_keeps b0 f 2 (0 : Int32) h) else
    if lbl = 2 then (if (ea_i h (b0 + 0) 63) ≤ x1 then (gX12_keeps b0 f 114 (0 : Int32) h) else (gd (vp_in x1 120) (gd (vp_in x1 120) (ea_let (ea_wi h (b0 + 81) (Int32.toNatClampNeg x1) (ea_i h (b0 + 55) (Int32.toNatClampNeg x1))) fun H4 => (gd (vp_in x1 120) (gd (vp_in x1 120) (ea_let (ea_wi H4 (b0 + 82) (Int32.toNatClampNeg x1) (ea_i H4 (b0 + 56) (Int32.toNatClampNeg x1))) fun H8 => (gd (vp_in x1 120) (gd (vp_in x1 120) (ea_let (ea_wi H8 (b0 + 83) (Int32.toNatClampNeg x1) (ea_i H8 (b0 + 57) (Int32.toNatClampNeg x1))) fun H12 => (gd (vp_in x1 120) (gd (vp_in x1 120) (ea_let (ea_wi H12 (b0 + 84) (Int32.toNatClampNeg x1) (ea_i H12 (b0 + 58) (Int32.toNatClampNeg x1))) fun H16 => (gd (vp_in x1 120) (gd (vp_in x1 120) (ea_let (ea_wi H16 (b0 + 85) (Int32.toNatClampNeg x1) (ea_i H16 (b0 + 59) (Int32.toNatClampNeg x1))) fun H20 => (gd (vp_in x1 120) (gd (vp_in x1 120) (ea_let (ea_wi H20 (b0 + 86) (Int32.toNatClampNeg x1) (ea_i H20 (b0 + 50) (Int32.toNatClampNeg x1))) fun H24 => (gd (vp_in x1 120) (gd (vp_in x1 120) (ea_let (ea_wi H24 (b0 + 87) (Int32.toNatClampNeg x1) (ea_i H24 (b0 + 51) (Int32.toNatClampNeg x1))) fun H28 => (gd (vp_in x1 120) (gd (vp_in x1 120) (gd (((ea_i H28 (b0 + 61) (Int32.toNatClampNeg x1)) = 0 ∨ (ea_i H28 (b0 + 61) (Int32.toNatClampNeg x1)) = 1)) (ea_let (ea_wi H28 (b0 + 89) (Int32.toNatClampNeg x1) (ea_i H28 (b0 + 61) (Int32.toNatClampNeg x1))) fun H33 => (gX12_keeps b0 f 2 ((x1 + (1 : Int32)) : Int32) H33))))))))))))))))))))))))))) else
    if lbl = 114 then (if (70 : Int32) ≤ x1 then (some ((), h)) else (gd (vp_in x1 70) (gd (vp_in x1 70) (ea_let (ea_wi h (b0 + 88) (Int32.toNatClampNeg x1) (ea_i h (b0 + 60) (Int32.toNatClampNeg x1))) fun H38 => (gX12_keeps b0 f 114 ((x1 + (1 : Int32)) : Int32) H38))))) else none
theorem tX12_keeps {d : Nat} {b0 : Nat} {h0 : ea_H} (hd : 1 ≤ d) : ∀ (f lbl : Nat) (x1 : Int32) (h : ea_H) (r : Unit) (h' : ea_H), gX12_keeps b0 f lbl x1 h = some (r, h') → ShM b0 h → (lbl = 0 → ea_W mX12_keeps d h0 none h' 0 [(0, vR (some (b0 + 0)))] [] h) ∧ (lbl = 2 → ea_W mX12_keeps d h0 none h' 2 [(0, vR (some (b0 + 0))), (1, vI x1)] [] h) ∧ (lbl = 114 → ea_W mX12_keeps d h0 none h' 114 [(0, vR (some (b0 + 0))), (1, vI x1)] [] h) := by
  intro f
  induction f with
  | zero => intro lbl x1 h r h' E; cases E
  | succ f ih =>
    intro lbl x1 h r h' E hs
    unfold gX12_keeps at E
    refine ⟨?_, ?_⟩
    · intro el
      subst el
      have E := (if_pos rfl).symm.trans E
      refine ea_iconst (pc := 0) dX12_keeps_0 (v := 0) rfl ?_
      refine ea_istore_n (pc := 1) (lv' := [(0, vR (some (b0 + 0))), (1, vI 0)]) dX12_keeps_1 rfl (Nat.le_of_ble_eq_true rfl) [1, 0] rfl ?_
      exact ((ih 2 (0 : Int32) h _ _ E hs).2.1 rfl)
    refine ⟨?_, ?_⟩
    · intro el
      subst el
      have E := (if_neg (by decide)).symm.trans E
      have E := (if_pos rfl).symm.trans E
      refine ea_iload_n (pc := 2) dX12_keeps_2 rfl 1 rfl ?_
      refine ea_aload_n (pc := 3) dX12_keeps_3 rfl 0 rfl ?_
      refine ea_getI (pc := 4) dX12_keeps_4 ec_12 (k := 63) (Nat.le_of_ble_eq_true rfl) rfl (Or.inl ew_1408) (hs.1 0 (by decide)).1 (hs.1 0 (by decide)).2.1 ?_
      refine ea_icmp_ge (pc := 7) (tgt := 112) dX12_keeps_7 rfl (fun c34 => ?_) (fun c34 => ?_)
      · have E := (if_pos c34).symm.trans E
        refine ea_iconst (pc := 112) dX12_keeps_112 (v := 0) rfl ?_
        refine ea_istore_n (pc := 113) (lv' := [(0, vR (some (b0 + 0))), (1, vI 0)]) dX12_keeps_113 rfl (Nat.le_of_ble_eq_true rfl) [1, 0] rfl ?_
        exact ((ih 114 (0 : Int32) h _ _ E hs).2.2 rfl)
      · have E := (if_neg c34).symm.trans E
        refine ea_aload_n (pc := 10) dX12_keeps_10 rfl 0 rfl ?_
        refine ea_getR (pc := 11) dX12_keeps_11 ec_12 (k := 109) (Nat.le_of_ble_eq_true rfl) rfl (Or.inl ew_1454) (hs.1 0 (by decide)).1 (hs.1 0 (by decide)).2.1 (hs.2 0 109 rfl) ?_
        refine ea_iload_n (pc := 14) dX12_keeps_14 rfl 1 rfl ?_
        refine ea_aload_n (pc := 15) dX12_keeps_15 rfl 0 rfl ?_
        refine ea_getR (pc := 16) dX12_keeps_16 ec_12 (k := 81) (Nat.le_of_ble_eq_true rfl) rfl (Or.inl ew_1426) (hs.1 0 (by decide)).1 (hs.1 0 (by decide)).2.1 (hs.2 0 81 rfl) ?_
        refine ea_iload_n (pc := 19) dX12_keeps_19 rfl 1 rfl ?_
        obtain ⟨z1, E⟩ := gd_some E
        refine ea_iald (pc := 20) dX12_keeps_20 (hs.1 55 (by decide)).1 (hs.1 55 (by decide)).2.1 (ea_vpl (hs.1 55 (by decide)).2.2 z1) ?_
        obtain ⟨z2, E⟩ := gd_some E
        refine ea_iast (pc := 21) dX12_keeps_21 (hs.1 81 (by decide)).1 (hs.1 81 (by decide)).2.1 (ea_vpl (hs.1 81 (by decide)).2.2 z2) ?_
        have hs3 : ShM b0 (ea_wi h (b0 + 81) (Int32.toNatClampNeg x1) (ea_i h (b0 + 55) (Int32.toNatClampNeg x1))) := ShM_wi hs
        obtain ⟨H4, eH4, E⟩ := let_some E
        refine ea_nm eH4 ?_
        have hsH4 : ShM b0 H4 := by rw [eH4]; exact hs3
        refine ea_aload_n (pc := 22) dX12_keeps_22 rfl 0 rfl ?_
        refine ea_getR (pc := 23) dX12_keeps_23 ec_12 (k := 110) (Nat.le_of_ble_eq_true rfl) rfl (Or.inl ew_1455) (hsH4.1 0 (by decide)).1 (hsH4.1 0 (by decide)).2.1 (hsH4.2 0 110 rfl) ?_
        refine ea_iload_n (pc := 26) dX12_keeps_26 rfl 1 rfl ?_
        refine ea_aload_n (pc := 27) dX12_keeps_27 rfl 0 rfl ?_
        refine ea_getR (pc := 28) dX12_keeps_28 ec_12 (k := 82) (Nat.le_of_ble_eq_true rfl) rfl (Or.inl ew_1427) (hsH4.1 0 (by decide)).1 (hsH4.1 0 (by decide)).2.1 (hsH4.2 0 82 rfl) ?_
        refine ea_iload_n (pc := 31) dX12_keeps_31 rfl 1 rfl ?_
        obtain ⟨z5, E⟩ := gd_some E
        refine ea_iald (pc := 32) dX12_keeps_32 (hsH4.1 56 (by decide)).1 (hsH4.1 56 (by decide)).2.1 (ea_vpl (hsH4.1 56 (by decide)).2.2 z5) ?_
        obtain ⟨z6, E⟩ := gd_some E
        refine ea_iast (pc := 33) dX12_keeps_33 (hsH4.1 82 (by decide)).1 (hsH4.1 82 (by decide)).2.1 (ea_vpl (hsH4.1 82 (by decide)).2.2 z6) ?_
        have hs7 : ShM b0 (ea_wi H4 (b0 + 82) (Int32.toNatClampNeg x1) (ea_i H4 (b0 + 56) (Int32.toNatClampNeg x1))) := ShM_wi hsH4
        obtain ⟨H8, eH8, E⟩ := let_some E
        refine ea_nm eH8 ?_
        have hsH8 : ShM b0 H8 := by rw [eH8]; exact hs7
        refine ea_aload_n (pc := 34) dX12_keeps_34 rfl 0 rfl ?_
        refine ea_getR (pc := 35) dX12_keeps_35 ec_12 (k := 111) (Nat.le_of_ble_eq_true rfl) rfl (Or.inl ew_1456) (hsH8.1 0 (by decide)).1 (hsH8.1 0 (by decide)).2.1 (hsH8.2 0 111 rfl) ?_
        refine ea_iload_n (pc := 38) dX12_keeps_38 rfl 1 rfl ?_
        refine ea_aload_n (pc := 39) dX12_keeps_39 rfl 0 rfl ?_
        refine ea_getR (pc := 40) dX12_keeps_40 ec_12 (k := 83) (Nat.le_of_ble_eq_true rfl) rfl (Or.inl ew_1428) (hsH8.1 0 (by decide)).1 (hsH8.1 0 (by decide)).2.1 (hsH8.2 0 83 rfl) ?_
        refine ea_iload_n (pc := 43) dX12_keeps_43 rfl 1 rfl ?_
        obtain ⟨z9, E⟩ := gd_some E
        refine ea_iald (pc := 44) dX12_keeps_44 (hsH8.1 57 (by decide)).1 (hsH8.1 57 (by decide)).2.1 (ea_vpl (hsH8.1 57 (by decide)).2.2 z9) ?_
        obtain ⟨z10, E⟩ := gd_some E
        refine ea_iast (pc := 45) dX12_keeps_45 (hsH8.1 83 (by decide)).1 (hsH8.1 83 (by decide)).2.1 (ea_vpl (hsH8.1 83 (by decide)).2.2 z10) ?_
        have hs11 : ShM b0 (ea_wi H8 (b0 + 83) (Int32.toNatClampNeg x1) (ea_i H8 (b0 + 57) (Int32.toNatClampNeg x1))) := ShM_wi hsH8
        obtain ⟨H12, eH12, E⟩ := let_some E
        refine ea_nm eH12 ?_
        have hsH12 : ShM b0 H12 := by rw [eH12]; exact hs11
        refine ea_aload_n (pc := 46) dX12_keeps_46 rfl 0 rfl ?_
        refine ea_getR (pc := 47) dX12_keeps_47 ec_12 (k := 112) (Nat.le_of_ble_eq_true rfl) rfl (Or.inl ew_1457) (hsH12.1 0 (by decide)).1 (hsH12.1 0 (by decide)).2.1 (hsH12.2 0 112 rfl) ?_
        refine ea_iload_n (pc := 50) dX12_keeps_50 rfl 1 rfl ?_
        refine ea_aload_n (pc := 51) dX12_keeps_51 rfl 0 rfl ?_
        refine ea_getR (pc := 52) dX12_keeps_52 ec_12 (k := 84) (Nat.le_of_ble_eq_true rfl) rfl (Or.inl ew_1429) (hsH12.1 0 (by decide)).1 (hsH12.1 0 (by decide)).2.1 (hsH12.2 0 84 rfl) ?_
        refine ea_iload_n (pc := 55) dX12_keeps_55 rfl 1 rfl ?_
        obtain ⟨z13, E⟩ := gd_some E
        refine ea_iald (pc := 56) dX12_keeps_56 (hsH12.1 58 (by decide)).1 (hsH12.1 58 (by decide)).2.1 (ea_vpl (hsH12.1 58 (by decide)).2.2 z13) ?_
        obtain ⟨z14, E⟩ := gd_some E
        refine ea_iast (pc := 57) dX12_keeps_57 (hsH12.1 84 (by decide)).1 (hsH12.1 84 (by decide)).2.1 (ea_vpl (hsH12.1 84 (by decide)).2.2 z14) ?_
        have hs15 : ShM b0 (ea_wi H12 (b0 + 84) (Int32.toNatClampNeg x1) (ea_i H12 (b0 + 58) (Int32.toNatClampNeg x1))) := ShM_wi hsH12
        obtain ⟨H16, eH16, E⟩ := let_some E
        refine ea_nm eH16 ?_
        have hsH16 : ShM b0 H16 := by rw [eH16]; exact hs15
        refine ea_aload_n (pc := 58) dX12_keeps_58 rfl 0 rfl ?_
        refine ea_getR (pc := 59) dX12_keeps_59 ec_12 (k := 113) (Nat.le_of_ble_eq_true rfl) rfl (Or.inl ew_1458) (hsH16.1 0 (by decide)).1 (hsH16.1 0 (by decide)).2.1 (hsH16.2 0 113 rfl) ?_
        refine ea_iload_n (pc := 62) dX12_keeps_62 rfl 1 rfl ?_
        refine ea_aload_n (pc := 63) dX12_keeps_63 rfl 0 rfl ?_
        refine ea_getR (pc := 64) dX12_keeps_64 ec_12 (k := 85) (Nat.le_of_ble_eq_true rfl) rfl (Or.inl ew_1430) (hsH16.1 0 (by decide)).1 (hsH16.1 0 (by decide)).2.1 (hsH16.2 0 85 rfl) ?_
        refine ea_iload_n (pc := 67) dX12_keeps_67 rfl 1 rfl ?_
        obtain ⟨z17, E⟩ := gd_some E
        refine ea_iald (pc := 68) dX12_keeps_68 (hsH16.1 59 (by decide)).1 (hsH16.1 59 (by decide)).2.1 (ea_vpl (hsH16.1 59 (by decide)).2.2 z17) ?_
        obtain ⟨z18, E⟩ := gd_some E
        refine ea_iast (pc := 69) dX12_keeps_69 (hsH16.1 85 (by decide)).1 (hsH16.1 85 (by decide)).2.1 (ea_vpl (hsH16.1 85 (by decide)).2.2 z18) ?_
        have hs19 : ShM b0 (ea_wi H16 (b0 + 85) (Int32.toNatClampNeg x1) (ea_i H16 (b0 + 59) (Int32.toNatClampNeg x1))) := ShM_wi hsH16
        obtain ⟨H20, eH20, E⟩ := let_some E
        refine ea_nm eH20 ?_
        have hsH20 : ShM b0 H20 := by rw [eH20]; exact hs19
        refine ea_aload_n (pc := 70) dX12_keeps_70 rfl 0 rfl ?_
        refine ea_getR (pc := 71) dX12_keeps_71 ec_12 (k := 114) (Nat.le_of_ble_eq_true rfl) rfl (Or.inl ew_1459) (hsH20.1 0 (by decide)).1 (hsH20.1 0 (by decide)).2.1 (hsH20.2 0 114 rfl) ?_
        refine ea_iload_n (pc := 74) dX12_keeps_74 rfl 1 rfl ?_
        refine ea_aload_n (pc := 75) dX12_keeps_75 rfl 0 rfl ?_
        refine ea_getR (pc := 76) dX12_keeps_76 ec_12 (k := 76) (Nat.le_of_ble_eq_true rfl) rfl (Or.inl ew_1421) (hsH20.1 0 (by decide)).1 (hsH20.1 0 (by decide)).2.1 (hsH20.2 0 76 rfl) ?_
        refine ea_iload_n (pc := 79) dX12_keeps_79 rfl 1 rfl ?_
        obtain ⟨z21, E⟩ := gd_some E
        refine ea_iald (pc := 80) dX12_keeps_80 (hsH20.1 50 (by decide)).1 (hsH20.1 50 (by decide)).2.1 (ea_vpl (hsH20.1 50 (by decide)).2.2 z21) ?_
        obtain ⟨z22, E⟩ := gd_some E
        refine ea_iast (pc := 81) dX12_keeps_81 (hsH20.1 86 (by decide)).1 (hsH20.1 86 (by decide)).2.1 (ea_vpl (hsH20.1 86 (by decide)).2.2 z22) ?_
        have hs23 : ShM b0 (ea_wi H20 (b0 + 86) (Int32.toNatClampNeg x1) (ea_i H20 (b0 + 50) (Int32.toNatClampNeg x1))) := ShM_wi hsH20
        obtain ⟨H24, eH24, E⟩ := let_some E
        refine ea_nm eH24 ?_
        have hsH24 : ShM b0 H24 := by rw [eH24]; exact hs23
        refine ea_aload_n (pc := 82) dX12_keeps_82 rfl 0 rfl ?_
        refine ea_getR (pc := 83) dX12_keeps_83 ec_12 (k := 115) (Nat.le_of_ble_eq_true rfl) rfl (Or.inl ew_1460) (hsH24.1 0 (by decide)).1 (hsH24.1 0 (by decide)).2.1 (hsH24.2 0 115 rfl) ?_
        refine ea_iload_n (pc := 86) dX12_keeps_86 rfl 1 rfl ?_
        refine ea_aload_n (pc := 87) dX12_keeps_87 rfl 0 rfl ?_
        refine ea_getR (pc := 88) dX12_keeps_88 ec_12 (k := 77) (Nat.le_of_ble_eq_true rfl) rfl (Or.inl ew_1422) (hsH24.1 0 (by decide)).1 (hsH24.1 0 (by decide)).2.1 (hsH24.2 0 77 rfl) ?_
        refine ea_iload_n (pc := 91) dX12_keeps_91 rfl 1 rfl ?_
        obtain ⟨z25, E⟩ := gd_some E
        refine ea_iald (pc := 92) dX12_keeps_92 (hsH24.1 51 (by decide)).1 (hsH24.1 51 (by decide)).2.1 (ea_vpl (hsH24.1 51 (by decide)).2.2 z25) ?_
        obtain ⟨z26, E⟩ := gd_some E
        refine ea_iast (pc := 93) dX12_keeps_93 (hsH24.1 87 (by decide)).1 (hsH24.1 87 (by decide)).2.1 (ea_vpl (hsH24.1 87 (by decide)).2.2 z26) ?_
        have hs27 : ShM b0 (ea_wi H24 (b0 + 87) (Int32.toNatClampNeg x1) (ea_i H24 (b0 + 51) (Int32.toNatClampNeg x1))) := ShM_wi hsH24
        obtain ⟨H28, eH28, E⟩ := let_some E
        refine ea_nm eH28 ?_
        have hsH28 : ShM b0 H28 := by rw [eH28]; exact hs27
        refine ea_aload_n (pc := 94) dX12_keeps_94 rfl 0 rfl ?_
        refine ea_getR (pc := 95) dX12_keeps_95 ec_12 (k := 117) (Nat.le_of_ble_eq_true rfl) rfl (Or.inl ew_1462) (hsH28.1 0 (by decide)).1 (hsH28.1 0 (by decide)).2.1 (hsH28.2 0 117 rfl) ?_
        refine ea_iload_n (pc := 98) dX12_keeps_98 rfl 1 rfl ?_
        refine ea_aload_n (pc := 99) dX12_keeps_99 rfl 0 rfl ?_
        refine ea_getR (pc := 100) dX12_keeps_100 ec_12 (k := 87) (Nat.le_of_ble_eq_true rfl) rfl (Or.inl ew_1432) (hsH28.1 0 (by decide)).1 (hsH28.1 0 (by decide)).2.1 (hsH28.2 0 87 rfl) ?_
        refine ea_iload_n (pc := 103) dX12_keeps_103 rfl 1 rfl ?_
        obtain ⟨z29, E⟩ := gd_some E
        refine ea_zald (pc := 104) dX12_keeps_104 (hsH28.1 61 (by decide)).1 (hsH28.1 61 (by decide)).2.1 (ea_vpl (hsH28.1 61 (by decide)).2.2 z29) ?_
        obtain ⟨z30, E⟩ := gd_some E
        obtain ⟨z32, E⟩ := gd_some E
        refine ea_zast (pc := 105) dX12_keeps_105 (y := (ea_i H28 (b0 + 61) (Int32.toNatClampNeg x1))) (ea_bn z32) (hsH28.1 89 (by decide)).1 (hsH28.1 89 (by decide)).2.1 (ea_vpl (hsH28.1 89 (by decide)).2.2 z30) ?_
        have hs31 : ShM b0 (ea_wi H28 (b0 + 89) (Int32.toNatClampNeg x1) (ea_i H28 (b0 + 61) (Int32.toNatClampNeg x1))) := ShM_wi hsH28
        obtain ⟨H33, eH33, E⟩ := let_some E
        refine ea_nm eH33 ?_
        have hsH33 : ShM b0 H33 := by rw [eH33]; exact hs31
        refine ea_iinc (pc := 106) (v := 1) (lv' := [(0, vR (some (b0 + 0))), (1, vI (x1 + (1 : Int32)))]) dX12_keeps_106 1 rfl rfl (Nat.le_of_ble_eq_true rfl) [1, 0] rfl ?_
        refine ea_goto (pc := 109) (tgt := 2) dX12_keeps_109 rfl ?_
        exact ((ih 2 ((x1 + (1 : Int32)) : Int32) H33 _ _ E hsH33).2.1 rfl)
    intro el
    subst el
    have E := (if_neg (by decide)).symm.trans E
    have E := (if_neg (by decide)).symm.trans E
    have E := (if_pos rfl).symm.trans E
    refine ea_iload_n (pc := 114) dX12_keeps_114 rfl 1 rfl ?_
    refine ea_bipush (pc := 115) dX12_keeps_115 (v := 70) rfl ?_
    refine ea_icmp_ge (pc := 117) (tgt := 138) dX12_keeps_117 rfl (fun c39 => ?_) (fun c39 => ?_)
    · have E := (if_pos c39).symm.trans E
      exact ea_vretO (pc := 138) dX12_keeps_138 rfl E
    · have E := (if_neg c39).symm.trans E
      refine ea_aload_n (pc := 120) dX12_keeps_120 rfl 0 rfl ?_
      refine ea_getR (pc := 121) dX12_keeps_121 ec_12 (k := 116) (Nat.le_of_ble_eq_true rfl) rfl (Or.inl ew_1461) (hs.1 0 (by decide)).1 (hs.1 0 (by decide)).2.1 (hs.2 0 116 rfl) ?_
      refine ea_iload_n (pc := 124) dX12_keeps_124 rfl 1 rfl ?_
      refine ea_aload_n (pc := 125) dX12_keeps_125 rfl 0 rfl ?_
      refine ea_getR (pc := 126) dX12_keeps_126 ec_12 (k := 86) (Nat.le_of_ble_eq_true rfl) rfl (Or.inl ew_1431) (hs.1 0 (by decide)).1 (hs.1 0 (by decide)).2.1 (hs.2 0 86 rfl) ?_
      refine ea_iload_n (pc := 129) dX12_keeps_129 rfl 1 rfl ?_
      obtain ⟨z35, E⟩ := gd_some E
      refine ea_iald (pc := 130) dX12_keeps_130 (hs.1 60 (by decide)).1 (hs.1 60 (by decide)).2.1 (ea_vpl (hs.1 60 (by decide)).2.2 z35) ?_
      obtain ⟨z36, E⟩ := gd_some E
      refine ea_iast (pc := 131) dX12_keeps_131 (hs.1 88 (by decide)).1 (hs.1 88 (by decide)).2.1 (ea_vpl (hs.1 88 (by decide)).2.2 z36) ?_
      have hs37 : ShM b0 (ea_wi h (b0 + 88) (Int32.toNatClampNeg x1) (ea_i h (b0 + 60) (Int32.toNatClampNeg x1))) := ShM_wi hs
      obtain ⟨H38, eH38, E⟩ := let_some E
      refine ea_nm eH38 ?_
      have hsH38 : ShM b0 H38 := by rw [eH38]; exact hs37
      refine ea_iinc (pc := 132) (v := 1) (lv' := [(0, vR (some (b0 + 0))), (1, vI (x1 + (1 : Int32)))]) dX12_keeps_132 1 rfl rfl (Nat.le_of_ble_eq_true rfl) [1, 0] rfl ?_
      refine ea_goto (pc := 135) (tgt := 114) dX12_keeps_135 rfl ?_
      exact ((ih 114 ((x1 + (1 : Int32)) : Int32) H38 _ _ E hsH38).2.2 rfl)
noncomputable def qX12_keeps (b0 : Nat) (h : ea_H) : Option (Unit × ea_H) := gX12_keeps b0 1000000000 0 0 h
def okX12_keeps (b0 : Nat) (h : ea_H) : Prop := ∃ x, qX12_keeps b0 h = some x
noncomputable def wX12_keeps (b0 : Nat) (h : ea_H) : ea_H := ((qX12_keeps b0 h).getD ((), h)).2
theorem sX12_keeps {d : Nat} {b0 : Nat} {h : ea_H} (hd : 1 ≤ d) (hs : ShM b0 h) (K : okX12_keeps b0 h) : ea_Met mX12_keeps d [vR (some (b0 + 0))] h none (wX12_keeps b0 h) := by
  obtain ⟨⟨x, y⟩, K⟩ := K
  unfold wX12_keeps
  rw [K]
  unfold qX12_keeps at K
  exact ea_enter rfl (Nat.le_of_ble_eq_true rfl) ((tX12_keeps hd 1000000000 0 0 h x y K hs).1 rfl)
theorem zX12_keeps {b0 : Nat} : ∀ (f lbl : Nat) (x1 : Int32) (h : ea_H) (r : Unit) (h' : ea_H), gX12_keeps b0 f lbl x1 h = some (r, h') → ShM b0 h → ShM b0 h' := by
  intro f
  induction f with
  | zero => intro lbl x1 h r h' E; cases E
  | succ f ih =>
    intro lbl x1 h r h' E hs
    unfold gX12_keeps at E
    by_cases el0 : lbl = 0
    · have E := (if_pos el0).symm.trans E
      exact ih 2 (0 : Int32) h _ _ E hs
    have E := (if_neg el0).symm.trans E
    by_cases el1 : lbl = 2
    · have E := (if_pos el1).symm.trans E
      by_cases c34 : (ea_i h (b0 + 0) 63) ≤ x1
      · have E := (if_pos c34).symm.trans E
        exact ih 114 (0 : Int32) h _ _ E hs
      have E := (if_neg c34).symm.trans E
      obtain ⟨z1, E⟩ := gd_some E
      obtain ⟨z2, E⟩ := gd_some E
      obtain ⟨H4, eH4, E⟩ := let_some E
      have hsH4 : ShM b0 H4 := by rw [eH4]; exact (ShM_wi hs)
      obtain ⟨z5, E⟩ := gd_some E
      obtain ⟨z6, E⟩ := gd_some E
      obtain ⟨H8, eH8, E⟩ := let_some E
      have hsH8 : ShM b0 H8 := by rw [eH8]; exact (ShM_wi hsH4)
      obtain ⟨z9, E⟩ := gd_some E
      obtain ⟨z10, E⟩ := gd_some E
      obtain ⟨H12, eH12, E⟩ := let_some E
      have hsH12 : ShM b0 H12 := by rw [eH12]; exact (ShM_wi hsH8)
      obtain ⟨z13, E⟩ := gd_some E
      obtain ⟨z14, E⟩ := gd_some E
      obtain ⟨H16, eH16, E⟩ := let_some E
      have hsH16 : ShM b0 H16 := by rw [eH16]; exact (ShM_wi hsH12)
      obtain ⟨z17, E⟩ := gd_some E
      obtain ⟨z18, E⟩ := gd_some E
      obtain ⟨H20, eH20, E⟩ := let_some E
      have hsH20 : ShM b0 H20 := by rw [eH20]; exact (ShM_wi hsH16)
      obtain ⟨z21, E⟩ := gd_some E
      obtain ⟨z22, E⟩ := gd_some E
      obtain ⟨H24, eH24, E⟩ := let_some E
      have hsH24 : ShM b0 H24 := by rw [eH24]; exact (ShM_wi hsH20)
      obtain ⟨z25, E⟩ := gd_some E
      obtain ⟨z26, E⟩ := gd_some E
      obtain ⟨H28, eH28, E⟩ := let_some E
      have hsH28 : ShM b0 H28 := by rw [eH28]; exact (ShM_wi hsH24)
      obtain ⟨z29, E⟩ := gd_some E
      obtain ⟨z30, E⟩ := gd_some E
      obtain ⟨z32, E⟩ := gd_some E
      obtain ⟨H33, eH33, E⟩ := let_some E
      have hsH33 : ShM b0 H33 := by rw [eH33]; exact (ShM_wi hsH28)
      exact ih 2 ((x1 + (1 : Int32)) : Int32) H33 _ _ E hsH33
    have E := (if_neg el1).symm.trans E
    by_cases el2 : lbl = 114
    · have E := (if_pos el2).symm.trans E
      by_cases c39 : (70 : Int32) ≤ x1
      · have E := (if_pos c39).symm.trans E
        exact ea_shO E hs
      have E := (if_neg c39).symm.trans E
      obtain ⟨z35, E⟩ := gd_some E
      obtain ⟨z36, E⟩ := gd_some E
      obtain ⟨H38, eH38, E⟩ := let_some E
      have hsH38 : ShM b0 H38 := by rw [eH38]; exact (ShM_wi hs)
      exact ih 114 ((x1 + (1 : Int32)) : Int32) H38 _ _ E hsH38
    have E := (if_neg el2).symm.trans E
    cases E
theorem shX12_keeps {b0 : Nat} {h : ea_H} (hs : ShM b0 h) : ShM b0 (wX12_keeps b0 h) := by
  unfold wX12_keeps
  cases K : qX12_keeps b0 h with
  | none => exact hs
  | some x => obtain ⟨x, y⟩ := x; unfold qX12_keeps at K; exact zX12_keeps _ _ _ _ _ _ K hs
noncomputable def gX12_putsBack (b0 : Nat) : Nat → Nat → Int32 → ea_H → Option (Unit × ea_H)
  | 0, _, _, _ => none
  | f + 1, lbl, x1, h =>
    if lbl = 0 then (gX12_putsBack b0 f 2 (0 : Int32) h) else
    if lbl = 2 then (if (ea_i h (b0 + 0) 63) ≤ x1 then (gX12_putsBack b0 f 114 (0 : Int32) h) else (gd (vp_in x1 120) (gd (vp_in x1 120) (ea_let (ea_wi h (b0 + 55) (Int32.toNatClampNeg x1) (ea_i h (b0 + 81) (Int32.toNatClampNeg x1))) fun H4 => (gd (vp_in x1 120) (gd (vp_in x1 120) (ea_let (ea_wi H4 (b0 + 56) (Int32.toNatClampNeg x1) (ea_i H4 (b0 + 82) (Int32.toNatClampNeg x1))) fun H8 => (gd (vp_in x1 120) (gd (vp_in x1 120) (ea_let (ea_wi H8 (b0 + 57) (Int32.toNatClampNeg x1) (ea_i H8 (b0 + 83) (Int32.toNatClampNeg x1))) fun H12 => (gd (vp_in x1 120) (gd (vp_in x1 120) (ea_let (ea_wi H12 (b0 + 58) (Int32.toNatClampNeg x1) (ea_i H12 (b0 + 84) (Int32.toNatClampNeg x1))) fun H16 => (gd (vp_in x1 120) (gd (vp_in x1 120) (ea_let (ea_wi H16 (b0 + 59) (Int32.toNatClampNeg x1) (ea_i H16 (b0 + 85) (Int32.toNatClampNeg x1))) fun H20 => (gd (vp_in x1 120) (gd (vp_in x1 120) (ea_let (ea_wi H20 (b0 + 50) (Int32.toNatClampNeg x1) (ea_i H20 (b0 + 86) (Int32.toNatClampNeg x1))) fun H24 => (gd (vp_in x1 120) (gd (vp_in x1 120) (ea_let (ea_wi H24 (b0 + 51) (Int32.toNatClampNeg x1) (ea_i H24 (b0 + 87) (Int32.toNatClampNeg x1))) fun H28 => (gd (vp_in x1 120) (gd (vp_in x1 120) (gd (((ea_i H28 (b0 + 89) (Int32.toNatClampNeg x1)) = 0 ∨ (ea_i H28 (b0 + 89) (Int32.toNatClampNeg x1)) = 1)) (ea_let (ea_wi H28 (b0 + 61) (Int32.toNatClampNeg x1) (ea_i H28 (b0 + 89) (Int32.toNatClampNeg x1))) fun H33 => (gX12_putsBack b0 f 2 ((x1 + (1 : Int32)) : Int32) H33))))))))))))))))))))))))))) else
    if lbl = 114 then (if (70 : Int32) ≤ x1 then (some ((), h)) else (gd (vp_in x1 70) (gd (vp_in x1 70) (ea_let (ea_wi h (b0 + 60) (Int32.toNatClampNeg x1) (ea_i h (b0 + 88) (Int32.toNatClampNeg x1))) fun H38 => (gX12_putsBack b0 f 114 ((x1 + (1 : Int32)) : Int32) H38))))) else none
theorem tX12_putsBack {d : Nat} {b0 : Nat} {h0 : ea_H} (hd : 1 ≤ d) : ∀ (f lbl : Nat) (x1 : Int32) (h : ea_H) (r : Unit) (h' : ea_H), gX12_putsBack b0 f lbl x1 h = some (r, h') → ShM b0 h → (lbl = 0 → ea_W mX12_putsBack d h0 none h' 0 [(0, vR (some (b0 + 0)))] [] h) ∧ (lbl = 2 → ea_W mX12_putsBack d h0 none h' 2 [(0, vR (some (b0 + 0))), (1, vI x1)] [] h) ∧ (lbl = 114 → ea_W mX12_putsBack d h0 none h' 114 [(0, vR (some (b0 + 0))), (1, vI x1)] [] h) := by
  intro f
  induction f with
  | zero => intro lbl x1 h r h' E; cases E
  | succ f ih =>
    intro lbl x1 h r h' E hs
    unfold gX12_putsBack at E
    refine ⟨?_, ?_⟩
    · intro el
      subst el
      have E := (if_pos rfl).symm.trans E
      refine ea_iconst (pc := 0) dX12_putsBack_0 (v := 0) rfl ?_
      refine ea_istore_n (pc := 1) (lv' := [(0, vR (some (b0 + 0))), (1, vI 0)]) dX12_putsBack_1 rfl (Nat.le_of_ble_eq_true rfl) [1, 0] rfl ?_
      exact ((ih 2 (0 : Int32) h _ _ E hs).2.1 rfl)
    refine ⟨?_, ?_⟩
    · intro el
      subst el
      have E := (if_neg (by decide)).symm.trans E
      have E := (if_pos rfl).symm.trans E
      refine ea_iload_n (pc := 2) dX12_putsBack_2 rfl 1 rfl ?_
      refine ea_aload_n (pc := 3) dX12_putsBack_3 rfl 0 rfl ?_
      refine ea_getI (pc := 4) dX12_putsBack_4 ec_12 (k := 63) (Nat.le_of_ble_eq_true rfl) rfl (Or.inl ew_1408) (hs.1 0 (by decide)).1 (hs.1 0 (by decide)).2.1 ?_
      refine ea_icmp_ge (pc := 7) (tgt := 112) dX12_putsBack_7 rfl (fun c34 => ?_) (fun c34 => ?_)
      · have E := (if_pos c34).symm.trans E
        refine ea_iconst (pc := 112) dX12_putsBack_112 (v := 0) rfl ?_
        refine ea_istore_n (pc := 113) (lv' := [(0, vR (some (b0 + 0))), (1, vI 0)]) dX12_putsBack_113 rfl (Nat.le_of_ble_eq_true rfl) [1, 0] rfl ?_
        exact ((ih 114 (0 : Int32) h _ _ E hs).2.2 rfl)
      · have E := (if_neg c34).symm.trans E
        refine ea_aload_n (pc := 10) dX12_putsBack_10 rfl 0 rfl ?_
        refine ea_getR (pc := 11) dX12_putsBack_11 ec_12 (k := 81) (Nat.le_of_ble_eq_true rfl) rfl (Or.inl ew_1426) (hs.1 0 (by decide)).1 (hs.1 0 (by decide)).2.1 (hs.2 0 81 rfl) ?_
        refine ea_iload_n (pc := 14) dX12_putsBack_14 rfl 1 rfl ?_
        refine ea_aload_n (pc := 15) dX12_putsBack_15 rfl 0 rfl ?_
        refine ea_getR (pc := 16) dX12_putsBack_16 ec_12 (k := 109) (Nat.le_of_ble_eq_true rfl) rfl (Or.inl ew_1454) (hs.1 0 (by decide)).1 (hs.1 0 (by decide)).2.1 (hs.2 0 109 rfl) ?_
        refine ea_iload_n (pc := 19) dX12_putsBack_19 rfl 1 rfl ?_
        obtain ⟨z1, E⟩ := gd_some E
        refine ea_iald (pc := 20) dX12_putsBack_20 (hs.1 81 (by decide)).1 (hs.1 81 (by decide)).2.1 (ea_vpl (hs.1 81 (by decide)).2.2 z1) ?_
        obtain ⟨z2, E⟩ := gd_some E
        refine ea_iast (pc := 21) dX12_putsBack_21 (hs.1 55 (by decide)).1 (hs.1 55 (by decide)).2.1 (ea_vpl (hs.1 55 (by decide)).2.2 z2) ?_
        have hs3 : ShM b0 (ea_wi h (b0 + 55) (Int32.toNatClampNeg x1) (ea_i h (b0 + 81) (Int32.toNatClampNeg x1))) := ShM_wi hs
        obtain ⟨H4, eH4, E⟩ := let_some E
        refine ea_nm eH4 ?_
        have hsH4 : ShM b0 H4 := by rw [eH4]; exact hs3
        refine ea_aload_n (pc := 22) dX12_putsBack_22 rfl 0 rfl ?_
        refine ea_getR (pc := 23) dX12_putsBack_23 ec_12 (k := 82) (Nat.le_of_ble_eq_true rfl) rfl (Or.inl ew_1427) (hsH4.1 0 (by decide)).1 (hsH4.1 0 (by decide)).2.1 (hsH4.2 0 82 rfl) ?_
        refine ea_iload_n (pc := 26) dX12_putsBack_26 rfl 1 rfl ?_
        refine ea_aload_n (pc := 27) dX12_putsBack_27 rfl 0 rfl ?_
        refine ea_getR (pc := 28) dX12_putsBack_28 ec_12 (k := 110) (Nat.le_of_ble_eq_true rfl) rfl (Or.inl ew_1455) (hsH4.1 0 (by decide)).1 (hsH4.1 0 (by decide)).2.1 (hsH4.2 0 110 rfl) ?_
        refine ea_iload_n (pc := 31) dX12_putsBack_31 rfl 1 rfl ?_
        obtain ⟨z5, E⟩ := gd_some E
        refine ea_iald (pc := 32) dX12_putsBack_32 (hsH4.1 82 (by decide)).1 (hsH4.1 82 (by decide)).2.1 (ea_vpl (hsH4.1 82 (by decide)).2.2 z5) ?_
        obtain ⟨z6, E⟩ := gd_some E
        refine ea_iast (pc := 33) dX12_putsBack_33 (hsH4.1 56 (by decide)).1 (hsH4.1 56 (by decide)).2.1 (ea_vpl (hsH4.1 56 (by decide)).2.2 z6) ?_
        have hs7 : ShM b0 (ea_wi H4 (b0 + 56) (Int32.toNatClampNeg x1) (ea_i H4 (b0 + 82) (Int32.toNatClampNeg x1))) := ShM_wi hsH4
        obtain ⟨H8, eH8, E⟩ := let_some E
        refine ea_nm eH8 ?_
        have hsH8 : ShM b0 H8 := by rw [eH8]; exact hs7
        refine ea_aload_n (pc := 34) dX12_putsBack_34 rfl 0 rfl ?_
        refine ea_getR (pc := 35) dX12_putsBack_35 ec_12 (k := 83) (Nat.le_of_ble_eq_true rfl) rfl (Or.inl ew_1428) (hsH8.1 0 (by decide)).1 (hsH8.1 0 (by decide)).2.1 (hsH8.2 0 83 rfl) ?_
        refine ea_iload_n (pc := 38) dX12_putsBack_38 rfl 1 rfl ?_
        refine ea_aload_n (pc := 39) dX12_putsBack_39 rfl 0 rfl ?_
        refine ea_getR (pc := 40) dX12_putsBack_40 ec_12 (k := 111) (Nat.le_of_ble_eq_true rfl) rfl (Or.inl ew_1456) (hsH8.1 0 (by decide)).1 (hsH8.1 0 (by decide)).2.1 (hsH8.2 0 111 rfl) ?_
        refine ea_iload_n (pc := 43) dX12_putsBack_43 rfl 1 rfl ?_
        obtain ⟨z9, E⟩ := gd_some E
        refine ea_iald (pc := 44) dX12_putsBack_44 (hsH8.1 83 (by decide)).1 (hsH8.1 83 (by decide)).2.1 (ea_vpl (hsH8.1 83 (by decide)).2.2 z9) ?_
        obtain ⟨z10, E⟩ := gd_some E
        refine ea_iast (pc := 45) dX12_putsBack_45 (hsH8.1 57 (by decide)).1 (hsH8.1 57 (by decide)).2.1 (ea_vpl (hsH8.1 57 (by decide)).2.2 z10) ?_
        have hs11 : ShM b0 (ea_wi H8 (b0 + 57) (Int32.toNatClampNeg x1) (ea_i H8 (b0 + 83) (Int32.toNatClampNeg x1))) := ShM_wi hsH8
        obtain ⟨H12, eH12, E⟩ := let_some E
        refine ea_nm eH12 ?_
        have hsH12 : ShM b0 H12 := by rw [eH12]; exact hs11
        refine ea_aload_n (pc := 46) dX12_putsBack_46 rfl 0 rfl ?_
        refine ea_getR (pc := 47) dX12_putsBack_47 ec_12 (k := 84) (Nat.le_of_ble_eq_true rfl) rfl (Or.inl ew_1429) (hsH12.1 0 (by decide)).1 (hsH12.1 0 (by decide)).2.1 (hsH12.2 0 84 rfl) ?_
        refine ea_iload_n (pc := 50) dX12_putsBack_50 rfl 1 rfl ?_
        refine ea_aload_n (pc := 51) dX12_putsBack_51 rfl 0 rfl ?_
        refine ea_getR (pc := 52) dX12_putsBack_52 ec_12 (k := 112) (Nat.le_of_ble_eq_true rfl) rfl (Or.inl ew_1457) (hsH12.1 0 (by decide)).1 (hsH12.1 0 (by decide)).2.1 (hsH12.2 0 112 rfl) ?_
        refine ea_iload_n (pc := 55) dX12_putsBack_55 rfl 1 rfl ?_
        obtain ⟨z13, E⟩ := gd_some E
        refine ea_iald (pc := 56) dX12_putsBack_56 (hsH12.1 84 (by decide)).1 (hsH12.1 84 (by decide)).2.1 (ea_vpl (hsH12.1 84 (by decide)).2.2 z13) ?_
        obtain ⟨z14, E⟩ := gd_some E
        refine ea_iast (pc := 57) dX12_putsBack_57 (hsH12.1 58 (by decide)).1 (hsH12.1 58 (by decide)).2.1 (ea_vpl (hsH12.1 58 (by decide)).2.2 z14) ?_
        have hs15 : ShM b0 (ea_wi H12 (b0 + 58) (Int32.toNatClampNeg x1) (ea_i H12 (b0 + 84) (Int32.toNatClampNeg x1))) := ShM_wi hsH12
        obtain ⟨H16, eH16, E⟩ := let_some E
        refine ea_nm eH16 ?_
        have hsH16 : ShM b0 H16 := by rw [eH16]; exact hs15
        refine ea_aload_n (pc := 58) dX12_putsBack_58 rfl 0 rfl ?_
        refine ea_getR (pc := 59) dX12_putsBack_59 ec_12 (k := 85) (Nat.le_of_ble_eq_true rfl) rfl (Or.inl ew_1430) (hsH16.1 0 (by decide)).1 (hsH16.1 0 (by decide)).2.1 (hsH16.2 0 85 rfl) ?_
        refine ea_iload_n (pc := 62) dX12_putsBack_62 rfl 1 rfl ?_
        refine ea_aload_n (pc := 63) dX12_putsBack_63 rfl 0 rfl ?_
        refine ea_getR (pc := 64) dX12_putsBack_64 ec_12 (k := 113) (Nat.le_of_ble_eq_true rfl) rfl (Or.inl ew_1458) (hsH16.1 0 (by decide)).1 (hsH16.1 0 (by decide)).2.1 (hsH16.2 0 113 rfl) ?_
        refine ea_iload_n (pc := 67) dX12_putsBack_67 rfl 1 rfl ?_
        obtain ⟨z17, E⟩ := gd_some E
        refine ea_iald (pc := 68) dX12_putsBack_68 (hsH16.1 85 (by decide)).1 (hsH16.1 85 (by decide)).2.1 (ea_vpl (hsH16.1 85 (by decide)).2.2 z17) ?_
        obtain ⟨z18, E⟩ := gd_some E
        refine ea_iast (pc := 69) dX12_putsBack_69 (hsH16.1 59 (by decide)).1 (hsH16.1 59 (by decide)).2.1 (ea_vpl (hsH16.1 59 (by decide)).2.2 z18) ?_
        have hs19 : ShM b0 (ea_wi H16 (b0 + 59) (Int32.toNatClampNeg x1) (ea_i H16 (b0 + 85) (Int32.toNatClampNeg x1))) := ShM_wi hsH16
        obtain ⟨H20, eH20, E⟩ := let_some E
        refine ea_nm eH20 ?_
        have hsH20 : ShM b0 H20 := by rw [eH20]; exact hs19
        refine ea_aload_n (pc := 70) dX12_putsBack_70 rfl 0 rfl ?_
        refine ea_getR (pc := 71) dX12_putsBack_71 ec_12 (k := 76) (Nat.le_of_ble_eq_true rfl) rfl (Or.inl ew_1421) (hsH20.1 0 (by decide)).1 (hsH20.1 0 (by decide)).2.1 (hsH20.2 0 76 rfl) ?_
        refine ea_iload_n (pc := 74) dX12_putsBack_74 rfl 1 rfl ?_
        refine ea_aload_n (pc := 75) dX12_putsBack_75 rfl 0 rfl ?_
        refine ea_getR (pc := 76) dX12_putsBack_76 ec_12 (k := 114) (Nat.le_of_ble_eq_true rfl) rfl (Or.inl ew_1459) (hsH20.1 0 (by decide)).1 (hsH20.1 0 (by decide)).2.1 (hsH20.2 0 114 rfl) ?_
        refine ea_iload_n (pc := 79) dX12_putsBack_79 rfl 1 rfl ?_
        obtain ⟨z21, E⟩ := gd_some E
        refine ea_iald (pc := 80) dX12_putsBack_80 (hsH20.1 86 (by decide)).1 (hsH20.1 86 (by decide)).2.1 (ea_vpl (hsH20.1 86 (by decide)).2.2 z21) ?_
        obtain ⟨z22, E⟩ := gd_some E
        refine ea_iast (pc := 81) dX12_putsBack_81 (hsH20.1 50 (by decide)).1 (hsH20.1 50 (by decide)).2.1 (ea_vpl (hsH20.1 50 (by decide)).2.2 z22) ?_
        have hs23 : ShM b0 (ea_wi H20 (b0 + 50) (Int32.toNatClampNeg x1) (ea_i H20 (b0 + 86) (Int32.toNatClampNeg x1))) := ShM_wi hsH20
        obtain ⟨H24, eH24, E⟩ := let_some E
        refine ea_nm eH24 ?_
        have hsH24 : ShM b0 H24 := by rw [eH24]; exact hs23
        refine ea_aload_n (pc := 82) dX12_putsBack_82 rfl 0 rfl ?_
        refine ea_getR (pc := 83) dX12_putsBack_83 ec_12 (k := 77) (Nat.le_of_ble_eq_true rfl) rfl (Or.inl ew_1422) (hsH24.1 0 (by decide)).1 (hsH24.1 0 (by decide)).2.1 (hsH24.2 0 77 rfl) ?_
        refine ea_iload_n (pc := 86) dX12_putsBack_86 rfl 1 rfl ?_
        refine ea_aload_n (pc := 87) dX12_putsBack_87 rfl 0 rfl ?_
        refine ea_getR (pc := 88) dX12_putsBack_88 ec_12 (k := 115) (Nat.le_of_ble_eq_true rfl) rfl (Or.inl ew_1460) (hsH24.1 0 (by decide)).1 (hsH24.1 0 (by decide)).2.1 (hsH24.2 0 115 rfl) ?_
        refine ea_iload_n (pc := 91) dX12_putsBack_91 rfl 1 rfl ?_
        obtain ⟨z25, E⟩ := gd_some E
        refine ea_iald (pc := 92) dX12_putsBack_92 (hsH24.1 87 (by decide)).1 (hsH24.1 87 (by decide)).2.1 (ea_vpl (hsH24.1 87 (by decide)).2.2 z25) ?_
        obtain ⟨z26, E⟩ := gd_some E
        refine ea_iast (pc := 93) dX12_putsBack_93 (hsH24.1 51 (by decide)).1 (hsH24.1 51 (by decide)).2.1 (ea_vpl (hsH24.1 51 (by decide)).2.2 z26) ?_
        have hs27 : ShM b0 (ea_wi H24 (b0 + 51) (Int32.toNatClampNeg x1) (ea_i H24 (b0 + 87) (Int32.toNatClampNeg x1))) := ShM_wi hsH24
        obtain ⟨H28, eH28, E⟩ := let_some E
        refine ea_nm eH28 ?_
        have hsH28 : ShM b0 H28 := by rw [eH28]; exact hs27
        refine ea_aload_n (pc := 94) dX12_putsBack_94 rfl 0 rfl ?_
        refine ea_getR (pc := 95) dX12_putsBack_95 ec_12 (k := 87) (Nat.le_of_ble_eq_true rfl) rfl (Or.inl ew_1432) (hsH28.1 0 (by decide)).1 (hsH28.1 0 (by decide)).2.1 (hsH28.2 0 87 rfl) ?_
        refine ea_iload_n (pc := 98) dX12_putsBack_98 rfl 1 rfl ?_
        refine ea_aload_n (pc := 99) dX12_putsBack_99 rfl 0 rfl ?_
        refine ea_getR (pc := 100) dX12_putsBack_100 ec_12 (k := 117) (Nat.le_of_ble_eq_true rfl) rfl (Or.inl ew_1462) (hsH28.1 0 (by decide)).1 (hsH28.1 0 (by decide)).2.1 (hsH28.2 0 117 rfl) ?_
        refine ea_iload_n (pc := 103) dX12_putsBack_103 rfl 1 rfl ?_
        obtain ⟨z29, E⟩ := gd_some E
        refine ea_zald (pc := 104) dX12_putsBack_104 (hsH28.1 89 (by decide)).1 (hsH28.1 89 (by decide)).2.1 (ea_vpl (hsH28.1 89 (by decide)).2.2 z29) ?_
        obtain ⟨z30, E⟩ := gd_some E
        obtain ⟨z32, E⟩ := gd_some E
        refine ea_zast (pc := 105) dX12_putsBack_105 (y := (ea_i H28 (b0 + 89) (Int32.toNatClampNeg x1))) (ea_bn z32) (hsH28.1 61 (by decide)).1 (hsH28.1 61 (by decide)).2.1 (ea_vpl (hsH28.1 61 (by decide)).2.2 z30) ?_
        have hs31 : ShM b0 (ea_wi H28 (b0 + 61) (Int32.toNatClampNeg x1) (ea_i H28 (b0 + 89) (Int32.toNatClampNeg x1))) := ShM_wi hsH28
        obtain ⟨H33, eH33, E⟩ := let_some E
        refine ea_nm eH33 ?_
        have hsH33 : ShM b0 H33 := by rw [eH33]; exact hs31
        refine ea_iinc (pc := 106) (v := 1) (lv' := [(0, vR (some (b0 + 0))), (1, vI (x1 + (1 : Int32)))]) dX12_putsBack_106 1 rfl rfl (Nat.le_of_ble_eq_true rfl) [1, 0] rfl ?_
        refine ea_goto (pc := 109) (tgt := 2) dX12_putsBack_109 rfl ?_
        exact ((ih 2 ((x1 + (1 : Int32)) : Int32) H33 _ _ E hsH33).2.1 rfl)
    intro el
    subst el
    have E := (if_neg (by decide)).symm.trans E
    have E := (if_neg (by decide)).symm.trans E
    have E := (if_pos rfl).symm.trans E
    refine ea_iload_n (pc := 114) dX12_putsBack_114 rfl 1 rfl ?_
    refine ea_bipush (pc := 115) dX12_putsBack_115 (v := 70) rfl ?_
    refine ea_icmp_ge (pc := 117) (tgt := 138) dX12_putsBack_117 rfl (fun c39 => ?_) (fun c39 => ?_)
    · have E := (if_pos c39).symm.trans E
      exact ea_vretO (pc := 138) dX12_putsBack_138 rfl E
    · have E := (if_neg c39).symm.trans E
      refine ea_aload_n (pc := 120) dX12_putsBack_120 rfl 0 rfl ?_
      refine ea_getR (pc := 121) dX12_putsBack_121 ec_12 (k := 86) (Nat.le_of_ble_eq_true rfl) rfl (Or.inl ew_1431) (hs.1 0 (by decide)).1 (hs.1 0 (by decide)).2.1 (hs.2 0 86 rfl) ?_
      refine ea_iload_n (pc := 124) dX12_putsBack_124 rfl 1 rfl ?_
      refine ea_aload_n (pc := 125) dX12_putsBack_125 rfl 0 rfl ?_
      refine ea_getR (pc := 126) dX12_putsBack_126 ec_12 (k := 116) (Nat.le_of_ble_eq_true rfl) rfl (Or.inl ew_1461) (hs.1 0 (by decide)).1 (hs.1 0 (by decide)).2.1 (hs.2 0 116 rfl) ?_
      refine ea_iload_n (pc := 129) dX12_putsBack_129 rfl 1 rfl ?_
      obtain ⟨z35, E⟩ := gd_some E
      refine ea_iald (pc := 130) dX12_putsBack_130 (hs.1 88 (by decide)).1 (hs.1 88 (by decide)).2.1 (ea_vpl (hs.1 88 (by decide)).2.2 z35) ?_
      obtain ⟨z36, E⟩ := gd_some E
      refine ea_iast (pc := 131) dX12_putsBack_131 (hs.1 60 (by decide)).1 (hs.1 60 (by decide)).2.1 (ea_vpl (hs.1 60 (by decide)).2.2 z36) ?_
      have hs37 : ShM b0 (ea_wi h (b0 + 60) (Int32.toNatClampNeg x1) (ea_i h (b0 + 88) (Int32.toNatClampNeg x1))) := ShM_wi hs
      obtain ⟨H38, eH38, E⟩ := let_some E
      refine ea_nm eH38 ?_
      have hsH38 : ShM b0 H38 := by rw [eH38]; exact hs37
      refine ea_iinc (pc := 132) (v := 1) (lv' := [(0, vR (some (b0 + 0))), (1, vI (x1 + (1 : Int32)))]) dX12_putsBack_132 1 rfl rfl (Nat.le_of_ble_eq_true rfl) [1, 0] rfl ?_
      refine ea_goto (pc := 135) (tgt := 114) dX12_putsBack_135 rfl ?_
      exact ((ih 114 ((x1 + (1 : Int32)) : Int32) H38 _ _ E hsH38).2.2 rfl)
noncomputable def qX12_putsBack (b0 : Nat) (h : ea_H) : Option (Unit × ea_H) := gX12_putsBack b0 1000000000 0 0 h
def okX12_putsBack (b0 : Nat) (h : ea_H) : Prop := ∃ x, qX12_putsBack b0 h = some x
noncomputable def wX12_putsBack (b0 : Nat) (h : ea_H) : ea_H := ((qX12_putsBack b0 h).getD ((), h)).2
theorem sX12_putsBack {d : Nat} {b0 : Nat} {h : ea_H} (hd : 1 ≤ d) (hs : ShM b0 h) (K : okX12_putsBack b0 h) : ea_Met mX12_putsBack d [vR (some (b0 + 0))] h none (wX12_putsBack b0 h) := by
  obtain ⟨⟨x, y⟩, K⟩ := K
  unfold wX12_putsBack
  rw [K]
  unfold qX12_putsBack at K
  exact ea_enter rfl (Nat.le_of_ble_eq_true rfl) ((tX12_putsBack hd 1000000000 0 0 h x y K hs).1 rfl)
theorem zX12_putsBack {b0 : Nat} : ∀ (f lbl : Nat) (x1 : Int32) (h : ea_H) (r : Unit) (h' : ea_H), gX12_putsBack b0 f lbl x1 h = some (r, h') → ShM b0 h → ShM b0 h' := by
  intro f
  induction f with
  | zero => intro lbl x1 h r h' E; cases E
  | succ f ih =>
    intro lbl x1 h r h' E hs
    unfold gX12_putsBack at E
    by_cases el0 : lbl = 0
    · have E := (if_pos el0).symm.trans E
      exact ih 2 (0 : Int32) h _ _ E hs
    have E := (if_neg el0).symm.trans E
    by_cases el1 : lbl = 2
    · have E := (if_pos el1).symm.trans E
      by_cases c34 : (ea_i h (b0 + 0) 63) ≤ x1
      · have E := (if_pos c34).symm.trans E
        exact ih 114 (0 : Int32) h _ _ E hs
      have E := (if_neg c34).symm.trans E
      obtain ⟨z1, E⟩ := gd_some E
      obtain ⟨z2, E⟩ := gd_some E
      obtain ⟨H4, eH4, E⟩ := let_some E
      have hsH4 : ShM b0 H4 := by rw [eH4]; exact (ShM_wi hs)
      obtain ⟨z5, E⟩ := gd_some E
      obtain ⟨z6, E⟩ := gd_some E
      obtain ⟨H8, eH8, E⟩ := let_some E
      have hsH8 : ShM b0 H8 := by rw [eH8]; exact (ShM_wi hsH4)
      obtain ⟨z9, E⟩ := gd_some E
      obtain ⟨z10, E⟩ := gd_some E
      obtain ⟨H12, eH12, E⟩ := let_some E
      have hsH12 : ShM b0 H12 := by rw [eH12]; exact (ShM_wi hsH8)
      obtain ⟨z13, E⟩ := gd_some E
      obtain ⟨z14, E⟩ := gd_some E
      obtain ⟨H16, eH16, E⟩ := let_some E
      have hsH16 : ShM b0 H16 := by rw [eH16]; exact (ShM_wi hsH12)
      obtain ⟨z17, E⟩ := gd_some E
      obtain ⟨z18, E⟩ := gd_some E
      obtain ⟨H20, eH20, E⟩ := let_some E
      have hsH20 : ShM b0 H20 := by rw [eH20]; exact (ShM_wi hsH16)
      obtain ⟨z21, E⟩ := gd_some E
      obtain ⟨z22, E⟩ := gd_some E
      obtain ⟨H24, eH24, E⟩ := let_some E
      have hsH24 : ShM b0 H24 := by rw [eH24]; exact (ShM_wi hsH20)
      obtain ⟨z25, E⟩ := gd_some E
      obtain ⟨z26, E⟩ := gd_some E
      obtain ⟨H28, eH28, E⟩ := let_some E
      have hsH28 : ShM b0 H28 := by rw [eH28]; exact (ShM_wi hsH24)
      obtain ⟨z29, E⟩ := gd_some E
      obtain ⟨z30, E⟩ := gd_some E
      obtain ⟨z32, E⟩ := gd_some E
      obtain ⟨H33, eH33, E⟩ := let_some E
      have hsH33 : ShM b0 H33 := by rw [eH33]; exact (ShM_wi hsH28)
      exact ih 2 ((x1 + (1 : Int32)) : Int32) H33 _ _ E hsH33
    have E := (if_neg el1).symm.trans E
    by_cases el2 : lbl = 114
    · have E := (if_pos el2).symm.trans E
      by_cases c39 : (70 : Int32) ≤ x1
      · have E := (if_pos c39).symm.trans E
        exact ea_shO E hs
      have E := (if_neg c39).symm.trans E
      obtain ⟨z35, E⟩ := gd_some E
      obtain ⟨z36, E⟩ := gd_some E
      obtain ⟨H38, eH38, E⟩ := let_some E
      have hsH38 : ShM b0 H38 := by rw [eH38]; exact (ShM_wi hs)
      exact ih 114 ((x1 + (1 : Int32)) : Int32) H38 _ _ E hsH38
    have E := (if_neg el2).symm.trans E
    cases E
theorem shX12_putsBack {b0 : Nat} {h : ea_H} (hs : ShM b0 h) : ShM b0 (wX12_putsBack b0 h) := by
  unfold wX12_putsBack
  cases K : qX12_putsBack b0 h with
  | none => exact hs
  | some x => obtain ⟨x, y⟩ := x; unfold qX12_putsBack at K; exact zX12_putsBack _ _ _ _ _ _ K hs
noncomputable def gX12_table (b0 : Nat) : Nat → Nat → Int32 → Int32 → Int32 → Int32 → ea_H → Option (Unit × ea_H)
  | 0, _, _, _, _, _, _ => none
  | f + 1, lbl, sx0, sx1, x1, x2, h =>
    if lbl = 0 then (if (ea_i h (b0 + 0) 12) = (0 : Int32) then (ea_let (ea_wi h (b0 + 0) 12 1) fun H2 => (ea_let (ea_wi H2 (b0 + 0) 13 0) fun H4 => (gX12_table b0 f 20 0 0 (0 : Int32) 0 H4))) else (some ((), h))) else
    if lbl = 20 then (if (70 : Int32) ≤ x1 then (gX12_table b0 f 41 0 0 0 0 h) else (gd (vp_in x1 70) (ea_let (ea_wi h (b0 + 14) (Int32.toNatClampNeg x1) 0) fun H8 => (gX12_table b0 f 20 0 0 ((x1 + (1 : Int32)) : Int32) 0 H8)))) else
    if lbl = 41 then (gX12_table b0 f 45 0 0 ((-1) : Int32) (0 : Int32) h) else
    if lbl = 45 then (if ((7 : Int32) * (ea_i h (b0 + 0) 2)) ≤ x2 then (if x1 = ((-1) : Int32) then (gX12_table b0 f 188 0 0 (x1 : Int32) 0 h) else (gd (vp_in x1 70) (gd ((okX12_minuteOf b0 (x1 : Int32) ((ea_i h (b0 + 14) (Int32.toNatClampNeg x1)) : Int32) h)) (gd (vp_in (ea_i h (b0 + 0) 13) 1000) (ea_let (ea_wi h (b0 + 10) (Int32.toNatClampNeg (ea_i h (b0 + 0) 13)) (vX12_minuteOf b0 (x1 : Int32) ((ea_i h (b0 + 14) (Int32.toNatClampNeg x1)) : Int32) h)) fun H14 => (gd (vp_in x1 70) (if ((ea_i H14 (b0 + 14) (Int32.toNatClampNeg x1)) - (ea_i H14 (b0 + 14) (Int32.toNatClampNeg x1)) / (2 : Int32) * (2 : Int32)) = (0 : Int32) then (gX12_table b0 f 138 (1 : Int32) ((ea_i H14 (b0 + 0) 13) : Int32) (x1 : Int32) 0 H14) else (gX12_table b0 f 138 (0 : Int32) ((ea_i H14 (b0 + 0) 13) : Int32) (x1 : Int32) 0 H14)))))))) else (gd ((okX12_isMore b0 (x2 : Int32) h)) (if (vX12_isMore b0 (x2 : Int32) h) = (0 : Int32) then (gX12_table b0 f 45 0 0 (x1 : Int32) ((x2 + (1 : Int32)) : Int32) h) else (if x1 = ((-1) : Int32) then (gX12_table b0 f 45 0 0 (x2 : Int32) ((x2 + (1 : Int32)) : Int32) h) else (gd ((okX12_isAheadOf b0 (x2 : Int32) (x1 : Int32) h)) (if (vX12_isAheadOf b0 (x2 : Int32) (x1 : Int32) h) = (0 : Int32) then (gX12_table b0 f 45 0 0 (x1 : Int32) ((x2 + (1 : Int32)) : Int32) h) else (gX12_table b0 f 45 0 0 (x2 : Int32) ((x2 + (1 : Int32)) : Int32) h))))))) else
    if lbl = 138 then (gd (vp_in sx1 1000) (ea_let (ea_wi h (b0 + 11) (Int32.toNatClampNeg sx1) sx0) fun H26 => (gd (vp_in (ea_i H26 (b0 + 0) 13) 1000) (ea_let (ea_wi H26 (b0 + 12) (Int32.toNatClampNeg (ea_i H26 (b0 + 0) 13)) x1) fun H29 => (gd (vp_in x1 70) (gd (vp_in (ea_i H29 (b0 + 0) 13) 1000) (ea_let (ea_wi H29 (b0 + 13) (Int32.toNatClampNeg (ea_i H29 (b0 + 0) 13)) (((ea_i H29 (b0 + 14) (Int32.toNatClampNeg x1)) + (1 : Int32)) / (2 : Int32))) fun H33 => (ea_let (ea_wi H33 (b0 + 0) 13 ((ea_i H33 (b0 + 0) 13) + (1 : Int32))) fun H35 => (gd (vp_in x1 70) (gd (vp_in x1 70) (ea_let (ea_wi H35 (b0 + 14) (Int32.toNatClampNeg x1) ((ea_i H35 (b0 + 14) (Int32.toNatClampNeg x1)) + (1 : Int32))) fun H39 => (gX12_table b0 f 188 0 0 (x1 : Int32) 0 H39)))))))))))) else
    if lbl = 188 then (if x1 = ((-1) : Int32) then (gX12_table b0 f 195 0 0 0 (0 : Int32) h) else (gX12_table b0 f 41 0 0 0 0 h)) else
    if lbl = 195 then (if (12 : Int32) ≤ x2 then (gX12_table b0 f 221 0 0 0 (((ea_i h (b0 + 0) 13) - (1 : Int32)) : Int32) h) else (gd (vp_in x2 12) (ea_let (ea_wi h (b0 + 20) (Int32.toNatClampNeg x2) (-1)) fun H43 => (gX12_table b0 f 195 0 0 0 ((x2 + (1 : Int32)) : Int32) H43)))) else
    if lbl = 221 then (if x2 < (0 : Int32) then (some ((), h)) else (gd (vp_in x2 1000) (if (ea_i h (b0 + 11) (Int32.toNatClampNeg x2)) = (1 : Int32) then (gd ((okX12_goings b0 (x2 : Int32) h)) (ea_let (wX12_goings b0 (x2 : Int32) h) fun H48 => (gX12_table b0 f 221 0 0 0 ((x2 + ((-1) : Int32)) : Int32) H48))) else (gX12_table b0 f 221 0 0 0 ((x2 + ((-1) : Int32)) : Int32) h)))) else none
theorem tX12_table {d : Nat} {b0 : Nat} {h0 : ea_H} (hd : 4 ≤ d) : ∀ (f lbl : Nat) (sx0 : Int32) (sx1 : Int32) (x1 : Int32) (x2 : Int32) (h : ea_H) (r : Unit) (h' : ea_H), gX12_table b0 f lbl sx0 sx1 x1 x2 h = some (r, h') → ShM b0 h → (lbl = 0 → ea_W mX12_table d h0 none h' 0 [(0, vR (some (b0 + 0)))] [] h) ∧ (lbl = 20 → ea_W mX12_table d h0 none h' 20 [(0, vR (some (b0 + 0))), (1, vI x1)] [] h) ∧ (lbl = 41 → ea_W mX12_table d h0 none h' 41 [(0, vR (some (b0 + 0)))] [] h) ∧ (lbl = 45 → ea_W mX12_table d h0 none h' 45 [(0, vR (some (b0 + 0))), (1, vI x1), (2, vI x2)] [] h) ∧ (lbl = 138 → ea_W mX12_table d h0 none h' 138 [(0, vR (some (b0 + 0))), (1, vI x1)] [vI sx0, vI sx1, vR (some (b0 + 11))] h) ∧ (lbl = 188 → ea_W mX12_table d h0 none h' 188 [(0, vR (some (b0 + 0))), (1, vI x1)] [] h) ∧ (lbl = 195 → ea_W mX12_table d h0 none h' 195 [(0, vR (some (b0 + 0))), (2, vI x2)] [] h) ∧ (lbl = 221 → ea_W mX12_table d h0 none h' 221 [(0, vR (some (b0 + 0))), (2, vI x2)] [] h) := by
  intro f
  induction f with
  | zero => intro lbl sx0 sx1 x1 x2 h r h' E; cases E
  | succ f ih =>
    intro lbl sx0 sx1 x1 x2 h r h' E hs
    unfold gX12_table at E
    refine ⟨?_, ?_⟩
    · intro el
      subst el
      have E := (if_pos rfl).symm.trans E
      refine ea_aload_n (pc := 0) dX12_table_0 rfl 0 rfl ?_
      refine ea_getI (pc := 1) dX12_table_1 ec_12 (k := 12) (Nat.le_of_ble_eq_true rfl) rfl (Or.inl ew_1357) (hs.1 0 (by decide)).1 (hs.1 0 (by decide)).2.1 ?_
      refine ea_if_eq (pc := 4) (tgt := 8) dX12_table_4 rfl (fun c5 => ?_) (fun c5 => ?_)
      · have E := (if_pos c5).symm.trans E
        refine ea_aload_n (pc := 8) dX12_table_8 rfl 0 rfl ?_
        refine ea_iconst (pc := 9) dX12_table_9 (v := 1) rfl ?_
        refine ea_putI (pc := 10) dX12_table_10 ec_12 (k := 12) (Nat.le_of_ble_eq_true rfl) rfl (Or.inl ⟨rfl, Or.inl ew_1357⟩) (ea_bn (Or.inr rfl)) (ea_bf (Or.inr rfl)) (hs.1 0 (by decide)).1 (hs.1 0 (by decide)).2.1 ?_
        have hs1 : ShM b0 (ea_wi h (b0 + 0) 12 1) := ShM_wi hs
        obtain ⟨H2, eH2, E⟩ := let_some E
        refine ea_nm eH2 ?_
        have hsH2 : ShM b0 H2 := by rw [eH2]; exact hs1
        refine ea_aload_n (pc := 13) dX12_table_13 rfl 0 rfl ?_
        refine ea_iconst (pc := 14) dX12_table_14 (v := 0) rfl ?_
        refine ea_putI (pc := 15) dX12_table_15 ec_12 (k := 13) (Nat.le_of_ble_eq_true rfl) rfl (Or.inl ⟨rfl, Or.inl ew_1358⟩) rfl rfl (hsH2.1 0 (by decide)).1 (hsH2.1 0 (by decide)).2.1 ?_
        have hs3 : ShM b0 (ea_wi H2 (b0 + 0) 13 0) := ShM_wi hsH2
        obtain ⟨H4, eH4, E⟩ := let_some E
        refine ea_nm eH4 ?_
        have hsH4 : ShM b0 H4 := by rw [eH4]; exact hs3
        refine ea_iconst (pc := 18) dX12_table_18 (v := 0) rfl ?_
        refine ea_istore_n (pc := 19) (lv' := [(0, vR (some (b0 + 0))), (1, vI 0)]) dX12_table_19 rfl (Nat.le_of_ble_eq_true rfl) [1, 0] rfl ?_
        exact ((ih 20 0 0 (0 : Int32) 0 H4 _ _ E hsH4).2.1 rfl)
      · have E := (if_neg c5).symm.trans E
        exact ea_vretO (pc := 7) dX12_table_7 rfl E
    refine ⟨?_, ?_⟩
    · intro el
      subst el
      have E := (if_neg (by decide)).symm.trans E
      have E := (if_pos rfl).symm.trans E
      refine ea_iload_n (pc := 20) dX12_table_20 rfl 1 rfl ?_
      refine ea_bipush (pc := 21) dX12_table_21 (v := 70) rfl ?_
      refine ea_icmp_ge (pc := 23) (tgt := 39) dX12_table_23 rfl (fun c9 => ?_) (fun c9 => ?_)
      · have E := (if_pos c9).symm.trans E
        refine ea_iconst (pc := 39) dX12_table_39 (v := (-1)) rfl ?_
        refine ea_istore_n (pc := 40) (lv' := [(0, vR (some (b0 + 0)))]) dX12_table_40 rfl (Nat.le_of_ble_eq_true rfl) [1] rfl ?_
        exact ((ih 41 0 0 0 0 h _ _ E hs).2.2.1 rfl)
      · have E := (if_neg c9).symm.trans E
        refine ea_aload_n (pc := 26) dX12_table_26 rfl 0 rfl ?_
        refine ea_getR (pc := 27) dX12_table_27 ec_12 (k := 18) (Nat.le_of_ble_eq_true rfl) rfl (Or.inl ew_1363) (hs.1 0 (by decide)).1 (hs.1 0 (by decide)).2.1 (hs.2 0 18 rfl) ?_
        refine ea_iload_n (pc := 30) dX12_table_30 rfl 1 rfl ?_
        refine ea_iconst (pc := 31) dX12_table_31 (v := 0) rfl ?_
        obtain ⟨z6, E⟩ := gd_some E
        refine ea_iast (pc := 32) dX12_table_32 (hs.1 14 (by decide)).1 (hs.1 14 (by decide)).2.1 (ea_vpl (hs.1 14 (by decide)).2.2 z6) ?_
        have hs7 : ShM b0 (ea_wi h (b0 + 14) (Int32.toNatClampNeg x1) 0) := ShM_wi hs
        obtain ⟨H8, eH8, E⟩ := let_some E
        refine ea_nm eH8 ?_
        have hsH8 : ShM b0 H8 := by rw [eH8]; exact hs7
        refine ea_iinc (pc := 33) (v := 1) (lv' := [(0, vR (some (b0 + 0))), (1, vI (x1 + (1 : Int32)))]) dX12_table_33 1 rfl rfl (Nat.le_of_ble_eq_true rfl) [1, 0] rfl ?_
        refine ea_goto (pc := 36) (tgt := 20) dX12_table_36 rfl ?_
        exact ((ih 20 0 0 ((x1 + (1 : Int32)) : Int32) 0 H8 _ _ E hsH8).2.1 rfl)
    refine ⟨?_, ?_⟩
    · intro el
      subst el
      have E := (if_neg (by decide)).symm.trans E
      have E := (if_neg (by decide)).symm.trans E
      have E := (if_pos rfl).symm.trans E
      refine ea_iconst (pc := 41) dX12_table_41 (v := (-1)) rfl ?_
      refine ea_istore_n (pc := 42) (lv' := [(0, vR (some (b0 + 0))), (1, vI (-1))]) dX12_table_42 rfl (Nat.le_of_ble_eq_true rfl) [1, 0] rfl ?_
      refine ea_iconst (pc := 43) dX12_table_43 (v := 0) rfl ?_
      refine ea_istore_n (pc := 44) (lv' := [(0, vR (some (b0 + 0))), (1, vI (-1)), (2, vI 0)]) dX12_table_44 rfl (Nat.le_of_ble_eq_true rfl) [1, 2, 0] rfl ?_
      exact ((ih 45 0 0 ((-1) : Int32) (0 : Int32) h _ _ E hs).2.2.2.1 rfl)
    refine ⟨?_, ?_⟩
    · intro el
      subst el
      have E := (if_neg (by decide)).symm.trans E
      have E := (if_neg (by decide)).symm.trans E
      have E := (if_neg (by decide)).symm.trans E
      have E := (if_pos rfl).symm.trans E
      refine ea_iload_n (pc := 45) dX12_table_45 rfl 2 rfl ?_
      refine ea_bipush (pc := 46) dX12_table_46 (v := 7) rfl ?_
      refine ea_aload_n (pc := 48) dX12_table_48 rfl 0 rfl ?_
      refine ea_getI (pc := 49) dX12_table_49 ec_12 (k := 2) (Nat.le_of_ble_eq_true rfl) rfl (Or.inl ew_1347) (hs.1 0 (by decide)).1 (hs.1 0 (by decide)).2.1 ?_
      refine ea_imul (pc := 52) dX12_table_52 ?_
      refine ea_icmp_ge (pc := 53) (tgt := 86) dX12_table_53 rfl (fun c23 => ?_) (fun c23 => ?_)
      · have E := (if_pos c23).symm.trans E
        refine ea_iload_n (pc := 86) dX12_table_86 rfl 1 rfl ?_
        refine ea_iconst (pc := 87) dX12_table_87 (v := (-1)) rfl ?_
        refine ea_icmp_ne (pc := 88) (tgt := 94) dX12_table_88 rfl (fun c17 => ?_) (fun c17 => ?_)
        · have E := (if_neg c17).symm.trans E
          refine ea_aload_n (pc := 94) dX12_table_94 rfl 0 rfl ?_
          refine ea_getR (pc := 95) dX12_table_95 ec_12 (k := 14) (Nat.le_of_ble_eq_true rfl) rfl (Or.inl ew_1359) (hs.1 0 (by decide)).1 (hs.1 0 (by decide)).2.1 (hs.2 0 14 rfl) ?_
          refine ea_aload_n (pc := 98) dX12_table_98 rfl 0 rfl ?_
          refine ea_getI (pc := 99) dX12_table_99 ec_12 (k := 13) (Nat.le_of_ble_eq_true rfl) rfl (Or.inl ew_1358) (hs.1 0 (by decide)).1 (hs.1 0 (by decide)).2.1 ?_
          refine ea_aload_n (pc := 102) dX12_table_102 rfl 0 rfl ?_
          refine ea_iload_n (pc := 103) dX12_table_103 rfl 1 rfl ?_
          refine ea_aload_n (pc := 104) dX12_table_104 rfl 0 rfl ?_
          refine ea_getR (pc := 105) dX12_table_105 ec_12 (k := 18) (Nat.le_of_ble_eq_true rfl) rfl (Or.inl ew_1363) (hs.1 0 (by decide)).1 (hs.1 0 (by decide)).2.1 (hs.2 0 18 rfl) ?_
          refine ea_iload_n (pc := 108) dX12_table_108 rfl 1 rfl ?_
          obtain ⟨z10, E⟩ := gd_some E
          refine ea_iald (pc := 109) dX12_table_109 (hs.1 14 (by decide)).1 (hs.1 14 (by decide)).2.1 (ea_vpl (hs.1 14 (by decide)).2.2 z10) ?_
          obtain ⟨z11, E⟩ := gd_some E
          refine ea_callV (pc := 110) (d' := d - 1) (As := [vI x1, vI (ea_i h (b0 + 14) (Int32.toNatClampNeg x1))]) (st := [vI (ea_i h (b0 + 0) 13), vR (some (b0 + 10))]) dX12_table_110 kX12_minuteOf (sX12_minuteOf (d := d - 1) (by omega) hs z11) (by omega) rfl (Nat.le_of_ble_eq_true rfl) ew_1782 ew_1784 ew_56 (ci := 12) rfl (by decide) (hs.1 0 (by decide)).1 (hs.1 0 (by decide)).2.1 ?_
          obtain ⟨z12, E⟩ := gd_some E
          refine ea_iast (pc := 113) dX12_table_113 (hs.1 10 (by decide)).1 (hs.1 10 (by decide)).2.1 (ea_vpl (hs.1 10 (by decide)).2.2 z12) ?_
          have hs13 : ShM b0 (ea_wi h (b0 + 10) (Int32.toNatClampNeg (ea_i h (b0 + 0) 13)) (vX12_minuteOf b0 (x1 : Int32) ((ea_i h (b0 + 14) (Int32.toNatClampNeg x1)) : Int32) h)) := ShM_wi hs
          obtain ⟨H14, eH14, E⟩ := let_some E
          refine ea_nm eH14 ?_
          have hsH14 : ShM b0 H14 := by rw [eH14]; exact hs13
          refine ea_aload_n (pc := 114) dX12_table_114 rfl 0 rfl ?_
          refine ea_getR (pc := 115) dX12_table_115 ec_12 (k := 15) (Nat.le_of_ble_eq_true rfl) rfl (Or.inl ew_1360) (hsH14.1 0 (by decide)).1 (hsH14.1 0 (by decide)).2.1 (hsH14.2 0 15 rfl) ?_
          refine ea_aload_n (pc := 118) dX12_table_118 rfl 0 rfl ?_
          refine ea_getI (pc := 119) dX12_table_119 ec_12 (k := 13) (Nat.le_of_ble_eq_true rfl) rfl (Or.inl ew_1358) (hsH14.1 0 (by decide)).1 (hsH14.1 0 (by decide)).2.1 ?_
          refine ea_aload_n (pc := 122) dX12_table_122 rfl 0 rfl ?_
          refine ea_getR (pc := 123) dX12_table_123 ec_12 (k := 18) (Nat.le_of_ble_eq_true rfl) rfl (Or.inl ew_1363) (hsH14.1 0 (by decide)).1 (hsH14.1 0 (by decide)).2.1 (hsH14.2 0 18 rfl) ?_
          refine ea_iload_n (pc := 126) dX12_table_126 rfl 1 rfl ?_
          obtain ⟨z15, E⟩ := gd_some E
          refine ea_iald (pc := 127) dX12_table_127 (hsH14.1 14 (by decide)).1 (hsH14.1 14 (by decide)).2.1 (ea_vpl (hsH14.1 14 (by decide)).2.2 z15) ?_
          refine ea_iconst (pc := 128) dX12_table_128 (v := 2) rfl ?_
          refine ea_irem (pc := 129) dX12_table_129 (by decide) ?_
          refine ea_if_ne (pc := 130) (tgt := 137) dX12_table_130 rfl (fun c16 => ?_) (fun c16 => ?_)
          · have E := (if_neg c16).symm.trans E
            refine ea_iconst (pc := 137) dX12_table_137 (v := 0) rfl ?_
            exact (ea_fewer [0, 1] rfl ((ih 138 (0 : Int32) ((ea_i H14 (b0 + 0) 13) : Int32) (x1 : Int32) 0 H14 _ _ E hsH14).2.2.2.2.1 rfl))
          · have E := (if_pos c16).symm.trans E
            refine ea_iconst (pc := 133) dX12_table_133 (v := 1) rfl ?_
            refine ea_goto (pc := 134) (tgt := 138) dX12_table_134 rfl ?_
            exact (ea_fewer [0, 1] rfl ((ih 138 (1 : Int32) ((ea_i H14 (b0 + 0) 13) : Int32) (x1 : Int32) 0 H14 _ _ E hsH14).2.2.2.2.1 rfl))
        · have E := (if_pos c17).symm.trans E
          refine ea_goto (pc := 91) (tgt := 188) dX12_table_91 rfl ?_
          exact (ea_fewer [0, 1] rfl ((ih 188 0 0 (x1 : Int32) 0 h _ _ E hs).2.2.2.2.2.1 rfl))
      · have E := (if_neg c23).symm.trans E
        refine ea_aload_n (pc := 56) dX12_table_56 rfl 0 rfl ?_
        refine ea_iload_n (pc := 57) dX12_table_57 rfl 2 rfl ?_
        obtain ⟨z18, E⟩ := gd_some E
        refine ea_callV (pc := 58) (d' := d - 1) (As := [vI x2]) (st := []) dX12_table_58 kX12_isMore (sX12_isMore (d := d - 1) (by omega) hs z18) (by omega) rfl (Nat.le_of_ble_eq_true rfl) ew_1778 ew_1780 ew_55 (ci := 12) rfl (by decide) (hs.1 0 (by decide)).1 (hs.1 0 (by decide)).2.1 ?_
        refine ea_if_eq (pc := 61) (tgt := 80) dX12_table_61 rfl (fun c22 => ?_) (fun c22 => ?_)
        · have E := (if_pos c22).symm.trans E
          refine ea_iinc (pc := 80) (v := 1) (lv' := [(0, vR (some (b0 + 0))), (1, vI x1), (2, vI (x2 + (1 : Int32)))]) dX12_table_80 2 rfl rfl (Nat.le_of_ble_eq_true rfl) [1, 2, 0] rfl ?_
          refine ea_goto (pc := 83) (tgt := 45) dX12_table_83 rfl ?_
          exact ((ih 45 0 0 (x1 : Int32) ((x2 + (1 : Int32)) : Int32) h _ _ E hs).2.2.2.1 rfl)
        · have E := (if_neg c22).symm.trans E
          refine ea_iload_n (pc := 64) dX12_table_64 rfl 1 rfl ?_
          refine ea_iconst (pc := 65) dX12_table_65 (v := (-1)) rfl ?_
          refine ea_icmp_eq (pc := 66) (tgt := 78) dX12_table_66 rfl (fun c21 => ?_) (fun c21 => ?_)
          · have E := (if_pos c21).symm.trans E
            refine ea_iload_n (pc := 78) dX12_table_78 rfl 2 rfl ?_
            refine ea_istore_n (pc := 79) (lv' := [(0, vR (some (b0 + 0))), (1, vI x2), (2, vI x2)]) dX12_table_79 rfl (Nat.le_of_ble_eq_true rfl) [1, 0, 2] rfl ?_
            refine ea_iinc (pc := 80) (v := 1) (lv' := [(0, vR (some (b0 + 0))), (1, vI x2), (2, vI (x2 + (1 : Int32)))]) dX12_table_80 2 rfl rfl (Nat.le_of_ble_eq_true rfl) [1, 2, 0] rfl ?_
            refine ea_goto (pc := 83) (tgt := 45) dX12_table_83 rfl ?_
            exact ((ih 45 0 0 (x2 : Int32) ((x2 + (1 : Int32)) : Int32) h _ _ E hs).2.2.2.1 rfl)
          · have E := (if_neg c21).symm.trans E
            refine ea_aload_n (pc := 69) dX12_table_69 rfl 0 rfl ?_
            refine ea_iload_n (pc := 70) dX12_table_70 rfl 2 rfl ?_
            refine ea_iload_n (pc := 71) dX12_table_71 rfl 1 rfl ?_
            obtain ⟨z19, E⟩ := gd_some E
            refine ea_callV (pc := 72) (d' := d - 1) (As := [vI x2, vI x1]) (st := []) dX12_table_72 kX12_isAheadOf (sX12_isAheadOf (d := d - 1) (by omega) hs z19) (by omega) rfl (Nat.le_of_ble_eq_true rfl) ew_1790 ew_1792 ew_58 (ci := 12) rfl (by decide) (hs.1 0 (by decide)).1 (hs.1 0 (by decide)).2.1 ?_
            refine ea_if_eq (pc := 75) (tgt := 80) dX12_table_75 rfl (fun c20 => ?_) (fun c20 => ?_)
            · have E := (if_pos c20).symm.trans E
              refine ea_iinc (pc := 80) (v := 1) (lv' := [(0, vR (some (b0 + 0))), (1, vI x1), (2, vI (x2 + (1 : Int32)))]) dX12_table_80 2 rfl rfl (Nat.le_of_ble_eq_true rfl) [1, 2, 0] rfl ?_
              refine ea_goto (pc := 83) (tgt := 45) dX12_table_83 rfl ?_
              exact ((ih 45 0 0 (x1 : Int32) ((x2 + (1 : Int32)) : Int32) h _ _ E hs).2.2.2.1 rfl)
            · have E := (if_neg c20).symm.trans E
              refine ea_iload_n (pc := 78) dX12_table_78 rfl 2 rfl ?_
              refine ea_istore_n (pc := 79) (lv' := [(0, vR (some (b0 + 0))), (1, vI x2), (2, vI x2)]) dX12_table_79 rfl (Nat.le_of_ble_eq_true rfl) [1, 0, 2] rfl ?_
              refine ea_iinc (pc := 80) (v := 1) (lv' := [(0, vR (some (b0 + 0))), (1, vI x2), (2, vI (x2 + (1 : Int32)))]) dX12_table_80 2 rfl rfl (Nat.le_of_ble_eq_true rfl) [1, 2, 0] rfl ?_
              refine ea_goto (pc := 83) (tgt := 45) dX12_table_83 rfl ?_
              exact ((ih 45 0 0 (x2 : Int32) ((x2 + (1 : Int32)) : Int32) h _ _ E hs).2.2.2.1 rfl)
    refine ⟨?_, ?_⟩
    · intro el
      subst el
      have E := (if_neg (by decide)).symm.trans E
      have E := (if_neg (by decide)).symm.trans E
      have E := (if_neg (by decide)).symm.trans E
      have E := (if_neg (by decide)).symm.trans E
      have E := (if_pos rfl).symm.trans E
      obtain ⟨z24, E⟩ := gd_some E
      refine ea_iast (pc := 138) dX12_table_138 (hs.1 11 (by decide)).1 (hs.1 11 (by decide)).2.1 (ea_vpl (hs.1 11 (by decide)).2.2 z24) ?_
      have hs25 : ShM b0 (ea_wi h (b0 + 11) (Int32.toNatClampNeg sx1) sx0) := ShM_wi hs
      obtain ⟨H26, eH26, E⟩ := let_some E
      refine ea_nm eH26 ?_
      have hsH26 : ShM b0 H26 := by rw [eH26]; exact hs25
      refine ea_aload_n (pc := 139) dX12_table_139 rfl 0 rfl ?_
      refine ea_getR (pc := 140) dX12_table_140 ec_12 (k := 16) (Nat.le_of_ble_eq_true rfl) rfl (Or.inl ew_1361) (hsH26.1 0 (by decide)).1 (hsH26.1 0 (by decide)).2.1 (hsH26.2 0 16 rfl) ?_
      refine ea_aload_n (pc := 143) dX12_table_143 rfl 0 rfl ?_
      refine ea_getI (pc := 144) dX12_table_144 ec_12 (k := 13) (Nat.le_of_ble_eq_true rfl) rfl (Or.inl ew_1358) (hsH26.1 0 (by decide)).1 (hsH26.1 0 (by decide)).2.1 ?_
      refine ea_iload_n (pc := 147) dX12_table_147 rfl 1 rfl ?_
      obtain ⟨z27, E⟩ := gd_some E
      refine ea_iast (pc := 148) dX12_table_148 (hsH26.1 12 (by decide)).1 (hsH26.1 12 (by decide)).2.1 (ea_vpl (hsH26.1 12 (by decide)).2.2 z27) ?_
      have hs28 : ShM b0 (ea_wi H26 (b0 + 12) (Int32.toNatClampNeg (ea_i H26 (b0 + 0) 13)) x1) := ShM_wi hsH26
      obtain ⟨H29, eH29, E⟩ := let_some E
      refine ea_nm eH29 ?_
      have hsH29 : ShM b0 H29 := by rw [eH29]; exact hs28
      refine ea_aload_n (pc := 149) dX12_table_149 rfl 0 rfl ?_
      refine ea_getR (pc := 150) dX12_table_150 ec_12 (k := 17) (Nat.le_of_ble_eq_true rfl) rfl (Or.inl ew_1362) (hsH29.1 0 (by decide)).1 (hsH29.1 0 (by decide)).2.1 (hsH29.2 0 17 rfl) ?_
      refine ea_aload_n (pc := 153) dX12_table_153 rfl 0 rfl ?_
      refine ea_getI (pc := 154) dX12_table_154 ec_12 (k := 13) (Nat.le_of_ble_eq_true rfl) rfl (Or.inl ew_1358) (hsH29.1 0 (by decide)).1 (hsH29.1 0 (by decide)).2.1 ?_
      refine ea_aload_n (pc := 157) dX12_table_157 rfl 0 rfl ?_
      refine ea_getR (pc := 158) dX12_table_158 ec_12 (k := 18) (Nat.le_of_ble_eq_true rfl) rfl (Or.inl ew_1363) (hsH29.1 0 (by decide)).1 (hsH29.1 0 (by decide)).2.1 (hsH29.2 0 18 rfl) ?_
      refine ea_iload_n (pc := 161) dX12_table_161 rfl 1 rfl ?_
      obtain ⟨z30, E⟩ := gd_some E
      refine ea_iald (pc := 162) dX12_table_162 (hsH29.1 14 (by decide)).1 (hsH29.1 14 (by decide)).2.1 (ea_vpl (hsH29.1 14 (by decide)).2.2 z30) ?_
      refine ea_iconst (pc := 163) dX12_table_163 (v := 1) rfl ?_
      refine ea_iadd (pc := 164) dX12_table_164 ?_
      refine ea_iconst (pc := 165) dX12_table_165 (v := 2) rfl ?_
      refine ea_idiv (pc := 166) dX12_table_166 (by decide) ?_
      obtain ⟨z31, E⟩ := gd_some E
      refine ea_iast (pc := 167) dX12_table_167 (hsH29.1 13 (by decide)).1 (hsH29.1 13 (by decide)).2.1 (ea_vpl (hsH29.1 13 (by decide)).2.2 z31) ?_
      have hs32 : ShM b0 (ea_wi H29 (b0 + 13) (Int32.toNatClampNeg (ea_i H29 (b0 + 0) 13)) (((ea_i H29 (b0 + 14) (Int32.toNatClampNeg x1)) + (1 : Int32)) / (2 : Int32))) := ShM_wi hsH29
      obtain ⟨H33, eH33, E⟩ := let_some E
      refine ea_nm eH33 ?_
      have hsH33 : ShM b0 H33 := by rw [eH33]; exact hs32
      refine ea_aload_n (pc := 168) dX12_table_168 rfl 0 rfl ?_
      refine ea_dup (pc := 169) dX12_table_169 rfl ?_
      refine ea_getI (pc := 170) dX12_table_170 ec_12 (k := 13) (Nat.le_of_ble_eq_true rfl) rfl (Or.inl ew_1358) (hsH33.1 0 (by decide)).1 (hsH33.1 0 (by decide)).2.1 ?_
      refine ea_iconst (pc := 173) dX12_table_173 (v := 1) rfl ?_
      refine ea_iadd (pc := 174) dX12_table_174 ?_
      refine ea_putI (pc := 175) dX12_table_175 ec_12 (k := 13) (Nat.le_of_ble_eq_true rfl) rfl (Or.inl ⟨rfl, Or.inl ew_1358⟩) rfl rfl (hsH33.1 0 (by decide)).1 (hsH33.1 0 (by decide)).2.1 ?_
      have hs34 : ShM b0 (ea_wi H33 (b0 + 0) 13 ((ea_i H33 (b0 + 0) 13) + (1 : Int32))) := ShM_wi hsH33
      obtain ⟨H35, eH35, E⟩ := let_some E
      refine ea_nm eH35 ?_
      have hsH35 : ShM b0 H35 := by rw [eH35]; exact hs34
      refine ea_aload_n (pc := 178) dX12_table_178 rfl 0 rfl ?_
      refine ea_getR (pc := 179) dX12_table_179 ec_12 (k := 18) (Nat.le_of_ble_eq_true rfl) rfl (Or.inl ew_1363) (hsH35.1 0 (by decide)).1 (hsH35.1 0 (by decide)).2.1 (hsH35.2 0 18 rfl) ?_
      refine ea_iload_n (pc := 182) dX12_table_182 rfl 1 rfl ?_
      refine ea_dup2 (pc := 183) dX12_table_183 rfl rfl ?_
      obtain ⟨z36, E⟩ := gd_some E
      refine ea_iald (pc := 184) dX12_table_184 (hsH35.1 14 (by decide)).1 (hsH35.1 14 (by decide)).2.1 (ea_vpl (hsH35.1 14 (by decide)).2.2 z36) ?_
      refine ea_iconst (pc := 185) dX12_table_185 (v := 1) rfl ?_
      refine ea_iadd (pc := 186) dX12_table_186 ?_
      obtain ⟨z37, E⟩ := gd_some E
      refine ea_iast (pc := 187) dX12_table_187 (hsH35.1 14 (by decide)).1 (hsH35.1 14 (by decide)).2.1 (ea_vpl (hsH35.1 14 (by decide)).2.2 z37) ?_
      have hs38 : ShM b0 (ea_wi H35 (b0 + 14) (Int32.toNatClampNeg x1) ((ea_i H35 (b0 + 14) (Int32.toNatClampNeg x1)) + (1 : Int32))) := ShM_wi hsH35
      obtain ⟨H39, eH39, E⟩ := let_some E
      refine ea_nm eH39 ?_
      have hsH39 : ShM b0 H39 := by rw [eH39]; exact hs38
      exact ((ih 188 0 0 (x1 : Int32) 0 H39 _ _ E hsH39).2.2.2.2.2.1 rfl)
    refine ⟨?_, ?_⟩
    · intro el
      subst el
      have E := (if_neg (by decide)).symm.trans E
      have E := (if_neg (by decide)).symm.trans E
      have E := (if_neg (by decide)).symm.trans E
      have E := (if_neg (by decide)).symm.trans E
      have E := (if_neg (by decide)).symm.trans E
      have E := (if_pos rfl).symm.trans E
      refine ea_iload_n (pc := 188) dX12_table_188 rfl 1 rfl ?_
      refine ea_iconst (pc := 189) dX12_table_189 (v := (-1)) rfl ?_
      refine ea_icmp_ne (pc := 190) (tgt := 41) dX12_table_190 rfl (fun c40 => ?_) (fun c40 => ?_)
      · have E := (if_neg c40).symm.trans E
        exact (ea_fewer [0] rfl ((ih 41 0 0 0 0 h _ _ E hs).2.2.1 rfl))
      · have E := (if_pos c40).symm.trans E
        refine ea_iconst (pc := 193) dX12_table_193 (v := 0) rfl ?_
        refine ea_istore_n (pc := 194) (lv' := [(0, vR (some (b0 + 0))), (2, vI 0)]) dX12_table_194 rfl (Nat.le_of_ble_eq_true rfl) [1, 0] rfl ?_
        exact ((ih 195 0 0 0 (0 : Int32) h _ _ E hs).2.2.2.2.2.2.1 rfl)
    refine ⟨?_, ?_⟩
    · intro el
      subst el
      have E := (if_neg (by decide)).symm.trans E
      have E := (if_neg (by decide)).symm.trans E
      have E := (if_neg (by decide)).symm.trans E
      have E := (if_neg (by decide)).symm.trans E
      have E := (if_neg (by decide)).symm.trans E
      have E := (if_neg (by decide)).symm.trans E
      have E := (if_pos rfl).symm.trans E
      refine ea_iload_n (pc := 195) dX12_table_195 rfl 1 rfl ?_
      refine ea_bipush (pc := 196) dX12_table_196 (v := 12) rfl ?_
      refine ea_icmp_ge (pc := 198) (tgt := 214) dX12_table_198 rfl (fun c44 => ?_) (fun c44 => ?_)
      · have E := (if_pos c44).symm.trans E
        refine ea_aload_n (pc := 214) dX12_table_214 rfl 0 rfl ?_
        refine ea_getI (pc := 215) dX12_table_215 ec_12 (k := 13) (Nat.le_of_ble_eq_true rfl) rfl (Or.inl ew_1358) (hs.1 0 (by decide)).1 (hs.1 0 (by decide)).2.1 ?_
        refine ea_iconst (pc := 218) dX12_table_218 (v := 1) rfl ?_
        refine ea_isub (pc := 219) dX12_table_219 ?_
        refine ea_istore_n (pc := 220) (lv' := [(0, vR (some (b0 + 0))), (2, vI ((ea_i h (b0 + 0) 13) - (1 : Int32)))]) dX12_table_220 rfl (Nat.le_of_ble_eq_true rfl) [1, 0] rfl ?_
        exact ((ih 221 0 0 0 (((ea_i h (b0 + 0) 13) - (1 : Int32)) : Int32) h _ _ E hs).2.2.2.2.2.2.2 rfl)
      · have E := (if_neg c44).symm.trans E
        refine ea_aload_n (pc := 201) dX12_table_201 rfl 0 rfl ?_
        refine ea_getR (pc := 202) dX12_table_202 ec_12 (k := 24) (Nat.le_of_ble_eq_true rfl) rfl (Or.inl ew_1369) (hs.1 0 (by decide)).1 (hs.1 0 (by decide)).2.1 (hs.2 0 24 rfl) ?_
        refine ea_iload_n (pc := 205) dX12_table_205 rfl 1 rfl ?_
        refine ea_iconst (pc := 206) dX12_table_206 (v := (-1)) rfl ?_
        obtain ⟨z41, E⟩ := gd_some E
        refine ea_iast (pc := 207) dX12_table_207 (hs.1 20 (by decide)).1 (hs.1 20 (by decide)).2.1 (ea_vpl (hs.1 20 (by decide)).2.2 z41) ?_
        have hs42 : ShM b0 (ea_wi h (b0 + 20) (Int32.toNatClampNeg x2) (-1)) := ShM_wi hs
        obtain ⟨H43, eH43, E⟩ := let_some E
        refine ea_nm eH43 ?_
        have hsH43 : ShM b0 H43 := by rw [eH43]; exact hs42
        refine ea_iinc (pc := 208) (v := 1) (lv' := [(0, vR (some (b0 + 0))), (2, vI (x2 + (1 : Int32)))]) dX12_table_208 1 rfl rfl (Nat.le_of_ble_eq_true rfl) [1, 0] rfl ?_
        refine ea_goto (pc := 211) (tgt := 195) dX12_table_211 rfl ?_
        exact ((ih 195 0 0 0 ((x2 + (1 : Int32)) : Int32) H43 _ _ E hsH43).2.2.2.2.2.2.1 rfl)
    intro el
    subst el
    have E := (if_neg (by decide)).symm.trans E
    have E := (if_neg (by decide)).symm.trans E
    have E := (if_neg (by decide)).symm.trans E
    have E := (if_neg (by decide)).symm.trans E
    have E := (if_neg (by decide)).symm.trans E
    have E := (if_neg (by decide)).symm.trans E
    have E := (if_neg (by decide)).symm.trans E
    have E := (if_pos rfl).symm.trans E
    refine ea_iload_n (pc := 221) dX12_table_221 rfl 1 rfl ?_
    refine ea_if_lt (pc := 222) (tgt := 246) dX12_table_222 rfl (fun c50 => ?_) (fun c50 => ?_)
    · have E := (if_pos c50).symm.trans E
      exact ea_vretO (pc := 246) dX12_table_246 rfl E
    · have E := (if_neg c50).symm.trans E
      refine ea_aload_n (pc := 225) dX12_table_225 rfl 0 rfl ?_
      refine ea_getR (pc := 226) dX12_table_226 ec_12 (k := 15) (Nat.le_of_ble_eq_true rfl) rfl (Or.inl ew_1360) (hs.1 0 (by decide)).1 (hs.1 0 (by decide)).2.1 (hs.2 0 15 rfl) ?_
      refine ea_iload_n (pc := 229) dX12_table_229 rfl 1 rfl ?_
      obtain ⟨z45, E⟩ := gd_some E
      refine ea_iald (pc := 230) dX12_table_230 (hs.1 11 (by decide)).1 (hs.1 11 (by decide)).2.1 (ea_vpl (hs.1 11 (by decide)).2.2 z45) ?_
      refine ea_iconst (pc := 231) dX12_table_231 (v := 1) rfl ?_
      refine ea_icmp_ne (pc := 232) (tgt := 240) dX12_table_232 rfl (fun c49 => ?_) (fun c49 => ?_)
      · have E := (if_neg c49).symm.trans E
        refine ea_iinc (pc := 240) (v := (-1)) (lv' := [(0, vR (some (b0 + 0))), (2, vI (x2 + ((-1) : Int32)))]) dX12_table_240 1 rfl rfl (Nat.le_of_ble_eq_true rfl) [1, 0] rfl ?_
        refine ea_goto (pc := 243) (tgt := 221) dX12_table_243 rfl ?_
        exact ((ih 221 0 0 0 ((x2 + ((-1) : Int32)) : Int32) h _ _ E hs).2.2.2.2.2.2.2 rfl)
      · have E := (if_pos c49).symm.trans E
        refine ea_aload_n (pc := 235) dX12_table_235 rfl 0 rfl ?_
        refine ea_iload_n (pc := 236) dX12_table_236 rfl 1 rfl ?_
        obtain ⟨z46, E⟩ := gd_some E
        refine ea_callV (pc := 237) (d' := d - 1) (As := [vI x2]) (st := []) dX12_table_237 kX12_goings (sX12_goings (d := d - 1) (by omega) hs z46) (by omega) rfl (Nat.le_of_ble_eq_true rfl) ew_1794 ew_1796 ew_59 (ci := 12) rfl (by decide) (hs.1 0 (by decide)).1 (hs.1 0 (by decide)).2.1 ?_
        have hs47 : ShM b0 (wX12_goings b0 (x2 : Int32) h) := shX12_goings hs
        obtain ⟨H48, eH48, E⟩ := let_some E
        refine ea_nm eH48 ?_
        have hsH48 : ShM b0 H48 := by rw [eH48]; exact hs47
        refine ea_iinc (pc := 240) (v := (-1)) (lv' := [(0, vR (some (b0 + 0))), (2, vI (x2 + ((-1) : Int32)))]) dX12_table_240 1 rfl rfl (Nat.le_of_ble_eq_true rfl) [1, 0] rfl ?_
        refine ea_goto (pc := 243) (tgt := 221) dX12_table_243 rfl ?_
        exact ((ih 221 0 0 0 ((x2 + ((-1) : Int32)) : Int32) H48 _ _ E hsH48).2.2.2.2.2.2.2 rfl)
noncomputable def qX12_table (b0 : Nat) (h : ea_H) : Option (Unit × ea_H) := gX12_table b0 1000000000 0 0 0 0 0 h
def okX12_table (b0 : Nat) (h : ea_H) : Prop := ∃ x, qX12_table b0 h = some x
noncomputable def wX12_table (b0 : Nat) (h : ea_H) : ea_H := ((qX12_table b0 h).getD ((), h)).2
theorem sX12_table {d : Nat} {b0 : Nat} {h : ea_H} (hd : 4 ≤ d) (hs : ShM b0 h) (K : okX12_table b0 h) : ea_Met mX12_table d [vR (some (b0 + 0))] h none (wX12_table b0 h) := by
  obtain ⟨⟨x, y⟩, K⟩ := K
  unfold wX12_table
  rw [K]
  unfold qX12_table at K
  exact ea_enter rfl (Nat.le_of_ble_eq_true rfl) ((tX12_table hd 1000000000 0 0 0 0 0 h x y K hs).1 rfl)
theorem zX12_table {b0 : Nat} : ∀ (f lbl : Nat) (sx0 : Int32) (sx1 : Int32) (x1 : Int32) (x2 : Int32) (h : ea_H) (r : Unit) (h' : ea_H), gX12_table b0 f lbl sx0 sx1 x1 x2 h = some (r, h') → ShM b0 h → ShM b0 h' := by
  intro f
  induction f with
  | zero => intro lbl sx0 sx1 x1 x2 h r h' E; cases E
  | succ f ih =>
    intro lbl sx0 sx1 x1 x2 h r h' E hs
    unfold gX12_table at E
    by_cases el0 : lbl = 0
    · have E := (if_pos el0).symm.trans E
      by_cases c5 : (ea_i h (b0 + 0) 12) = (0 : Int32)
      · have E := (if_pos c5).symm.trans E
        obtain ⟨H2, eH2, E⟩ := let_some E
        have hsH2 : ShM b0 H2 := by rw [eH2]; exact (ShM_wi hs)
        obtain ⟨H4, eH4, E⟩ := let_some E
        have hsH4 : ShM b0 H4 := by rw [eH4]; exact (ShM_wi hsH2)
        exact ih 20 0 0 (0 : Int32) 0 H4 _ _ E hsH4
      have E := (if_neg c5).symm.trans E
      exact ea_shO E hs
    have E := (if_neg el0).symm.trans E
    by_cases el1 : lbl = 20
    · have E := (if_pos el1).symm.trans E
      by_cases c9 : (70 : Int32) ≤ x1
      · have E := (if_pos c9).symm.trans E
        exact ih 41 0 0 0 0 h _ _ E hs
      have E := (if_neg c9).symm.trans E
      obtain ⟨z6, E⟩ := gd_some E
      obtain ⟨H8, eH8, E⟩ := let_some E
      have hsH8 : ShM b0 H8 := by rw [eH8]; exact (ShM_wi hs)
      exact ih 20 0 0 ((x1 + (1 : Int32)) : Int32) 0 H8 _ _ E hsH8
    have E := (if_neg el1).symm.trans E
    by_cases el2 : lbl = 41
    · have E := (if_pos el2).symm.trans E
      exact ih 45 0 0 ((-1) : Int32) (0 : Int32) h _ _ E hs
    have E := (if_neg el2).symm.trans E
    by_cases el3 : lbl = 45
    · have E := (if_pos el3).symm.trans E
      by_cases c23 : ((7 : Int32) * (ea_i h (b0 + 0) 2)) ≤ x2
      · have E := (if_pos c23).symm.trans E
        by_cases c17 : x1 = ((-1) : Int32)
        · have E := (if_pos c17).symm.trans E
          exact ih 188 0 0 (x1 : Int32) 0 h _ _ E hs
        have E := (if_neg c17).symm.trans E
        obtain ⟨z10, E⟩ := gd_some E
        obtain ⟨z11, E⟩ := gd_some E
        obtain ⟨z12, E⟩ := gd_some E
        obtain ⟨H14, eH14, E⟩ := let_some E
        have hsH14 : ShM b0 H14 := by rw [eH14]; exact (ShM_wi hs)
        obtain ⟨z15, E⟩ := gd_some E
        by_cases c16 : ((ea_i H14 (b0 + 14) (Int32.toNatClampNeg x1)) - (ea_i H14 (b0 + 14) (Int32.toNatClampNeg x1)) / (2 : Int32) * (2 : Int32)) = (0 : Int32)
        · have E := (if_pos c16).symm.trans E
          exact ih 138 (1 : Int32) ((ea_i H14 (b0 + 0) 13) : Int32) (x1 : Int32) 0 H14 _ _ E hsH14
        have E := (if_neg c16).symm.trans E
        exact ih 138 (0 : Int32) ((ea_i H14 (b0 + 0) 13) : Int32) (x1 : Int32) 0 H14 _ _ E hsH14
      have E := (if_neg c23).symm.trans E
      obtain ⟨z18, E⟩ := gd_some E
      by_cases c22 : (vX12_isMore b0 (x2 : Int32) h) = (0 : Int32)
      · have E := (if_pos c22).symm.trans E
        exact ih 45 0 0 (x1 : Int32) ((x2 + (1 : Int32)) : Int32) h _ _ E hs
      have E := (if_neg c22).symm.trans E
      by_cases c21 : x1 = ((-1) : Int32)
      · have E := (if_pos c21).symm.trans E
        exact ih 45 0 0 (x2 : Int32) ((x2 + (1 : Int32)) : Int32) h _ _ E hs
      have E := (if_neg c21).symm.trans E
      obtain ⟨z19, E⟩ := gd_some E
      by_cases c20 : (vX12_isAheadOf b0 (x2 : Int32) (x1 : Int32) h) = (0 : Int32)
      · have E := (if_pos c20).symm.trans E
        exact ih 45 0 0 (x1 : Int32) ((x2 + (1 : Int32)) : Int32) h _ _ E hs
      have E := (if_neg c20).symm.trans E
      exact ih 45 0 0 (x2 : Int32) ((x2 + (1 : Int32)) : Int32) h _ _ E hs
    have E := (if_neg el3).symm.trans E
    by_cases el4 : lbl = 138
    · have E := (if_pos el4).symm.trans E
      obtain ⟨z24, E⟩ := gd_some E
      obtain ⟨H26, eH26, E⟩ := let_some E
      have hsH26 : ShM b0 H26 := by rw [eH26]; exact (ShM_wi hs)
      obtain ⟨z27, E⟩ := gd_some E
      obtain ⟨H29, eH29, E⟩ := let_some E
      have hsH29 : ShM b0 H29 := by rw [eH29]; exact (ShM_wi hsH26)
      obtain ⟨z30, E⟩ := gd_some E
      obtain ⟨z31, E⟩ := gd_some E
      obtain ⟨H33, eH33, E⟩ := let_some E
      have hsH33 : ShM b0 H33 := by rw [eH33]; exact (ShM_wi hsH29)
      obtain ⟨H35, eH35, E⟩ := let_some E
      have hsH35 : ShM b0 H35 := by rw [eH35]; exact (ShM_wi hsH33)
      obtain ⟨z36, E⟩ := gd_some E
      obtain ⟨z37, E⟩ := gd_some E
      obtain ⟨H39, eH39, E⟩ := let_some E
      have hsH39 : ShM b0 H39 := by rw [eH39]; exact (ShM_wi hsH35)
      exact ih 188 0 0 (x1 : Int32) 0 H39 _ _ E hsH39
    have E := (if_neg el4).symm.trans E
    by_cases el5 : lbl = 188
    · have E := (if_pos el5).symm.trans E
      by_cases c40 : x1 = ((-1) : Int32)
      · have E := (if_pos c40).symm.trans E
        exact ih 195 0 0 0 (0 : Int32) h _ _ E hs
      have E := (if_neg c40).symm.trans E
      exact ih 41 0 0 0 0 h _ _ E hs
    have E := (if_neg el5).symm.trans E
    by_cases el6 : lbl = 195
    · have E := (if_pos el6).symm.trans E
      by_cases c44 : (12 : Int32) ≤ x2
      · have E := (if_pos c44).symm.trans E
        exact ih 221 0 0 0 (((ea_i h (b0 + 0) 13) - (1 : Int32)) : Int32) h _ _ E hs
      have E := (if_neg c44).symm.trans E
      obtain ⟨z41, E⟩ := gd_some E
      obtain ⟨H43, eH43, E⟩ := let_some E
      have hsH43 : ShM b0 H43 := by rw [eH43]; exact (ShM_wi hs)
      exact ih 195 0 0 0 ((x2 + (1 : Int32)) : Int32) H43 _ _ E hsH43
    have E := (if_neg el6).symm.trans E
    by_cases el7 : lbl = 221
    · have E := (if_pos el7).symm.trans E
      by_cases c50 : x2 < (0 : Int32)
      · have E := (if_pos c50).symm.trans E
        exact ea_shO E hs
      have E := (if_neg c50).symm.trans E
      obtain ⟨z45, E⟩ := gd_some E
      by_cases c49 : (ea_i h (b0 + 11) (Int32.toNatClampNeg x2)) = (1 : Int32)
      · have E := (if_pos c49).symm.trans E
        obtain ⟨z46, E⟩ := gd_some E
        obtain ⟨H48, eH48, E⟩ := let_some E
        have hsH48 : ShM b0 H48 := by rw [eH48]; exact (shX12_goings hs)
        exact ih 221 0 0 0 ((x2 + ((-1) : Int32)) : Int32) H48 _ _ E hsH48
      have E := (if_neg c49).symm.trans E
      exact ih 221 0 0 0 ((x2 + ((-1) : Int32)) : Int32) h _ _ E hs
    have E := (if_neg el7).symm.trans E
    cases E
theorem shX12_table {b0 : Nat} {h : ea_H} (hs : ShM b0 h) : ShM b0 (wX12_table b0 h) := by
  unfold wX12_table
  cases K : qX12_table b0 h with
  | none => exact hs
  | some x => obtain ⟨x, y⟩ := x; unfold qX12_table at K; exact zX12_table _ _ _ _ _ _ _ _ _ K hs
noncomputable def vX12_bestFrom (b0 : Nat) (x1 : Int32) (x2 : Int32) (x3 : Int32) (h : ea_H) : Int32 := (if (vX12_going b0 (x1 : Int32) (x2 : Int32) (wX12_table b0 h)) = ((-1) : Int32) then ((-1) : Int32) else (ea_i (wX12_going b0 (x1 : Int32) (x2 : Int32) (wX12_table b0 h)) (b0 + 18) (Int32.toNatClampNeg (((12 : Int32) * (vX12_going b0 (x1 : Int32) (x2 : Int32) (wX12_table b0 h))) + x3))))
noncomputable def wX12_bestFrom (b0 : Nat) (x1 : Int32) (x2 : Int32) (x3 : Int32) (h : ea_H) : ea_H := (wX12_going b0 (x1 : Int32) (x2 : Int32) (wX12_table b0 h))
def okX12_bestFrom (b0 : Nat) (x1 : Int32) (x2 : Int32) (x3 : Int32) (h : ea_H) : Prop := (okX12_table b0 h) ∧ ((okX12_going b0 (x1 : Int32) (x2 : Int32) (wX12_table b0 h)) ∧ (((vX12_going b0 (x1 : Int32) (x2 : Int32) (wX12_table b0 h)) = ((-1) : Int32) → True) ∧ (¬ (vX12_going b0 (x1 : Int32) (x2 : Int32) (wX12_table b0 h)) = ((-1) : Int32) → vp_in (((12 : Int32) * (vX12_going b0 (x1 : Int32) (x2 : Int32) (wX12_table b0 h))) + x3) 12000)))
theorem shX12_bestFrom {b0 : Nat} {x1 : Int32} {x2 : Int32} {x3 : Int32} {h : ea_H} (hs : ShM b0 h) : ShM b0 (wX12_bestFrom b0 x1 x2 x3 h) := (shX12_going (shX12_table hs))
theorem sX12_bestFrom {d : Nat} {b0 : Nat} {x1 : Int32} {x2 : Int32} {x3 : Int32} {h : ea_H} (hd : 5 ≤ d) (hs : ShM b0 h) (K : okX12_bestFrom b0 x1 x2 x3 h) : ea_Met mX12_bestFrom d [vR (some (b0 + 0)), vI x1, vI x2, vI x3] h (some (vI (vX12_bestFrom b0 x1 x2 x3 h))) (wX12_bestFrom b0 x1 x2 x3 h) := by
  obtain ⟨X, EX⟩ : ∃ z, z = vX12_bestFrom b0 x1 x2 x3 h := ⟨_, rfl⟩
  rw [← EX]
  unfold vX12_bestFrom at EX
  obtain ⟨Y, EY⟩ : ∃ z, z = wX12_bestFrom b0 x1 x2 x3 h := ⟨_, rfl⟩
  rw [← EY]
  unfold wX12_bestFrom at EY
  unfold okX12_bestFrom at K
  refine ea_enter rfl (Nat.le_of_ble_eq_true rfl) ?_
  refine ea_aload_n (pc := 0) dX12_bestFrom_0 rfl 0 rfl ?_
  obtain ⟨z1, K⟩ := K
  refine ea_callV (pc := 1) (d' := d - 1) (As := []) (st := []) dX12_bestFrom_1 kX12_table (sX12_table (d := d - 1) (by omega) hs z1) (by omega) rfl (Nat.le_of_ble_eq_true rfl) ew_1774 ew_1776 ew_54 (ci := 12) rfl (by decide) (hs.1 0 (by decide)).1 (hs.1 0 (by decide)).2.1 ?_
  have hs2 : ShM b0 (wX12_table b0 h) := shX12_table hs
  refine ea_aload_n (pc := 4) dX12_bestFrom_4 rfl 0 rfl ?_
  refine ea_iload_n (pc := 5) dX12_bestFrom_5 rfl 1 rfl ?_
  refine ea_iload_n (pc := 6) dX12_bestFrom_6 rfl 2 rfl ?_
  obtain ⟨z3, K⟩ := K
  refine ea_callV (pc := 7) (d' := d - 1) (As := [vI x1, vI x2]) (st := []) dX12_bestFrom_7 kX12_going (sX12_going (d := d - 1) (by omega) hs2 z3) (by omega) rfl (Nat.le_of_ble_eq_true rfl) ew_1802 ew_1804 ew_61 (ci := 12) rfl (by decide) (hs2.1 0 (by decide)).1 (hs2.1 0 (by decide)).2.1 ?_
  have hs4 : ShM b0 (wX12_going b0 (x1 : Int32) (x2 : Int32) (wX12_table b0 h)) := shX12_going hs2
  refine ea_istore (pc := 10) (lv' := [(0, vR (some (b0 + 0))), (3, vI x3), (4, vI (vX12_going b0 (x1 : Int32) (x2 : Int32) (wX12_table b0 h)))]) dX12_bestFrom_10 (Nat.le_of_ble_eq_true rfl) [1, 4, 0] rfl ?_
  refine ea_iload (pc := 12) dX12_bestFrom_12 2 rfl ?_
  refine ea_iconst (pc := 14) dX12_bestFrom_14 (v := (-1)) rfl ?_
  refine ea_icmp_ne (pc := 15) (tgt := 22) dX12_bestFrom_15 rfl (fun c6 => ?_) (fun c6 => ?_)
  · have EX := EX.trans (if_neg c6)
    have K := K.2 c6
    refine ea_aload_n (pc := 22) dX12_bestFrom_22 rfl 0 rfl ?_
    refine ea_getR (pc := 23) dX12_bestFrom_23 ec_12 (k := 22) (Nat.le_of_ble_eq_true rfl) rfl (Or.inl ew_1367) (hs4.1 0 (by decide)).1 (hs4.1 0 (by decide)).2.1 (hs4.2 0 22 rfl) ?_
    refine ea_bipush (pc := 26) dX12_bestFrom_26 (v := 12) rfl ?_
    refine ea_iload (pc := 28) dX12_bestFrom_28 2 rfl ?_
    refine ea_imul (pc := 30) dX12_bestFrom_30 ?_
    refine ea_iload_n (pc := 31) dX12_bestFrom_31 rfl 1 rfl ?_
    refine ea_iadd (pc := 32) dX12_bestFrom_32 ?_
    have z5 := K
    refine ea_iald (pc := 33) dX12_bestFrom_33 (hs4.1 18 (by decide)).1 (hs4.1 18 (by decide)).2.1 (ea_vpl (hs4.1 18 (by decide)).2.2 z5) ?_
    exact ea_iretE (pc := 34) dX12_bestFrom_34 rfl rfl EX EY
  · have EX := EX.trans (if_pos c6)
    refine ea_iconst (pc := 18) dX12_bestFrom_18 (v := (-1)) rfl ?_
    refine ea_goto (pc := 19) (tgt := 34) dX12_bestFrom_19 rfl ?_
    exact ea_iretE (pc := 34) dX12_bestFrom_34 rfl rfl EX EY
noncomputable def vX12_way (b0 : Nat) (x1 : Int32) (x2 : Int32) (x3 : Int32) (x4 : Int32) (h : ea_H) : Int32 := (if (vX12_isTown b0 (x1 : Int32) h) = (0 : Int32) then ((-1) : Int32) else (if (vX12_isTown b0 (x3 : Int32) h) = (0 : Int32) then ((-1) : Int32) else (if x1 = x3 then ((-1) : Int32) else (if (vX12_isIn (x2 : Int32) ((ea_i h (b0 + 0) 0) : Int32) (10079 : Int32) h) = (0 : Int32) then ((-1) : Int32) else (if (vX12_bestFrom b0 (x1 : Int32) (x2 : Int32) (x3 : Int32) h) = ((-1) : Int32) then ((-1) : Int32) else (if Int32.toInt x4 = 0 then (ea_i (wX12_bestFrom b0 (x1 : Int32) (x2 : Int32) (x3 : Int32) h) (b0 + 15) (Int32.toNatClampNeg (((12 : Int32) * (vX12_bestFrom b0 (x1 : Int32) (x2 : Int32) (x3 : Int32) h)) + x3))) else (if Int32.toInt x4 = 1 then (ea_i (wX12_bestFrom b0 (x1 : Int32) (x2 : Int32) (x3 : Int32) h) (b0 + 16) (Int32.toNatClampNeg (((12 : Int32) * (vX12_bestFrom b0 (x1 : Int32) (x2 : Int32) (x3 : Int32) h)) + x3))) else (if Int32.toInt x4 = 2 then ((ea_i (wX12_bestFrom b0 (x1 : Int32) (x2 : Int32) (x3 : Int32) h) (b0 + 12) (Int32.toNatClampNeg (vX12_bestFrom b0 (x1 : Int32) (x2 : Int32) (x3 : Int32) h))) / (7 : Int32)) else (if Int32.toInt x4 = 3 then ((ea_i (wX12_bestFrom b0 (x1 : Int32) (x2 : Int32) (x3 : Int32) h) (b0 + 12) (Int32.toNatClampNeg (vX12_bestFrom b0 (x1 : Int32) (x2 : Int32) (x3 : Int32) h))) - (ea_i (wX12_bestFrom b0 (x1 : Int32) (x2 : Int32) (x3 : Int32) h) (b0 + 12) (Int32.toNatClampNeg (vX12_bestFrom b0 (x1 : Int32) (x2 : Int32) (x3 : Int32) h))) / (7 : Int32) * (7 : Int32)) else (if Int32.toInt x4 = 4 then (ea_i (wX12_bestFrom b0 (x1 : Int32) (x2 : Int32) (x3 : Int32) h) (b0 + 13) (Int32.toNatClampNeg (vX12_bestFrom b0 (x1 : Int32) (x2 : Int32) (x3 : Int32) h))) else (if Int32.toInt x4 = 5 then (ea_i (wX12_bestFrom b0 (x1 : Int32) (x2 : Int32) (x3 : Int32) h) (b0 + 17) (Int32.toNatClampNeg (((12 : Int32) * (vX12_bestFrom b0 (x1 : Int32) (x2 : Int32) (x3 : Int32) h)) + x3))) else ((-1) : Int32))))))))))))
noncomputable def wX12_way (b0 : Nat) (x1 : Int32) (x2 : Int32) (x3 : Int32) (x4 : Int32) (h : ea_H) : ea_H := (if (vX12_isTown b0 (x1 : Int32) h) = (0 : Int32) then h else (if (vX12_isTown b0 (x3 : Int32) h) = (0 : Int32) then h else (if x1 = x3 then h else (if (vX12_isIn (x2 : Int32) ((ea_i h (b0 + 0) 0) : Int32) (10079 : Int32) h) = (0 : Int32) then h else (wX12_bestFrom b0 (x1 : Int32) (x2 : Int32) (x3 : Int32) h)))))
def okX12_way (b0 : Nat) (x1 : Int32) (x2 : Int32) (x3 : Int32) (x4 : Int32) (h : ea_H) : Prop := ((vX12_isTown b0 (x1 : Int32) h) = (0 : Int32) → True) ∧ (¬ (vX12_isTown b0 (x1 : Int32) h) = (0 : Int32) → ((vX12_isTown b0 (x3 : Int32) h) = (0 : Int32) → True) ∧ (¬ (vX12_isTown b0 (x3 : Int32) h) = (0 : Int32) → (x1 = x3 → True) ∧ (¬ x1 = x3 → ((vX12_isIn (x2 : Int32) ((ea_i h (b0 + 0) 0) : Int32) (10079 : Int32) h) = (0 : Int32) → True) ∧ (¬ (vX12_isIn (x2 : Int32) ((ea_i h (b0 + 0) 0) : Int32) (10079 : Int32) h) = (0 : Int32) → (okX12_bestFrom b0 (x1 : Int32) (x2 : Int32) (x3 : Int32) h) ∧ (((vX12_bestFrom b0 (x1 : Int32) (x2 : Int32) (x3 : Int32) h) = ((-1) : Int32) → True) ∧ (¬ (vX12_bestFrom b0 (x1 : Int32) (x2 : Int32) (x3 : Int32) h) = ((-1) : Int32) → (Int32.toInt x4 = 0 → vp_in (((12 : Int32) * (vX12_bestFrom b0 (x1 : Int32) (x2 : Int32) (x3 : Int32) h)) + x3) 12000) ∧ (¬ Int32.toInt x4 = 0 → (Int32.toInt x4 = 1 → vp_in (((12 : Int32) * (vX12_bestFrom b0 (x1 : Int32) (x2 : Int32) (x3 : Int32) h)) + x3) 12000) ∧ (¬ Int32.toInt x4 = 1 → (Int32.toInt x4 = 2 → vp_in (vX12_bestFrom b0 (x1 : Int32) (x2 : Int32) (x3 : Int32) h) 1000) ∧ (¬ Int32.toInt x4 = 2 → (Int32.toInt x4 = 3 → vp_in (vX12_bestFrom b0 (x1 : Int32) (x2 : Int32) (x3 : Int32) h) 1000) ∧ (¬ Int32.toInt x4 = 3 → (Int32.toInt x4 = 4 → vp_in (vX12_bestFrom b0 (x1 : Int32) (x2 : Int32) (x3 : Int32) h) 1000) ∧ (¬ Int32.toInt x4 = 4 → (Int32.toInt x4 = 5 → vp_in (((12 : Int32) * (vX12_bestFrom b0 (x1 : Int32) (x2 : Int32) (x3 : Int32) h)) + x3) 12000) ∧ (¬ Int32.toInt x4 = 5 → True))))))))))))
theorem shX12_way {b0 : Nat} {x1 : Int32} {x2 : Int32} {x3 : Int32} {x4 : Int32} {h : ea_H} (hs : ShM b0 h) : ShM b0 (wX12_way b0 x1 x2 x3 x4 h) := (ShM_it hs (ShM_it hs (ShM_it hs (ShM_it hs (shX12_bestFrom hs)))))
theorem sX12_way {d : Nat} {b0 : Nat} {x1 : Int32} {x2 : Int32} {x3 : Int32} {x4 : Int32} {h : ea_H} (hd : 6 ≤ d) (hs : ShM b0 h) (K : okX12_way b0 x1 x2 x3 x4 h) : ea_Met mX12_way d [vR (some (b0 + 0)), vI x1, vI x2, vI x3, vI x4] h (some (vI (vX12_way b0 x1 x2 x3 x4 h))) (wX12_way b0 x1 x2 x3 x4 h) := by
  obtain ⟨X, EX⟩ : ∃ z, z = vX12_way b0 x1 x2 x3 x4 h := ⟨_, rfl⟩
  rw [← EX]
  unfold vX12_way at EX
  obtain ⟨Y, EY⟩ : ∃ z, z = wX12_way b0 x1 x2 x3 x4 h := ⟨_, rfl⟩
  rw [← EY]
  unfold wX12_way at EY
  unfold okX12_way at K
  refine ea_enter rfl (Nat.le_of_ble_eq_true rfl) ?_
  refine ea_aload_n (pc := 0) dX12_way_0 rfl 0 rfl ?_
  refine ea_iload_n (pc := 1) dX12_way_1 rfl 1 rfl ?_
  refine ea_callV (pc := 2) (d' := d - 1) (As := [vI x1]) (st := []) dX12_way_2 kX12_isTown (sX12_isTown (d := d - 1) (by omega) hs) (by omega) rfl (Nat.le_of_ble_eq_true rfl) ew_1708 ew_1710 ew_47 (ci := 12) rfl (by decide) (hs.1 0 (by decide)).1 (hs.1 0 (by decide)).2.1 ?_
  refine ea_if_eq (pc := 5) (tgt := 35) dX12_way_5 rfl (fun c16 => ?_) (fun c16 => ?_)
  · have EX := EX.trans (if_pos c16)
    have EY := EY.trans (if_pos c16)
    refine ea_iconst (pc := 35) dX12_way_35 (v := (-1)) rfl ?_
    exact ea_iretE (pc := 36) dX12_way_36 rfl rfl EX EY
  · have EX := EX.trans (if_neg c16)
    have EY := EY.trans (if_neg c16)
    have K := K.2 c16
    refine ea_aload_n (pc := 8) dX12_way_8 rfl 0 rfl ?_
    refine ea_iload_n (pc := 9) dX12_way_9 rfl 3 rfl ?_
    refine ea_callV (pc := 10) (d' := d - 1) (As := [vI x3]) (st := []) dX12_way_10 kX12_isTown (sX12_isTown (d := d - 1) (by omega) hs) (by omega) rfl (Nat.le_of_ble_eq_true rfl) ew_1708 ew_1710 ew_47 (ci := 12) rfl (by decide) (hs.1 0 (by decide)).1 (hs.1 0 (by decide)).2.1 ?_
    refine ea_if_eq (pc := 13) (tgt := 35) dX12_way_13 rfl (fun c15 => ?_) (fun c15 => ?_)
    · have EX := EX.trans (if_pos c15)
      have EY := EY.trans (if_pos c15)
      refine ea_iconst (pc := 35) dX12_way_35 (v := (-1)) rfl ?_
      exact ea_iretE (pc := 36) dX12_way_36 rfl rfl EX EY
    · have EX := EX.trans (if_neg c15)
      have EY := EY.trans (if_neg c15)
      have K := K.2 c15
      refine ea_iload_n (pc := 16) dX12_way_16 rfl 1 rfl ?_
      refine ea_iload_n (pc := 17) dX12_way_17 rfl 3 rfl ?_
      refine ea_icmp_eq (pc := 18) (tgt := 35) dX12_way_18 rfl (fun c14 => ?_) (fun c14 => ?_)
      · have EX := EX.trans (if_pos c14)
        have EY := EY.trans (if_pos c14)
        refine ea_iconst (pc := 35) dX12_way_35 (v := (-1)) rfl ?_
        exact ea_iretE (pc := 36) dX12_way_36 rfl rfl EX EY
      · have EX := EX.trans (if_neg c14)
        have EY := EY.trans (if_neg c14)
        have K := K.2 c14
        refine ea_iload_n (pc := 21) dX12_way_21 rfl 2 rfl ?_
        refine ea_aload_n (pc := 22) dX12_way_22 rfl 0 rfl ?_
        refine ea_getI (pc := 23) dX12_way_23 ec_12 (k := 0) (Nat.le_of_ble_eq_true rfl) rfl (Or.inl ew_1345) (hs.1 0 (by decide)).1 (hs.1 0 (by decide)).2.1 ?_
        refine ea_sipush (pc := 26) dX12_way_26 (v := 10079) rfl ?_
        refine ea_callS (pc := 29) (d' := d - 1) (As := [vI x2, vI (ea_i h (b0 + 0) 0), vI 10079]) (st := []) dX12_way_29 kX12_isIn (sX12_isIn (d := d - 1) (by omega)) (by omega) rfl (Nat.le_of_ble_eq_true rfl) ew_1712 ew_1713 ?_
        refine ea_if_ne (pc := 32) (tgt := 37) dX12_way_32 rfl (fun c13 => ?_) (fun c13 => ?_)
        · have EX := EX.trans (if_neg c13)
          have EY := EY.trans (if_neg c13)
          have K := K.2 c13
          refine ea_aload_n (pc := 37) dX12_way_37 rfl 0 rfl ?_
          refine ea_iload_n (pc := 38) dX12_way_38 rfl 1 rfl ?_
          refine ea_iload_n (pc := 39) dX12_way_39 rfl 2 rfl ?_
          refine ea_iload_n (pc := 40) dX12_way_40 rfl 3 rfl ?_
          obtain ⟨z4, K⟩ := K
          refine ea_callV (pc := 41) (d' := d - 1) (As := [vI x1, vI x2, vI x3]) (st := []) dX12_way_41 kX12_bestFrom (sX12_bestFrom (d := d - 1) (by omega) hs z4) (by omega) rfl (Nat.le_of_ble_eq_true rfl) ew_1770 ew_1772 ew_53 (ci := 12) rfl (by decide) (hs.1 0 (by decide)).1 (hs.1 0 (by decide)).2.1 ?_
          have hs5 : ShM b0 (wX12_bestFrom b0 (x1 : Int32) (x2 : Int32) (x3 : Int32) h) := shX12_bestFrom hs
          refine ea_istore (pc := 44) (lv' := [(0, vR (some (b0 + 0))), (3, vI x3), (4, vI x4), (5, vI (vX12_bestFrom b0 (x1 : Int32) (x2 : Int32) (x3 : Int32) h))]) dX12_way_44 (Nat.le_of_ble_eq_true rfl) [1, 4, 5, 0] rfl ?_
          refine ea_iload (pc := 46) dX12_way_46 3 rfl ?_
          refine ea_iconst (pc := 48) dX12_way_48 (v := (-1)) rfl ?_
          refine ea_icmp_ne (pc := 49) (tgt := 54) dX12_way_49 rfl (fun c12 => ?_) (fun c12 => ?_)
          · have EX := EX.trans (if_neg c12)
            have K := K.2 c12
            refine ea_iload (pc := 54) dX12_way_54 2 rfl ?_
            by_cases qc56_0 : Int32.toInt x4 = 0
            · have EX := EX.trans (if_pos qc56_0)
              have K := K.1 qc56_0
              refine ea_tswIn (pc := 56) (tgt := 96) dX12_way_56 (by rw [qc56_0]; decide) (by rw [qc56_0]; decide) (by rw [qc56_0]; rfl) rfl ?_
              refine ea_aload_n (pc := 96) dX12_way_96 rfl 0 rfl ?_
              refine ea_getR (pc := 97) dX12_way_97 ec_12 (k := 19) (Nat.le_of_ble_eq_true rfl) rfl (Or.inl ew_1364) (hs5.1 0 (by decide)).1 (hs5.1 0 (by decide)).2.1 (hs5.2 0 19 rfl) ?_
              refine ea_bipush (pc := 100) dX12_way_100 (v := 12) rfl ?_
              refine ea_iload (pc := 102) dX12_way_102 3 rfl ?_
              refine ea_imul (pc := 104) dX12_way_104 ?_
              refine ea_iload_n (pc := 105) dX12_way_105 rfl 1 rfl ?_
              refine ea_iadd (pc := 106) dX12_way_106 ?_
              have z6 := K
              refine ea_iald (pc := 107) dX12_way_107 (hs5.1 15 (by decide)).1 (hs5.1 15 (by decide)).2.1 (ea_vpl (hs5.1 15 (by decide)).2.2 z6) ?_
              exact ea_iretE (pc := 108) dX12_way_108 rfl rfl EX EY
            have EX := EX.trans (if_neg qc56_0)
            have K := K.2 qc56_0
            by_cases qc56_1 : Int32.toInt x4 = 1
            · have EX := EX.trans (if_pos qc56_1)
              have K := K.1 qc56_1
              refine ea_tswIn (pc := 56) (tgt := 109) dX12_way_56 (by rw [qc56_1]; decide) (by rw [qc56_1]; decide) (by rw [qc56_1]; rfl) rfl ?_
              refine ea_aload_n (pc := 109) dX12_way_109 rfl 0 rfl ?_
              refine ea_getR (pc := 110) dX12_way_110 ec_12 (k := 20) (Nat.le_of_ble_eq_true rfl) rfl (Or.inl ew_1365) (hs5.1 0 (by decide)).1 (hs5.1 0 (by decide)).2.1 (hs5.2 0 20 rfl) ?_
              refine ea_bipush (pc := 113) dX12_way_113 (v := 12) rfl ?_
              refine ea_iload (pc := 115) dX12_way_115 3 rfl ?_
              refine ea_imul (pc := 117) dX12_way_117 ?_
              refine ea_iload_n (pc := 118) dX12_way_118 rfl 1 rfl ?_
              refine ea_iadd (pc := 119) dX12_way_119 ?_
              have z7 := K
              refine ea_iald (pc := 120) dX12_way_120 (hs5.1 16 (by decide)).1 (hs5.1 16 (by decide)).2.1 (ea_vpl (hs5.1 16 (by decide)).2.2 z7) ?_
              exact ea_iretE (pc := 121) dX12_way_121 rfl rfl EX EY
            have EX := EX.trans (if_neg qc56_1)
            have K := K.2 qc56_1
            by_cases qc56_2 : Int32.toInt x4 = 2
            · have EX := EX.trans (if_pos qc56_2)
              have K := K.1 qc56_2
              refine ea_tswIn (pc := 56) (tgt := 122) dX12_way_56 (by rw [qc56_2]; decide) (by rw [qc56_2]; decide) (by rw [qc56_2]; rfl) rfl ?_
              refine ea_aload_n (pc := 122) dX12_way_122 rfl 0 rfl ?_
              refine ea_getR (pc := 123) dX12_way_123 ec_12 (k := 16) (Nat.le_of_ble_eq_true rfl) rfl (Or.inl ew_1361) (hs5.1 0 (by decide)).1 (hs5.1 0 (by decide)).2.1 (hs5.2 0 16 rfl) ?_
              refine ea_iload (pc := 126) dX12_way_126 3 rfl ?_
              have z8 := K
              refine ea_iald (pc := 128) dX12_way_128 (hs5.1 12 (by decide)).1 (hs5.1 12 (by decide)).2.1 (ea_vpl (hs5.1 12 (by decide)).2.2 z8) ?_
              refine ea_bipush (pc := 129) dX12_way_129 (v := 7) rfl ?_
              refine ea_idiv (pc := 131) dX12_way_131 (by decide) ?_
              exact ea_iretE (pc := 132) dX12_way_132 rfl rfl EX EY
            have EX := EX.trans (if_neg qc56_2)
            have K := K.2 qc56_2
            by_cases qc56_3 : Int32.toInt x4 = 3
            · have EX := EX.trans (if_pos qc56_3)
              have K := K.1 qc56_3
              refine ea_tswIn (pc := 56) (tgt := 133) dX12_way_56 (by rw [qc56_3]; decide) (by rw [qc56_3]; decide) (by rw [qc56_3]; rfl) rfl ?_
              refine ea_aload_n (pc := 133) dX12_way_133 rfl 0 rfl ?_
              refine ea_getR (pc := 134) dX12_way_134 ec_12 (k := 16) (Nat.le_of_ble_eq_true rfl) rfl (Or.inl ew_1361) (hs5.1 0 (by decide)).1 (hs5.1 0 (by decide)).2.1 (hs5.2 0 16 rfl) ?_
              refine ea_iload (pc := 137) dX12_way_137 3 rfl ?_
              have z9 := K
              refine ea_iald (pc := 139) dX12_way_139 (hs5.1 12 (by decide)).1 (hs5.1 12 (by decide)).2.1 (ea_vpl (hs5.1 12 (by decide)).2.2 z9) ?_
              refine ea_bipush (pc := 140) dX12_way_140 (v := 7) rfl ?_
              refine ea_irem (pc := 142) dX12_way_142 (by decide) ?_
              exact ea_iretE (pc := 143) dX12_way_143 rfl rfl EX EY
            have EX := EX.trans (if_neg qc56_3)
            have K := K.2 qc56_3
            by_cases qc56_4 : Int32.toInt x4 = 4
            · have EX := EX.trans (if_pos qc56_4)
              have K := K.1 qc56_4
              refine ea_tswIn (pc := 56) (tgt := 144) dX12_way_56 (by rw [qc56_4]; decide) (by rw [qc56_4]; decide) (by rw [qc56_4]; rfl) rfl ?_
              refine ea_aload_n (pc := 144) dX12_way_144 rfl 0 rfl ?_
              refine ea_getR (pc := 145) dX12_way_145 ec_12 (k := 17) (Nat.le_of_ble_eq_true rfl) rfl (Or.inl ew_1362) (hs5.1 0 (by decide)).1 (hs5.1 0 (by decide)).2.1 (hs5.2 0 17 rfl) ?_
              refine ea_iload (pc := 148) dX12_way_148 3 rfl ?_
              have z10 := K
              refine ea_iald (pc := 150) dX12_way_150 (hs5.1 13 (by decide)).1 (hs5.1 13 (by decide)).2.1 (ea_vpl (hs5.1 13 (by decide)).2.2 z10) ?_
              exact ea_iretE (pc := 151) dX12_way_151 rfl rfl EX EY
            have EX := EX.trans (if_neg qc56_4)
            have K := K.2 qc56_4
            by_cases qc56_5 : Int32.toInt x4 = 5
            · have EX := EX.trans (if_pos qc56_5)
              have K := K.1 qc56_5
              refine ea_tswIn (pc := 56) (tgt := 152) dX12_way_56 (by rw [qc56_5]; decide) (by rw [qc56_5]; decide) (by rw [qc56_5]; rfl) rfl ?_
              refine ea_aload_n (pc := 152) dX12_way_152 rfl 0 rfl ?_
              refine ea_getR (pc := 153) dX12_way_153 ec_12 (k := 21) (Nat.le_of_ble_eq_true rfl) rfl (Or.inl ew_1366) (hs5.1 0 (by decide)).1 (hs5.1 0 (by decide)).2.1 (hs5.2 0 21 rfl) ?_
              refine ea_bipush (pc := 156) dX12_way_156 (v := 12) rfl ?_
              refine ea_iload (pc := 158) dX12_way_158 3 rfl ?_
              refine ea_imul (pc := 160) dX12_way_160 ?_
              refine ea_iload_n (pc := 161) dX12_way_161 rfl 1 rfl ?_
              refine ea_iadd (pc := 162) dX12_way_162 ?_
              have z11 := K
              refine ea_iald (pc := 163) dX12_way_163 (hs5.1 17 (by decide)).1 (hs5.1 17 (by decide)).2.1 (ea_vpl (hs5.1 17 (by decide)).2.2 z11) ?_
              exact ea_iretE (pc := 164) dX12_way_164 rfl rfl EX EY
            have EX := EX.trans (if_neg qc56_5)
            have K := K.2 qc56_5
            refine ea_tswOut (pc := 56) (tgt := 165) dX12_way_56 (ea_sw_0_5 qc56_0 qc56_1 qc56_2 qc56_3 qc56_4 qc56_5) rfl ?_
            refine ea_iconst (pc := 165) dX12_way_165 (v := (-1)) rfl ?_
            exact ea_iretE (pc := 166) dX12_way_166 rfl rfl EX EY
          · have EX := EX.trans (if_pos c12)
            refine ea_iconst (pc := 52) dX12_way_52 (v := (-1)) rfl ?_
            exact ea_iretE (pc := 53) dX12_way_53 rfl rfl EX EY
        · have EX := EX.trans (if_pos c13)
          have EY := EY.trans (if_pos c13)
          refine ea_iconst (pc := 35) dX12_way_35 (v := (-1)) rfl ?_
          exact ea_iretE (pc := 36) dX12_way_36 rfl rfl EX EY
noncomputable def gX12_leaves (b0 : Nat) : Nat → Nat → Int32 → Int32 → Int32 → Int32 → Int32 → Int32 → Int32 → ea_H → Option (Unit × ea_H)
  | 0, _, _, _, _, _, _, _, _, _ => none
  | f + 1, lbl, x1, x2, x3, x4, x5, x6, x7, h =>
    if lbl = 0 then (gd (vp_in x1 1000) (gd (vp_in x1 1000) (gd ((okX12_townOf b0 ((ea_i h (b0 + 12) (Int32.toNatClampNeg x1)) : Int32) ((ea_i h (b0 + 13) (Int32.toNatClampNeg x1)) : Int32) h)) (gX12_leaves b0 f 25 (x1 : Int32) ((ea_i h (b0 + 12) (Int32.toNatClampNeg x1)) : Int32) ((ea_i h (b0 + 13) (Int32.toNatClampNeg x1)) : Int32) ((vX12_townOf b0 ((ea_i h (b0 + 12) (Int32.toNatClampNeg x1)) : Int32) ((ea_i h (b0 + 13) (Int32.toNatClampNeg x1)) : Int32) h) : Int32) (0 : Int32) 0 0 h)))) else
    if lbl = 25 then (if (ea_i h (b0 + 0) 63) ≤ x5 then (gX12_leaves b0 f 151 0 (x2 : Int32) (x3 : Int32) 0 0 0 0 h) else (gd (vp_in (((8 : Int32) * x2) + x3) 560) (if (ea_i h (b0 + 8) (Int32.toNatClampNeg (((8 : Int32) * x2) + x3))) = (0 : Int32) then (gd (vp_in x5 120) (if (ea_i h (b0 + 55) (Int32.toNatClampNeg x5)) = (0 : Int32) then (gd (vp_in x5 120) (if (ea_i h (b0 + 56) (Int32.toNatClampNeg x5)) = x4 then (gd (vp_in x1 1000) (gd (vp_in x5 120) (gd ((okX12_bestFrom b0 (x4 : Int32) ((ea_i h (b0 + 10) (Int32.toNatClampNeg x1)) : Int32) ((ea_i h (b0 + 40) (Int32.toNatClampNeg x5)) : Int32) h)) (ea_let (wX12_bestFrom b0 (x4 : Int32) ((ea_i h (b0 + 10) (Int32.toNatClampNeg x1)) : Int32) ((ea_i h (b0 + 40) (Int32.toNatClampNeg x5)) : Int32) h) fun H11 => (if (vX12_bestFrom b0 (x4 : Int32) ((ea_i h (b0 + 10) (Int32.toNatClampNeg x1)) : Int32) ((ea_i h (b0 + 40) (Int32.toNatClampNeg x5)) : Int32) h) = x1 then (gd (vp_in x5 120) (gd (vp_in (((12 : Int32) * x1) + (ea_i H11 (b0 + 40) (Int32.toNatClampNeg x5))) 12000) (gd (vp_in x5 120) (ea_let (ea_wi H11 (b0 + 57) (Int32.toNatClampNeg x5) (ea_i H11 (b0 + 17) (Int32.toNatClampNeg (((12 : Int32) * x1) + (ea_i H11 (b0 + 40) (Int32.toNatClampNeg x5)))))) fun H16 => (gd (vp_in x5 120) (ea_let (ea_wi H16 (b0 + 61) (Int32.toNatClampNeg x5) 0) fun H19 => (gd (vp_in x1 1000) (gd ((okX12_turns b0 (x5 : Int32) ((ea_i H19 (b0 + 10) (Int32.toNatClampNeg x1)) : Int32) (1 : Int32) ((vX12_code (x2 : Int32) H19) : Int32) H19)) (ea_let (wX12_turns b0 (x5 : Int32) ((ea_i H19 (b0 + 10) (Int32.toNatClampNeg x1)) : Int32) (1 : Int32) ((vX12_code (x2 : Int32) H19) : Int32) H19) fun H24 => (gX12_leaves b0 f 25 (x1 : Int32) (x2 : Int32) (x3 : Int32) (x4 : Int32) ((x5 + (1 : Int32)) : Int32) 0 0 H24)))))))))) else (gX12_leaves b0 f 25 (x1 : Int32) (x2 : Int32) (x3 : Int32) (x4 : Int32) ((x5 + (1 : Int32)) : Int32) 0 0 H11)))))) else (gX12_leaves b0 f 25 (x1 : Int32) (x2 : Int32) (x3 : Int32) (x4 : Int32) ((x5 + (1 : Int32)) : Int32) 0 0 h))) else (gX12_leaves b0 f 25 (x1 : Int32) (x2 : Int32) (x3 : Int32) (x4 : Int32) ((x5 + (1 : Int32)) : Int32) 0 0 h))) else (gX12_leaves b0 f 151 0 (x2 : Int32) (x3 : Int32) 0 0 0 0 h)))) else
    if lbl = 151 then (gd ((okX12_comesAt b0 (x2 : Int32) ((x3 + (1 : Int32)) : Int32) h)) (gd ((okX12_goesAt b0 (x2 : Int32) (x3 : Int32) h)) (gX12_leaves b0 f 171 0 (x2 : Int32) 0 0 (((vX12_comesAt b0 (x2 : Int32) ((x3 + (1 : Int32)) : Int32) h) - (vX12_goesAt b0 (x2 : Int32) (x3 : Int32) h)) : Int32) (0 : Int32) 0 h))) else
    if lbl = 171 then (if (ea_i h (b0 + 0) 92) ≤ x6 then (gX12_leaves b0 f 224 0 (x2 : Int32) 0 0 0 (0 : Int32) 0 h) else (gd (vp_in x6 8) (if (ea_i h (b0 + 68) (Int32.toNatClampNeg x6)) = (x2 / (7 : Int32)) then (gd (vp_in x6 8) (gd (vp_in x6 8) (ea_let (ea_wi h (b0 + 69) (Int32.toNatClampNeg x6) ((ea_i h (b0 + 66) (Int32.toNatClampNeg x6)) * x5)) fun H39 => (gX12_leaves b0 f 171 0 (x2 : Int32) 0 0 (x5 : Int32) ((x6 + (1 : Int32)) : Int32) 0 H39)))) else (gd (vp_in x6 8) (ea_let (ea_wi h (b0 + 69) (Int32.toNatClampNeg x6) 0) fun H35 => (gX12_leaves b0 f 171 0 (x2 : Int32) 0 0 (x5 : Int32) ((x6 + (1 : Int32)) : Int32) 0 H35)))))) else
    if lbl = 224 then (if (8 : Int32) ≤ x6 then (some ((), h)) else (gX12_leaves b0 f 234 0 (x2 : Int32) 0 0 0 (x6 : Int32) (0 : Int32) h)) else
    if lbl = 234 then (if (ea_i h (b0 + 0) 63) ≤ x7 then (gX12_leaves b0 f 224 0 (x2 : Int32) 0 0 0 ((x6 + (1 : Int32)) : Int32) 0 h) else (gd ((okX12_isAboard b0 (x7 : Int32) (x2 : Int32) h)) (if (vX12_isAboard b0 (x7 : Int32) (x2 : Int32) h) = (0 : Int32) then (gX12_leaves b0 f 234 0 (x2 : Int32) 0 0 0 (x6 : Int32) ((x7 + (1 : Int32)) : Int32) h) else (gd (vp_in x7 120) (if (ea_i h (b0 + 61) (Int32.toNatClampNeg x7)) = (0 : Int32) then (gd (vp_in x7 120) (if (ea_i h (b0 + 57) (Int32.toNatClampNeg x7)) = x6 then (gd ((okX12_townOf b0 (x2 : Int32) (x6 : Int32) h)) (gd ((okX12_sorts b0 (x7 : Int32) ((vX12_townOf b0 (x2 : Int32) (x6 : Int32) h) : Int32) h)) (ea_let (wX12_sorts b0 (x7 : Int32) ((vX12_townOf b0 (x2 : Int32) (x6 : Int32) h) : Int32) h) fun H49 => (gX12_leaves b0 f 234 0 (x2 : Int32) 0 0 0 (x6 : Int32) ((x7 + (1 : Int32)) : Int32) H49)))) else (gX12_leaves b0 f 234 0 (x2 : Int32) 0 0 0 (x6 : Int32) ((x7 + (1 : Int32)) : Int32) h))) else (gX12_leaves b0 f 234 0 (x2 : Int32) 0 0 0 (x6 : Int32) ((x7 + (1 : Int32)) : Int32) h)))))) else none
theorem tX12_leaves {d : Nat} {b0 : Nat} {h0 : ea_H} (hd : 6 ≤ d) : ∀ (f lbl : Nat) (x1 : Int32) (x2 : Int32) (x3 : Int32) (x4 : Int32) (x5 : Int32) (x6 : Int32) (x7 : Int32) (h : ea_H) (r : Unit) (h' : ea_H), gX12_leaves b0 f lbl x1 x2 x3 x4 x5 x6 x7 h = some (r, h') → ShM b0 h → (lbl = 0 → ea_W mX12_leaves d h0 none h' 0 [(0, vR (some (b0 + 0))), (1, vI x1)] [] h) ∧ (lbl = 25 → ea_W mX12_leaves d h0 none h' 25 [(0, vR (some (b0 + 0))), (1, vI x1), (2, vI x2), (3, vI x3), (4, vI x4), (5, vI x5)] [] h) ∧ (lbl = 151 → ea_W mX12_leaves d h0 none h' 151 [(0, vR (some (b0 + 0))), (2, vI x2), (3, vI x3)] [] h) ∧ (lbl = 171 → ea_W mX12_leaves d h0 none h' 171 [(0, vR (some (b0 + 0))), (2, vI x2), (5, vI x5), (6, vI x6)] [] h) ∧ (lbl = 224 → ea_W mX12_leaves d h0 none h' 224 [(0, vR (some (b0 + 0))), (2, vI x2), (6, vI x6)] [] h) ∧ (lbl = 234 → ea_W mX12_leaves d h0 none h' 234 [(0, vR (some (b0 + 0))), (2, vI x2), (6, vI x6), (7, vI x7)] [] h) := by
  intro f
  induction f with
  | zero => intro lbl x1 x2 x3 x4 x5 x6 x7 h r h' E; cases E
  | succ f ih =>
    intro lbl x1 x2 x3 x4 x5 x6 x7 h r h' E hs
    unfold gX12_leaves at E
    refine ⟨?_, ?_⟩
    · intro el
      subst el
      have E := (if_pos rfl).symm.trans E
      refine ea_aload_n (pc := 0) dX12_leaves_0 rfl 0 rfl ?_
      refine ea_getR (pc := 1) dX12_leaves_1 ec_12 (k := 16) (Nat.le_of_ble_eq_true rfl) rfl (Or.inl ew_1361) (hs.1 0 (by decide)).1 (hs.1 0 (by decide)).2.1 (hs.2 0 16 rfl) ?_
      refine ea_iload_n (pc := 4) dX12_leaves_4 rfl 1 rfl ?_
      obtain ⟨z1, E⟩ := gd_some E
      refine ea_iald (pc := 5) dX12_leaves_5 (hs.1 12 (by decide)).1 (hs.1 12 (by decide)).2.1 (ea_vpl (hs.1 12 (by decide)).2.2 z1) ?_
      refine ea_istore_n (pc := 6) (lv' := [(0, vR (some (b0 + 0))), (1, vI x1), (2, vI (ea_i h (b0 + 12) (Int32.toNatClampNeg x1)))]) dX12_leaves_6 rfl (Nat.le_of_ble_eq_true rfl) [1, 2, 0] rfl ?_
      refine ea_aload_n (pc := 7) dX12_leaves_7 rfl 0 rfl ?_
      refine ea_getR (pc := 8) dX12_leaves_8 ec_12 (k := 17) (Nat.le_of_ble_eq_true rfl) rfl (Or.inl ew_1362) (hs.1 0 (by decide)).1 (hs.1 0 (by decide)).2.1 (hs.2 0 17 rfl) ?_
      refine ea_iload_n (pc := 11) dX12_leaves_11 rfl 1 rfl ?_
      obtain ⟨z2, E⟩ := gd_some E
      refine ea_iald (pc := 12) dX12_leaves_12 (hs.1 13 (by decide)).1 (hs.1 13 (by decide)).2.1 (ea_vpl (hs.1 13 (by decide)).2.2 z2) ?_
      refine ea_istore_n (pc := 13) (lv' := [(0, vR (some (b0 + 0))), (1, vI x1), (2, vI (ea_i h (b0 + 12) (Int32.toNatClampNeg x1))), (3, vI (ea_i h (b0 + 13) (Int32.toNatClampNeg x1)))]) dX12_leaves_13 rfl (Nat.le_of_ble_eq_true rfl) [1, 2, 3, 0] rfl ?_
      refine ea_aload_n (pc := 14) dX12_leaves_14 rfl 0 rfl ?_
      refine ea_iload_n (pc := 15) dX12_leaves_15 rfl 2 rfl ?_
      refine ea_iload_n (pc := 16) dX12_leaves_16 rfl 3 rfl ?_
      obtain ⟨z3, E⟩ := gd_some E
      refine ea_callV (pc := 17) (d' := d - 1) (As := [vI (ea_i h (b0 + 12) (Int32.toNatClampNeg x1)), vI (ea_i h (b0 + 13) (Int32.toNatClampNeg x1))]) (st := []) dX12_leaves_17 kX12_townOf (sX12_townOf (d := d - 1) (by omega) hs z3) (by omega) rfl (Nat.le_of_ble_eq_true rfl) ew_1798 ew_1800 ew_60 (ci := 12) rfl (by decide) (hs.1 0 (by decide)).1 (hs.1 0 (by decide)).2.1 ?_
      refine ea_istore (pc := 20) (lv' := [(0, vR (some (b0 + 0))), (1, vI x1), (2, vI (ea_i h (b0 + 12) (Int32.toNatClampNeg x1))), (3, vI (ea_i h (b0 + 13) (Int32.toNatClampNeg x1))), (4, vI (vX12_townOf b0 ((ea_i h (b0 + 12) (Int32.toNatClampNeg x1)) : Int32) ((ea_i h (b0 + 13) (Int32.toNatClampNeg x1)) : Int32) h))]) dX12_leaves_20 (Nat.le_of_ble_eq_true rfl) [1, 2, 3, 4, 0] rfl ?_
      refine ea_iconst (pc := 22) dX12_leaves_22 (v := 0) rfl ?_
      refine ea_istore (pc := 23) (lv' := [(0, vR (some (b0 + 0))), (1, vI x1), (2, vI (ea_i h (b0 + 12) (Int32.toNatClampNeg x1))), (3, vI (ea_i h (b0 + 13) (Int32.toNatClampNeg x1))), (4, vI (vX12_townOf b0 ((ea_i h (b0 + 12) (Int32.toNatClampNeg x1)) : Int32) ((ea_i h (b0 + 13) (Int32.toNatClampNeg x1)) : Int32) h)), (5, vI 0)]) dX12_leaves_23 (Nat.le_of_ble_eq_true rfl) [1, 2, 3, 4, 5, 0] rfl ?_
      exact ((ih 25 (x1 : Int32) ((ea_i h (b0 + 12) (Int32.toNatClampNeg x1)) : Int32) ((ea_i h (b0 + 13) (Int32.toNatClampNeg x1)) : Int32) ((vX12_townOf b0 ((ea_i h (b0 + 12) (Int32.toNatClampNeg x1)) : Int32) ((ea_i h (b0 + 13) (Int32.toNatClampNeg x1)) : Int32) h) : Int32) (0 : Int32) 0 0 h _ _ E hs).2.1 rfl)
    refine ⟨?_, ?_⟩
    · intro el
      subst el
      have E := (if_neg (by decide)).symm.trans E
      have E := (if_pos rfl).symm.trans E
      refine ea_iload (pc := 25) dX12_leaves_25 5 rfl ?_
      refine ea_aload_n (pc := 27) dX12_leaves_27 rfl 0 rfl ?_
      refine ea_getI (pc := 28) dX12_leaves_28 ec_12 (k := 63) (Nat.le_of_ble_eq_true rfl) rfl (Or.inl ew_1408) (hs.1 0 (by decide)).1 (hs.1 0 (by decide)).2.1 ?_
      refine ea_icmp_ge (pc := 31) (tgt := 151) dX12_leaves_31 rfl (fun c29 => ?_) (fun c29 => ?_)
      · have E := (if_pos c29).symm.trans E
        exact (ea_fewer [0, 2, 3] rfl ((ih 151 0 (x2 : Int32) (x3 : Int32) 0 0 0 0 h _ _ E hs).2.2.1 rfl))
      · have E := (if_neg c29).symm.trans E
        refine ea_aload_n (pc := 34) dX12_leaves_34 rfl 0 rfl ?_
        refine ea_getR (pc := 35) dX12_leaves_35 ec_12 (k := 10) (Nat.le_of_ble_eq_true rfl) rfl (Or.inl ew_1355) (hs.1 0 (by decide)).1 (hs.1 0 (by decide)).2.1 (hs.2 0 10 rfl) ?_
        refine ea_bipush (pc := 38) dX12_leaves_38 (v := 8) rfl ?_
        refine ea_iload_n (pc := 40) dX12_leaves_40 rfl 2 rfl ?_
        refine ea_imul (pc := 41) dX12_leaves_41 ?_
        refine ea_iload_n (pc := 42) dX12_leaves_42 rfl 3 rfl ?_
        refine ea_iadd (pc := 43) dX12_leaves_43 ?_
        obtain ⟨z4, E⟩ := gd_some E
        refine ea_zald (pc := 44) dX12_leaves_44 (hs.1 8 (by decide)).1 (hs.1 8 (by decide)).2.1 (ea_vpl (hs.1 8 (by decide)).2.2 z4) ?_
        refine ea_if_ne (pc := 45) (tgt := 151) dX12_leaves_45 rfl (fun c28 => ?_) (fun c28 => ?_)
        · have E := (if_neg c28).symm.trans E
          exact (ea_fewer [0, 2, 3] rfl ((ih 151 0 (x2 : Int32) (x3 : Int32) 0 0 0 0 h _ _ E hs).2.2.1 rfl))
        · have E := (if_pos c28).symm.trans E
          refine ea_aload_n (pc := 48) dX12_leaves_48 rfl 0 rfl ?_
          refine ea_getR (pc := 49) dX12_leaves_49 ec_12 (k := 81) (Nat.le_of_ble_eq_true rfl) rfl (Or.inl ew_1426) (hs.1 0 (by decide)).1 (hs.1 0 (by decide)).2.1 (hs.2 0 81 rfl) ?_
          refine ea_iload (pc := 52) dX12_leaves_52 5 rfl ?_
          obtain ⟨z5, E⟩ := gd_some E
          refine ea_iald (pc := 54) dX12_leaves_54 (hs.1 55 (by decide)).1 (hs.1 55 (by decide)).2.1 (ea_vpl (hs.1 55 (by decide)).2.2 z5) ?_
          refine ea_if_ne (pc := 55) (tgt := 145) dX12_leaves_55 rfl (fun c27 => ?_) (fun c27 => ?_)
          · have E := (if_neg c27).symm.trans E
            refine ea_iinc (pc := 145) (v := 1) (lv' := [(0, vR (some (b0 + 0))), (1, vI x1), (2, vI x2), (3, vI x3), (4, vI x4), (5, vI (x5 + (1 : Int32)))]) dX12_leaves_145 5 rfl rfl (Nat.le_of_ble_eq_true rfl) [1, 2, 3, 4, 5, 0] rfl ?_
            refine ea_goto (pc := 148) (tgt := 25) dX12_leaves_148 rfl ?_
            exact ((ih 25 (x1 : Int32) (x2 : Int32) (x3 : Int32) (x4 : Int32) ((x5 + (1 : Int32)) : Int32) 0 0 h _ _ E hs).2.1 rfl)
          · have E := (if_pos c27).symm.trans E
            refine ea_aload_n (pc := 58) dX12_leaves_58 rfl 0 rfl ?_
            refine ea_getR (pc := 59) dX12_leaves_59 ec_12 (k := 82) (Nat.le_of_ble_eq_true rfl) rfl (Or.inl ew_1427) (hs.1 0 (by decide)).1 (hs.1 0 (by decide)).2.1 (hs.2 0 82 rfl) ?_
            refine ea_iload (pc := 62) dX12_leaves_62 5 rfl ?_
            obtain ⟨z6, E⟩ := gd_some E
            refine ea_iald (pc := 64) dX12_leaves_64 (hs.1 56 (by decide)).1 (hs.1 56 (by decide)).2.1 (ea_vpl (hs.1 56 (by decide)).2.2 z6) ?_
            refine ea_iload (pc := 65) dX12_leaves_65 4 rfl ?_
            refine ea_icmp_ne (pc := 67) (tgt := 145) dX12_leaves_67 rfl (fun c26 => ?_) (fun c26 => ?_)
            · have E := (if_neg c26).symm.trans E
              refine ea_iinc (pc := 145) (v := 1) (lv' := [(0, vR (some (b0 + 0))), (1, vI x1), (2, vI x2), (3, vI x3), (4, vI x4), (5, vI (x5 + (1 : Int32)))]) dX12_leaves_145 5 rfl rfl (Nat.le_of_ble_eq_true rfl) [1, 2, 3, 4, 5, 0] rfl ?_
              refine ea_goto (pc := 148) (tgt := 25) dX12_leaves_148 rfl ?_
              exact ((ih 25 (x1 : Int32) (x2 : Int32) (x3 : Int32) (x4 : Int32) ((x5 + (1 : Int32)) : Int32) 0 0 h _ _ E hs).2.1 rfl)
            · have E := (if_pos c26).symm.trans E
              refine ea_aload_n (pc := 70) dX12_leaves_70 rfl 0 rfl ?_
              refine ea_iload (pc := 71) dX12_leaves_71 4 rfl ?_
              refine ea_aload_n (pc := 73) dX12_leaves_73 rfl 0 rfl ?_
              refine ea_getR (pc := 74) dX12_leaves_74 ec_12 (k := 14) (Nat.le_of_ble_eq_true rfl) rfl (Or.inl ew_1359) (hs.1 0 (by decide)).1 (hs.1 0 (by decide)).2.1 (hs.2 0 14 rfl) ?_
              refine ea_iload_n (pc := 77) dX12_leaves_77 rfl 1 rfl ?_
              obtain ⟨z7, E⟩ := gd_some E
              refine ea_iald (pc := 78) dX12_leaves_78 (hs.1 10 (by decide)).1 (hs.1 10 (by decide)).2.1 (ea_vpl (hs.1 10 (by decide)).2.2 z7) ?_
              refine ea_aload_n (pc := 79) dX12_leaves_79 rfl 0 rfl ?_
              refine ea_getR (pc := 80) dX12_leaves_80 ec_12 (k := 66) (Nat.le_of_ble_eq_true rfl) rfl (Or.inl ew_1411) (hs.1 0 (by decide)).1 (hs.1 0 (by decide)).2.1 (hs.2 0 66 rfl) ?_
              refine ea_iload (pc := 83) dX12_leaves_83 5 rfl ?_
              obtain ⟨z8, E⟩ := gd_some E
              refine ea_iald (pc := 85) dX12_leaves_85 (hs.1 40 (by decide)).1 (hs.1 40 (by decide)).2.1 (ea_vpl (hs.1 40 (by decide)).2.2 z8) ?_
              obtain ⟨z9, E⟩ := gd_some E
              refine ea_callV (pc := 86) (d' := d - 1) (As := [vI x4, vI (ea_i h (b0 + 10) (Int32.toNatClampNeg x1)), vI (ea_i h (b0 + 40) (Int32.toNatClampNeg x5))]) (st := []) dX12_leaves_86 kX12_bestFrom (sX12_bestFrom (d := d - 1) (by omega) hs z9) (by omega) rfl (Nat.le_of_ble_eq_true rfl) ew_1770 ew_1772 ew_53 (ci := 12) rfl (by decide) (hs.1 0 (by decide)).1 (hs.1 0 (by decide)).2.1 ?_
              have hs10 : ShM b0 (wX12_bestFrom b0 (x4 : Int32) ((ea_i h (b0 + 10) (Int32.toNatClampNeg x1)) : Int32) ((ea_i h (b0 + 40) (Int32.toNatClampNeg x5)) : Int32) h) := shX12_bestFrom hs
              obtain ⟨H11, eH11, E⟩ := let_some E
              refine ea_nm eH11 ?_
              have hsH11 : ShM b0 H11 := by rw [eH11]; exact hs10
              refine ea_iload_n (pc := 89) dX12_leaves_89 rfl 1 rfl ?_
              refine ea_icmp_eq (pc := 90) (tgt := 96) dX12_leaves_90 rfl (fun c25 => ?_) (fun c25 => ?_)
              · have E := (if_pos c25).symm.trans E
                refine ea_aload_n (pc := 96) dX12_leaves_96 rfl 0 rfl ?_
                refine ea_getR (pc := 97) dX12_leaves_97 ec_12 (k := 83) (Nat.le_of_ble_eq_true rfl) rfl (Or.inl ew_1428) (hsH11.1 0 (by decide)).1 (hsH11.1 0 (by decide)).2.1 (hsH11.2 0 83 rfl) ?_
                refine ea_iload (pc := 100) dX12_leaves_100 5 rfl ?_
                refine ea_aload_n (pc := 102) dX12_leaves_102 rfl 0 rfl ?_
                refine ea_getR (pc := 103) dX12_leaves_103 ec_12 (k := 21) (Nat.le_of_ble_eq_true rfl) rfl (Or.inl ew_1366) (hsH11.1 0 (by decide)).1 (hsH11.1 0 (by decide)).2.1 (hsH11.2 0 21 rfl) ?_
                refine ea_bipush (pc := 106) dX12_leaves_106 (v := 12) rfl ?_
                refine ea_iload_n (pc := 108) dX12_leaves_108 rfl 1 rfl ?_
                refine ea_imul (pc := 109) dX12_leaves_109 ?_
                refine ea_aload_n (pc := 110) dX12_leaves_110 rfl 0 rfl ?_
                refine ea_getR (pc := 111) dX12_leaves_111 ec_12 (k := 66) (Nat.le_of_ble_eq_true rfl) rfl (Or.inl ew_1411) (hsH11.1 0 (by decide)).1 (hsH11.1 0 (by decide)).2.1 (hsH11.2 0 66 rfl) ?_
                refine ea_iload (pc := 114) dX12_leaves_114 5 rfl ?_
                obtain ⟨z12, E⟩ := gd_some E
                refine ea_iald (pc := 116) dX12_leaves_116 (hsH11.1 40 (by decide)).1 (hsH11.1 40 (by decide)).2.1 (ea_vpl (hsH11.1 40 (by decide)).2.2 z12) ?_
                refine ea_iadd (pc := 117) dX12_leaves_117 ?_
                obtain ⟨z13, E⟩ := gd_some E
                refine ea_iald (pc := 118) dX12_leaves_118 (hsH11.1 17 (by decide)).1 (hsH11.1 17 (by decide)).2.1 (ea_vpl (hsH11.1 17 (by decide)).2.2 z13) ?_
                obtain ⟨z14, E⟩ := gd_some E
                refine ea_iast (pc := 119) dX12_leaves_119 (hsH11.1 57 (by decide)).1 (hsH11.1 57 (by decide)).2.1 (ea_vpl (hsH11.1 57 (by decide)).2.2 z14) ?_
                have hs15 : ShM b0 (ea_wi H11 (b0 + 57) (Int32.toNatClampNeg x5) (ea_i H11 (b0 + 17) (Int32.toNatClampNeg (((12 : Int32) * x1) + (ea_i H11 (b0 + 40) (Int32.toNatClampNeg x5)))))) := ShM_wi hsH11
                obtain ⟨H16, eH16, E⟩ := let_some E
                refine ea_nm eH16 ?_
                have hsH16 : ShM b0 H16 := by rw [eH16]; exact hs15
                refine ea_aload_n (pc := 120) dX12_leaves_120 rfl 0 rfl ?_
                refine ea_getR (pc := 121) dX12_leaves_121 ec_12 (k := 87) (Nat.le_of_ble_eq_true rfl) rfl (Or.inl ew_1432) (hsH16.1 0 (by decide)).1 (hsH16.1 0 (by decide)).2.1 (hsH16.2 0 87 rfl) ?_
                refine ea_iload (pc := 124) dX12_leaves_124 5 rfl ?_
                refine ea_iconst (pc := 126) dX12_leaves_126 (v := 0) rfl ?_
                obtain ⟨z17, E⟩ := gd_some E
                refine ea_zast (pc := 127) dX12_leaves_127 (y := 0) (ea_bn (Or.inl rfl)) (hsH16.1 61 (by decide)).1 (hsH16.1 61 (by decide)).2.1 (ea_vpl (hsH16.1 61 (by decide)).2.2 z17) ?_
                have hs18 : ShM b0 (ea_wi H16 (b0 + 61) (Int32.toNatClampNeg x5) 0) := ShM_wi hsH16
                obtain ⟨H19, eH19, E⟩ := let_some E
                refine ea_nm eH19 ?_
                have hsH19 : ShM b0 H19 := by rw [eH19]; exact hs18
                refine ea_aload_n (pc := 128) dX12_leaves_128 rfl 0 rfl ?_
                refine ea_iload (pc := 129) dX12_leaves_129 5 rfl ?_
                refine ea_aload_n (pc := 131) dX12_leaves_131 rfl 0 rfl ?_
                refine ea_getR (pc := 132) dX12_leaves_132 ec_12 (k := 14) (Nat.le_of_ble_eq_true rfl) rfl (Or.inl ew_1359) (hsH19.1 0 (by decide)).1 (hsH19.1 0 (by decide)).2.1 (hsH19.2 0 14 rfl) ?_
                refine ea_iload_n (pc := 135) dX12_leaves_135 rfl 1 rfl ?_
                obtain ⟨z20, E⟩ := gd_some E
                refine ea_iald (pc := 136) dX12_leaves_136 (hsH19.1 10 (by decide)).1 (hsH19.1 10 (by decide)).2.1 (ea_vpl (hsH19.1 10 (by decide)).2.2 z20) ?_
                refine ea_iconst (pc := 137) dX12_leaves_137 (v := 1) rfl ?_
                refine ea_iload_n (pc := 138) dX12_leaves_138 rfl 2 rfl ?_
                refine ea_callS (pc := 139) (d' := d - 1) (As := [vI x2]) (st := [vI 1, vI (ea_i H19 (b0 + 10) (Int32.toNatClampNeg x1)), vI x5, vR (some (b0 + 0))]) dX12_leaves_139 kX12_code (sX12_code (d := d - 1) (by omega)) (by omega) rfl (Nat.le_of_ble_eq_true rfl) ew_2071 ew_2072 ?_
                obtain ⟨z22, E⟩ := gd_some E
                refine ea_callV (pc := 142) (d' := d - 1) (As := [vI x5, vI (ea_i H19 (b0 + 10) (Int32.toNatClampNeg x1)), vI 1, vI (vX12_code (x2 : Int32) H19)]) (st := []) dX12_leaves_142 kX12_turns (sX12_turns (d := d - 1) (by omega) hsH19 z22) (by omega) rfl (Nat.le_of_ble_eq_true rfl) ew_2011 ew_2013 ew_88 (ci := 12) rfl (by decide) (hsH19.1 0 (by decide)).1 (hsH19.1 0 (by decide)).2.1 ?_
                have hs23 : ShM b0 (wX12_turns b0 (x5 : Int32) ((ea_i H19 (b0 + 10) (Int32.toNatClampNeg x1)) : Int32) (1 : Int32) ((vX12_code (x2 : Int32) H19) : Int32) H19) := shX12_turns hsH19
                obtain ⟨H24, eH24, E⟩ := let_some E
                refine ea_nm eH24 ?_
                have hsH24 : ShM b0 H24 := by rw [eH24]; exact hs23
                refine ea_iinc (pc := 145) (v := 1) (lv' := [(0, vR (some (b0 + 0))), (1, vI x1), (2, vI x2), (3, vI x3), (4, vI x4), (5, vI (x5 + (1 : Int32)))]) dX12_leaves_145 5 rfl rfl (Nat.le_of_ble_eq_true rfl) [1, 2, 3, 4, 5, 0] rfl ?_
                refine ea_goto (pc := 148) (tgt := 25) dX12_leaves_148 rfl ?_
                exact ((ih 25 (x1 : Int32) (x2 : Int32) (x3 : Int32) (x4 : Int32) ((x5 + (1 : Int32)) : Int32) 0 0 H24 _ _ E hsH24).2.1 rfl)
              · have E := (if_neg c25).symm.trans E
                refine ea_goto (pc := 93) (tgt := 145) dX12_leaves_93 rfl ?_
                refine ea_iinc (pc := 145) (v := 1) (lv' := [(0, vR (some (b0 + 0))), (1, vI x1), (2, vI x2), (3, vI x3), (4, vI x4), (5, vI (x5 + (1 : Int32)))]) dX12_leaves_145 5 rfl rfl (Nat.le_of_ble_eq_true rfl) [1, 2, 3, 4, 5, 0] rfl ?_
                refine ea_goto (pc := 148) (tgt := 25) dX12_leaves_148 rfl ?_
                exact ((ih 25 (x1 : Int32) (x2 : Int32) (x3 : Int32) (x4 : Int32) ((x5 + (1 : Int32)) : Int32) 0 0 H11 _ _ E hsH11).2.1 rfl)
    refine ⟨?_, ?_⟩
    · intro el
      subst el
      have E := (if_neg (by decide)).symm.trans E
      have E := (if_neg (by decide)).symm.trans E
      have E := (if_pos rfl).symm.trans E
      refine ea_aload_n (pc := 151) dX12_leaves_151 rfl 0 rfl ?_
      refine ea_iload_n (pc := 152) dX12_leaves_152 rfl 1 rfl ?_
      refine ea_iload_n (pc := 153) dX12_leaves_153 rfl 2 rfl ?_
      refine ea_iconst (pc := 154) dX12_leaves_154 (v := 1) rfl ?_
      refine ea_iadd (pc := 155) dX12_leaves_155 ?_
      obtain ⟨z30, E⟩ := gd_some E
      refine ea_callV (pc := 156) (d' := d - 1) (As := [vI x2, vI (x3 + (1 : Int32))]) (st := []) dX12_leaves_156 kX12_comesAt (sX12_comesAt (d := d - 1) (by omega) hs z30) (by omega) rfl (Nat.le_of_ble_eq_true rfl) ew_1762 ew_1764 ew_52 (ci := 12) rfl (by decide) (hs.1 0 (by decide)).1 (hs.1 0 (by decide)).2.1 ?_
      refine ea_aload_n (pc := 159) dX12_leaves_159 rfl 0 rfl ?_
      refine ea_iload_n (pc := 160) dX12_leaves_160 rfl 1 rfl ?_
      refine ea_iload_n (pc := 161) dX12_leaves_161 rfl 2 rfl ?_
      obtain ⟨z31, E⟩ := gd_some E
      refine ea_callV (pc := 162) (d' := d - 1) (As := [vI x2, vI x3]) (st := [vI (vX12_comesAt b0 (x2 : Int32) ((x3 + (1 : Int32)) : Int32) h)]) dX12_leaves_162 kX12_goesAt (sX12_goesAt (d := d - 1) (by omega) hs z31) (by omega) rfl (Nat.le_of_ble_eq_true rfl) ew_1786 ew_1788 ew_57 (ci := 12) rfl (by decide) (hs.1 0 (by decide)).1 (hs.1 0 (by decide)).2.1 ?_
      refine ea_isub (pc := 165) dX12_leaves_165 ?_
      refine ea_istore (pc := 166) (lv' := [(0, vR (some (b0 + 0))), (2, vI x2), (5, vI ((vX12_comesAt b0 (x2 : Int32) ((x3 + (1 : Int32)) : Int32) h) - (vX12_goesAt b0 (x2 : Int32) (x3 : Int32) h)))]) dX12_leaves_166 (Nat.le_of_ble_eq_true rfl) [1, 2, 0] rfl ?_
      refine ea_iconst (pc := 168) dX12_leaves_168 (v := 0) rfl ?_
      refine ea_istore (pc := 169) (lv' := [(0, vR (some (b0 + 0))), (2, vI x2), (5, vI ((vX12_comesAt b0 (x2 : Int32) ((x3 + (1 : Int32)) : Int32) h) - (vX12_goesAt b0 (x2 : Int32) (x3 : Int32) h))), (6, vI 0)]) dX12_leaves_169 (Nat.le_of_ble_eq_true rfl) [1, 2, 3, 0] rfl ?_
      exact ((ih 171 0 (x2 : Int32) 0 0 (((vX12_comesAt b0 (x2 : Int32) ((x3 + (1 : Int32)) : Int32) h) - (vX12_goesAt b0 (x2 : Int32) (x3 : Int32) h)) : Int32) (0 : Int32) 0 h _ _ E hs).2.2.2.1 rfl)
    refine ⟨?_, ?_⟩
    · intro el
      subst el
      have E := (if_neg (by decide)).symm.trans E
      have E := (if_neg (by decide)).symm.trans E
      have E := (if_neg (by decide)).symm.trans E
      have E := (if_pos rfl).symm.trans E
      refine ea_iload (pc := 171) dX12_leaves_171 3 rfl ?_
      refine ea_aload_n (pc := 173) dX12_leaves_173 rfl 0 rfl ?_
      refine ea_getI (pc := 174) dX12_leaves_174 ec_12 (k := 92) (Nat.le_of_ble_eq_true rfl) rfl (Or.inl ew_1437) (hs.1 0 (by decide)).1 (hs.1 0 (by decide)).2.1 ?_
      refine ea_icmp_ge (pc := 177) (tgt := 221) dX12_leaves_177 rfl (fun c41 => ?_) (fun c41 => ?_)
      · have E := (if_pos c41).symm.trans E
        refine ea_iconst (pc := 221) dX12_leaves_221 (v := 0) rfl ?_
        refine ea_istore (pc := 222) (lv' := [(0, vR (some (b0 + 0))), (2, vI x2), (6, vI 0)]) dX12_leaves_222 (Nat.le_of_ble_eq_true rfl) [1, 2, 0] rfl ?_
        exact ((ih 224 0 (x2 : Int32) 0 0 0 (0 : Int32) 0 h _ _ E hs).2.2.2.2.1 rfl)
      · have E := (if_neg c41).symm.trans E
        refine ea_aload_n (pc := 180) dX12_leaves_180 rfl 0 rfl ?_
        refine ea_getR (pc := 181) dX12_leaves_181 ec_12 (k := 96) (Nat.le_of_ble_eq_true rfl) rfl (Or.inl ew_1441) (hs.1 0 (by decide)).1 (hs.1 0 (by decide)).2.1 (hs.2 0 96 rfl) ?_
        refine ea_iload (pc := 184) dX12_leaves_184 3 rfl ?_
        refine ea_aload_n (pc := 186) dX12_leaves_186 rfl 0 rfl ?_
        refine ea_getR (pc := 187) dX12_leaves_187 ec_12 (k := 95) (Nat.le_of_ble_eq_true rfl) rfl (Or.inl ew_1440) (hs.1 0 (by decide)).1 (hs.1 0 (by decide)).2.1 (hs.2 0 95 rfl) ?_
        refine ea_iload (pc := 190) dX12_leaves_190 3 rfl ?_
        obtain ⟨z32, E⟩ := gd_some E
        refine ea_iald (pc := 192) dX12_leaves_192 (hs.1 68 (by decide)).1 (hs.1 68 (by decide)).2.1 (ea_vpl (hs.1 68 (by decide)).2.2 z32) ?_
        refine ea_iload_n (pc := 193) dX12_leaves_193 rfl 1 rfl ?_
        refine ea_bipush (pc := 194) dX12_leaves_194 (v := 7) rfl ?_
        refine ea_idiv (pc := 196) dX12_leaves_196 (by decide) ?_
        refine ea_icmp_ne (pc := 197) (tgt := 213) dX12_leaves_197 rfl (fun c40 => ?_) (fun c40 => ?_)
        · have E := (if_neg c40).symm.trans E
          refine ea_iconst (pc := 213) dX12_leaves_213 (v := 0) rfl ?_
          obtain ⟨z33, E⟩ := gd_some E
          refine ea_iast (pc := 214) dX12_leaves_214 (hs.1 69 (by decide)).1 (hs.1 69 (by decide)).2.1 (ea_vpl (hs.1 69 (by decide)).2.2 z33) ?_
          have hs34 : ShM b0 (ea_wi h (b0 + 69) (Int32.toNatClampNeg x6) 0) := ShM_wi hs
          obtain ⟨H35, eH35, E⟩ := let_some E
          refine ea_nm eH35 ?_
          have hsH35 : ShM b0 H35 := by rw [eH35]; exact hs34
          refine ea_iinc (pc := 215) (v := 1) (lv' := [(0, vR (some (b0 + 0))), (2, vI x2), (5, vI x5), (6, vI (x6 + (1 : Int32)))]) dX12_leaves_215 3 rfl rfl (Nat.le_of_ble_eq_true rfl) [1, 2, 3, 0] rfl ?_
          refine ea_goto (pc := 218) (tgt := 171) dX12_leaves_218 rfl ?_
          exact ((ih 171 0 (x2 : Int32) 0 0 (x5 : Int32) ((x6 + (1 : Int32)) : Int32) 0 H35 _ _ E hsH35).2.2.2.1 rfl)
        · have E := (if_pos c40).symm.trans E
          refine ea_aload_n (pc := 200) dX12_leaves_200 rfl 0 rfl ?_
          refine ea_getR (pc := 201) dX12_leaves_201 ec_12 (k := 93) (Nat.le_of_ble_eq_true rfl) rfl (Or.inl ew_1438) (hs.1 0 (by decide)).1 (hs.1 0 (by decide)).2.1 (hs.2 0 93 rfl) ?_
          refine ea_iload (pc := 204) dX12_leaves_204 3 rfl ?_
          obtain ⟨z36, E⟩ := gd_some E
          refine ea_iald (pc := 206) dX12_leaves_206 (hs.1 66 (by decide)).1 (hs.1 66 (by decide)).2.1 (ea_vpl (hs.1 66 (by decide)).2.2 z36) ?_
          refine ea_iload (pc := 207) dX12_leaves_207 2 rfl ?_
          refine ea_imul (pc := 209) dX12_leaves_209 ?_
          refine ea_goto (pc := 210) (tgt := 214) dX12_leaves_210 rfl ?_
          obtain ⟨z37, E⟩ := gd_some E
          refine ea_iast (pc := 214) dX12_leaves_214 (hs.1 69 (by decide)).1 (hs.1 69 (by decide)).2.1 (ea_vpl (hs.1 69 (by decide)).2.2 z37) ?_
          have hs38 : ShM b0 (ea_wi h (b0 + 69) (Int32.toNatClampNeg x6) ((ea_i h (b0 + 66) (Int32.toNatClampNeg x6)) * x5)) := ShM_wi hs
          obtain ⟨H39, eH39, E⟩ := let_some E
          refine ea_nm eH39 ?_
          have hsH39 : ShM b0 H39 := by rw [eH39]; exact hs38
          refine ea_iinc (pc := 215) (v := 1) (lv' := [(0, vR (some (b0 + 0))), (2, vI x2), (5, vI x5), (6, vI (x6 + (1 : Int32)))]) dX12_leaves_215 3 rfl rfl (Nat.le_of_ble_eq_true rfl) [1, 2, 3, 0] rfl ?_
          refine ea_goto (pc := 218) (tgt := 171) dX12_leaves_218 rfl ?_
          exact ((ih 171 0 (x2 : Int32) 0 0 (x5 : Int32) ((x6 + (1 : Int32)) : Int32) 0 H39 _ _ E hsH39).2.2.2.1 rfl)
    refine ⟨?_, ?_⟩
    · intro el
      subst el
      have E := (if_neg (by decide)).symm.trans E
      have E := (if_neg (by decide)).symm.trans E
      have E := (if_neg (by decide)).symm.trans E
      have E := (if_neg (by decide)).symm.trans E
      have E := (if_pos rfl).symm.trans E
      refine ea_iload (pc := 224) dX12_leaves_224 2 rfl ?_
      refine ea_bipush (pc := 226) dX12_leaves_226 (v := 8) rfl ?_
      refine ea_icmp_ge (pc := 228) (tgt := 300) dX12_leaves_228 rfl (fun c42 => ?_) (fun c42 => ?_)
      · have E := (if_pos c42).symm.trans E
        exact ea_vretO (pc := 300) dX12_leaves_300 rfl E
      · have E := (if_neg c42).symm.trans E
        refine ea_iconst (pc := 231) dX12_leaves_231 (v := 0) rfl ?_
        refine ea_istore (pc := 232) (lv' := [(0, vR (some (b0 + 0))), (2, vI x2), (6, vI x6), (7, vI 0)]) dX12_leaves_232 (Nat.le_of_ble_eq_true rfl) [1, 2, 3, 0] rfl ?_
        exact ((ih 234 0 (x2 : Int32) 0 0 0 (x6 : Int32) (0 : Int32) h _ _ E hs).2.2.2.2.2 rfl)
    intro el
    subst el
    have E := (if_neg (by decide)).symm.trans E
    have E := (if_neg (by decide)).symm.trans E
    have E := (if_neg (by decide)).symm.trans E
    have E := (if_neg (by decide)).symm.trans E
    have E := (if_neg (by decide)).symm.trans E
    have E := (if_pos rfl).symm.trans E
    refine ea_iload (pc := 234) dX12_leaves_234 3 rfl ?_
    refine ea_aload_n (pc := 236) dX12_leaves_236 rfl 0 rfl ?_
    refine ea_getI (pc := 237) dX12_leaves_237 ec_12 (k := 63) (Nat.le_of_ble_eq_true rfl) rfl (Or.inl ew_1408) (hs.1 0 (by decide)).1 (hs.1 0 (by decide)).2.1 ?_
    refine ea_icmp_ge (pc := 240) (tgt := 294) dX12_leaves_240 rfl (fun c53 => ?_) (fun c53 => ?_)
    · have E := (if_pos c53).symm.trans E
      refine ea_iinc (pc := 294) (v := 1) (lv' := [(0, vR (some (b0 + 0))), (2, vI x2), (6, vI (x6 + (1 : Int32)))]) dX12_leaves_294 2 rfl rfl (Nat.le_of_ble_eq_true rfl) [1, 2, 0] rfl ?_
      refine ea_goto (pc := 297) (tgt := 224) dX12_leaves_297 rfl ?_
      exact ((ih 224 0 (x2 : Int32) 0 0 0 ((x6 + (1 : Int32)) : Int32) 0 h _ _ E hs).2.2.2.2.1 rfl)
    · have E := (if_neg c53).symm.trans E
      refine ea_aload_n (pc := 243) dX12_leaves_243 rfl 0 rfl ?_
      refine ea_iload (pc := 244) dX12_leaves_244 3 rfl ?_
      refine ea_iload_n (pc := 246) dX12_leaves_246 rfl 1 rfl ?_
      obtain ⟨z43, E⟩ := gd_some E
      refine ea_callV (pc := 247) (d' := d - 1) (As := [vI x7, vI x2]) (st := []) dX12_leaves_247 kX12_isAboard (sX12_isAboard (d := d - 1) (by omega) hs z43) (by omega) rfl (Nat.le_of_ble_eq_true rfl) ew_2067 ew_2069 ew_95 (ci := 12) rfl (by decide) (hs.1 0 (by decide)).1 (hs.1 0 (by decide)).2.1 ?_
      refine ea_if_eq (pc := 250) (tgt := 288) dX12_leaves_250 rfl (fun c52 => ?_) (fun c52 => ?_)
      · have E := (if_pos c52).symm.trans E
        refine ea_iinc (pc := 288) (v := 1) (lv' := [(0, vR (some (b0 + 0))), (2, vI x2), (6, vI x6), (7, vI (x7 + (1 : Int32)))]) dX12_leaves_288 3 rfl rfl (Nat.le_of_ble_eq_true rfl) [1, 2, 3, 0] rfl ?_
        refine ea_goto (pc := 291) (tgt := 234) dX12_leaves_291 rfl ?_
        exact ((ih 234 0 (x2 : Int32) 0 0 0 (x6 : Int32) ((x7 + (1 : Int32)) : Int32) h _ _ E hs).2.2.2.2.2 rfl)
      · have E := (if_neg c52).symm.trans E
        refine ea_aload_n (pc := 253) dX12_leaves_253 rfl 0 rfl ?_
        refine ea_getR (pc := 254) dX12_leaves_254 ec_12 (k := 87) (Nat.le_of_ble_eq_true rfl) rfl (Or.inl ew_1432) (hs.1 0 (by decide)).1 (hs.1 0 (by decide)).2.1 (hs.2 0 87 rfl) ?_
        refine ea_iload (pc := 257) dX12_leaves_257 3 rfl ?_
        obtain ⟨z44, E⟩ := gd_some E
        refine ea_zald (pc := 259) dX12_leaves_259 (hs.1 61 (by decide)).1 (hs.1 61 (by decide)).2.1 (ea_vpl (hs.1 61 (by decide)).2.2 z44) ?_
        refine ea_if_ne (pc := 260) (tgt := 288) dX12_leaves_260 rfl (fun c51 => ?_) (fun c51 => ?_)
        · have E := (if_neg c51).symm.trans E
          refine ea_iinc (pc := 288) (v := 1) (lv' := [(0, vR (some (b0 + 0))), (2, vI x2), (6, vI x6), (7, vI (x7 + (1 : Int32)))]) dX12_leaves_288 3 rfl rfl (Nat.le_of_ble_eq_true rfl) [1, 2, 3, 0] rfl ?_
          refine ea_goto (pc := 291) (tgt := 234) dX12_leaves_291 rfl ?_
          exact ((ih 234 0 (x2 : Int32) 0 0 0 (x6 : Int32) ((x7 + (1 : Int32)) : Int32) h _ _ E hs).2.2.2.2.2 rfl)
        · have E := (if_pos c51).symm.trans E
          refine ea_aload_n (pc := 263) dX12_leaves_263 rfl 0 rfl ?_
          refine ea_getR (pc := 264) dX12_leaves_264 ec_12 (k := 83) (Nat.le_of_ble_eq_true rfl) rfl (Or.inl ew_1428) (hs.1 0 (by decide)).1 (hs.1 0 (by decide)).2.1 (hs.2 0 83 rfl) ?_
          refine ea_iload (pc := 267) dX12_leaves_267 3 rfl ?_
          obtain ⟨z45, E⟩ := gd_some E
          refine ea_iald (pc := 269) dX12_leaves_269 (hs.1 57 (by decide)).1 (hs.1 57 (by decide)).2.1 (ea_vpl (hs.1 57 (by decide)).2.2 z45) ?_
          refine ea_iload (pc := 270) dX12_leaves_270 2 rfl ?_
          refine ea_icmp_ne (pc := 272) (tgt := 288) dX12_leaves_272 rfl (fun c50 => ?_) (fun c50 => ?_)
          · have E := (if_neg c50).symm.trans E
            refine ea_iinc (pc := 288) (v := 1) (lv' := [(0, vR (some (b0 + 0))), (2, vI x2), (6, vI x6), (7, vI (x7 + (1 : Int32)))]) dX12_leaves_288 3 rfl rfl (Nat.le_of_ble_eq_true rfl) [1, 2, 3, 0] rfl ?_
            refine ea_goto (pc := 291) (tgt := 234) dX12_leaves_291 rfl ?_
            exact ((ih 234 0 (x2 : Int32) 0 0 0 (x6 : Int32) ((x7 + (1 : Int32)) : Int32) h _ _ E hs).2.2.2.2.2 rfl)
          · have E := (if_pos c50).symm.trans E
            refine ea_aload_n (pc := 275) dX12_leaves_275 rfl 0 rfl ?_
            refine ea_iload (pc := 276) dX12_leaves_276 3 rfl ?_
            refine ea_aload_n (pc := 278) dX12_leaves_278 rfl 0 rfl ?_
            refine ea_iload_n (pc := 279) dX12_leaves_279 rfl 1 rfl ?_
            refine ea_iload (pc := 280) dX12_leaves_280 2 rfl ?_
            obtain ⟨z46, E⟩ := gd_some E
            refine ea_callV (pc := 282) (d' := d - 1) (As := [vI x2, vI x6]) (st := [vI x7, vR (some (b0 + 0))]) dX12_leaves_282 kX12_townOf (sX12_townOf (d := d - 1) (by omega) hs z46) (by omega) rfl (Nat.le_of_ble_eq_true rfl) ew_1798 ew_1800 ew_60 (ci := 12) rfl (by decide) (hs.1 0 (by decide)).1 (hs.1 0 (by decide)).2.1 ?_
            obtain ⟨z47, E⟩ := gd_some E
            refine ea_callV (pc := 285) (d' := d - 1) (As := [vI x7, vI (vX12_townOf b0 (x2 : Int32) (x6 : Int32) h)]) (st := []) dX12_leaves_285 kX12_sorts (sX12_sorts (d := d - 1) (by omega) hs z47) (by omega) rfl (Nat.le_of_ble_eq_true rfl) ew_2082 ew_2084 ew_98 (ci := 12) rfl (by decide) (hs.1 0 (by decide)).1 (hs.1 0 (by decide)).2.1 ?_
            have hs48 : ShM b0 (wX12_sorts b0 (x7 : Int32) ((vX12_townOf b0 (x2 : Int32) (x6 : Int32) h) : Int32) h) := shX12_sorts hs
            obtain ⟨H49, eH49, E⟩ := let_some E
            refine ea_nm eH49 ?_
            have hsH49 : ShM b0 H49 := by rw [eH49]; exact hs48
            refine ea_iinc (pc := 288) (v := 1) (lv' := [(0, vR (some (b0 + 0))), (2, vI x2), (6, vI x6), (7, vI (x7 + (1 : Int32)))]) dX12_leaves_288 3 rfl rfl (Nat.le_of_ble_eq_true rfl) [1, 2, 3, 0] rfl ?_
            refine ea_goto (pc := 291) (tgt := 234) dX12_leaves_291 rfl ?_
            exact ((ih 234 0 (x2 : Int32) 0 0 0 (x6 : Int32) ((x7 + (1 : Int32)) : Int32) H49 _ _ E hsH49).2.2.2.2.2 rfl)
noncomputable def qX12_leaves (b0 : Nat) (x1 : Int32) (h : ea_H) : Option (Unit × ea_H) := gX12_leaves b0 1000000000 0 x1 0 0 0 0 0 0 h
def okX12_leaves (b0 : Nat) (x1 : Int32) (h : ea_H) : Prop := ∃ x, qX12_leaves b0 x1 h = some x
noncomputable def wX12_leaves (b0 : Nat) (x1 : Int32) (h : ea_H) : ea_H := ((qX12_leaves b0 x1 h).getD ((), h)).2
theorem sX12_leaves {d : Nat} {b0 : Nat} {x1 : Int32} {h : ea_H} (hd : 6 ≤ d) (hs : ShM b0 h) (K : okX12_leaves b0 x1 h) : ea_Met mX12_leaves d [vR (some (b0 + 0)), vI x1] h none (wX12_leaves b0 x1 h) := by
  obtain ⟨⟨x, y⟩, K⟩ := K
  unfold wX12_leaves
  rw [K]
  unfold qX12_leaves at K
  exact ea_enter rfl (Nat.le_of_ble_eq_true rfl) ((tX12_leaves hd 1000000000 0 x1 0 0 0 0 0 0 h x y K hs).1 rfl)
theorem zX12_leaves {b0 : Nat} : ∀ (f lbl : Nat) (x1 : Int32) (x2 : Int32) (x3 : Int32) (x4 : Int32) (x5 : Int32) (x6 : Int32) (x7 : Int32) (h : ea_H) (r : Unit) (h' : ea_H), gX12_leaves b0 f lbl x1 x2 x3 x4 x5 x6 x7 h = some (r, h') → ShM b0 h → ShM b0 h' := by
  intro f
  induction f with
  | zero => intro lbl x1 x2 x3 x4 x5 x6 x7 h r h' E; cases E
  | succ f ih =>
    intro lbl x1 x2 x3 x4 x5 x6 x7 h r h' E hs
    unfold gX12_leaves at E
    by_cases el0 : lbl = 0
    · have E := (if_pos el0).symm.trans E
      obtain ⟨z1, E⟩ := gd_some E
      obtain ⟨z2, E⟩ := gd_some E
      obtain ⟨z3, E⟩ := gd_some E
      exact ih 25 (x1 : Int32) ((ea_i h (b0 + 12) (Int32.toNatClampNeg x1)) : Int32) ((ea_i h (b0 + 13) (Int32.toNatClampNeg x1)) : Int32) ((vX12_townOf b0 ((ea_i h (b0 + 12) (Int32.toNatClampNeg x1)) : Int32) ((ea_i h (b0 + 13) (Int32.toNatClampNeg x1)) : Int32) h) : Int32) (0 : Int32) 0 0 h _ _ E hs
    have E := (if_neg el0).symm.trans E
    by_cases el1 : lbl = 25
    · have E := (if_pos el1).symm.trans E
      by_cases c29 : (ea_i h (b0 + 0) 63) ≤ x5
      · have E := (if_pos c29).symm.trans E
        exact ih 151 0 (x2 : Int32) (x3 : Int32) 0 0 0 0 h _ _ E hs
      have E := (if_neg c29).symm.trans E
      obtain ⟨z4, E⟩ := gd_some E
      by_cases c28 : (ea_i h (b0 + 8) (Int32.toNatClampNeg (((8 : Int32) * x2) + x3))) = (0 : Int32)
      · have E := (if_pos c28).symm.trans E
        obtain ⟨z5, E⟩ := gd_some E
        by_cases c27 : (ea_i h (b0 + 55) (Int32.toNatClampNeg x5)) = (0 : Int32)
        · have E := (if_pos c27).symm.trans E
          obtain ⟨z6, E⟩ := gd_some E
          by_cases c26 : (ea_i h (b0 + 56) (Int32.toNatClampNeg x5)) = x4
          · have E := (if_pos c26).symm.trans E
            obtain ⟨z7, E⟩ := gd_some E
            obtain ⟨z8, E⟩ := gd_some E
            obtain ⟨z9, E⟩ := gd_some E
            obtain ⟨H11, eH11, E⟩ := let_some E
            have hsH11 : ShM b0 H11 := by rw [eH11]; exact (shX12_bestFrom hs)
            by_cases c25 : (vX12_bestFrom b0 (x4 : Int32) ((ea_i h (b0 + 10) (Int32.toNatClampNeg x1)) : Int32) ((ea_i h (b0 + 40) (Int32.toNatClampNeg x5)) : Int32) h) = x1
            · have E := (if_pos c25).symm.trans E
              obtain ⟨z12, E⟩ := gd_some E
              obtain ⟨z13, E⟩ := gd_some E
              obtain ⟨z14, E⟩ := gd_some E
              obtain ⟨H16, eH16, E⟩ := let_some E
              have hsH16 : ShM b0 H16 := by rw [eH16]; exact (ShM_wi hsH11)
              obtain ⟨z17, E⟩ := gd_some E
              obtain ⟨H19, eH19, E⟩ := let_some E
              have hsH19 : ShM b0 H19 := by rw [eH19]; exact (ShM_wi hsH16)
              obtain ⟨z20, E⟩ := gd_some E
              obtain ⟨z22, E⟩ := gd_some E
              obtain ⟨H24, eH24, E⟩ := let_some E
              have hsH24 : ShM b0 H24 := by rw [eH24]; exact (shX12_turns hsH19)
              exact ih 25 (x1 : Int32) (x2 : Int32) (x3 : Int32) (x4 : Int32) ((x5 + (1 : Int32)) : Int32) 0 0 H24 _ _ E hsH24
            have E := (if_neg c25).symm.trans E
            exact ih 25 (x1 : Int32) (x2 : Int32) (x3 : Int32) (x4 : Int32) ((x5 + (1 : Int32)) : Int32) 0 0 H11 _ _ E hsH11
          have E := (if_neg c26).symm.trans E
          exact ih 25 (x1 : Int32) (x2 : Int32) (x3 : Int32) (x4 : Int32) ((x5 + (1 : Int32)) : Int32) 0 0 h _ _ E hs
        have E := (if_neg c27).symm.trans E
        exact ih 25 (x1 : Int32) (x2 : Int32) (x3 : Int32) (x4 : Int32) ((x5 + (1 : Int32)) : Int32) 0 0 h _ _ E hs
      have E := (if_neg c28).symm.trans E
      exact ih 151 0 (x2 : Int32) (x3 : Int32) 0 0 0 0 h _ _ E hs
    have E := (if_neg el1).symm.trans E
    by_cases el2 : lbl = 151
    · have E := (if_pos el2).symm.trans E
      obtain ⟨z30, E⟩ := gd_some E
      obtain ⟨z31, E⟩ := gd_some E
      exact ih 171 0 (x2 : Int32) 0 0 (((vX12_comesAt b0 (x2 : Int32) ((x3 + (1 : Int32)) : Int32) h) - (vX12_goesAt b0 (x2 : Int32) (x3 : Int32) h)) : Int32) (0 : Int32) 0 h _ _ E hs
    have E := (if_neg el2).symm.trans E
    by_cases el3 : lbl = 171
    · have E := (if_pos el3).symm.trans E
      by_cases c41 : (ea_i h (b0 + 0) 92) ≤ x6
      · have E := (if_pos c41).symm.trans E
        exact ih 224 0 (x2 : Int32) 0 0 0 (0 : Int32) 0 h _ _ E hs
      have E := (if_neg c41).symm.trans E
      obtain ⟨z32, E⟩ := gd_some E
      by_cases c40 : (ea_i h (b0 + 68) (Int32.toNatClampNeg x6)) = (x2 / (7 : Int32))
      · have E := (if_pos c40).symm.trans E
        obtain ⟨z36, E⟩ := gd_some E
        obtain ⟨z37, E⟩ := gd_some E
        obtain ⟨H39, eH39, E⟩ := let_some E
        have hsH39 : ShM b0 H39 := by rw [eH39]; exact (ShM_wi hs)
        exact ih 171 0 (x2 : Int32) 0 0 (x5 : Int32) ((x6 + (1 : Int32)) : Int32) 0 H39 _ _ E hsH39
      have E := (if_neg c40).symm.trans E
      obtain ⟨z33, E⟩ := gd_some E
      obtain ⟨H35, eH35, E⟩ := let_some E
      have hsH35 : ShM b0 H35 := by rw [eH35]; exact (ShM_wi hs)
      exact ih 171 0 (x2 : Int32) 0 0 (x5 : Int32) ((x6 + (1 : Int32)) : Int32) 0 H35 _ _ E hsH35
    have E := (if_neg el3).symm.trans E
    by_cases el4 : lbl = 224
    · have E := (if_pos el4).symm.trans E
      by_cases c42 : (8 : Int32) ≤ x6
      · have E := (if_pos c42).symm.trans E
        exact ea_shO E hs
      have E := (if_neg c42).symm.trans E
      exact ih 234 0 (x2 : Int32) 0 0 0 (x6 : Int32) (0 : Int32) h _ _ E hs
    have E := (if_neg el4).symm.trans E
    by_cases el5 : lbl = 234
    · have E := (if_pos el5).symm.trans E
      by_cases c53 : (ea_i h (b0 + 0) 63) ≤ x7
      · have E := (if_pos c53).symm.trans E
        exact ih 224 0 (x2 : Int32) 0 0 0 ((x6 + (1 : Int32)) : Int32) 0 h _ _ E hs
      have E := (if_neg c53).symm.trans E
      obtain ⟨z43, E⟩ := gd_some E
      by_cases c52 : (vX12_isAboard b0 (x7 : Int32) (x2 : Int32) h) = (0 : Int32)
      · have E := (if_pos c52).symm.trans E
        exact ih 234 0 (x2 : Int32) 0 0 0 (x6 : Int32) ((x7 + (1 : Int32)) : Int32) h _ _ E hs
      have E := (if_neg c52).symm.trans E
      obtain ⟨z44, E⟩ := gd_some E
      by_cases c51 : (ea_i h (b0 + 61) (Int32.toNatClampNeg x7)) = (0 : Int32)
      · have E := (if_pos c51).symm.trans E
        obtain ⟨z45, E⟩ := gd_some E
        by_cases c50 : (ea_i h (b0 + 57) (Int32.toNatClampNeg x7)) = x6
        · have E := (if_pos c50).symm.trans E
          obtain ⟨z46, E⟩ := gd_some E
          obtain ⟨z47, E⟩ := gd_some E
          obtain ⟨H49, eH49, E⟩ := let_some E
          have hsH49 : ShM b0 H49 := by rw [eH49]; exact (shX12_sorts hs)
          exact ih 234 0 (x2 : Int32) 0 0 0 (x6 : Int32) ((x7 + (1 : Int32)) : Int32) H49 _ _ E hsH49
        have E := (if_neg c50).symm.trans E
        exact ih 234 0 (x2 : Int32) 0 0 0 (x6 : Int32) ((x7 + (1 : Int32)) : Int32) h _ _ E hs
      have E := (if_neg c51).symm.trans E
      exact ih 234 0 (x2 : Int32) 0 0 0 (x6 : Int32) ((x7 + (1 : Int32)) : Int32) h _ _ E hs
    have E := (if_neg el5).symm.trans E
    cases E
theorem shX12_leaves {b0 : Nat} {x1 : Int32} {h : ea_H} (hs : ShM b0 h) : ShM b0 (wX12_leaves b0 x1 h) := by
  unfold wX12_leaves
  cases K : qX12_leaves b0 x1 h with
  | none => exact hs
  | some x => obtain ⟨x, y⟩ := x; unfold qX12_leaves at K; exact zX12_leaves _ _ _ _ _ _ _ _ _ _ _ _ K hs
noncomputable def gX12_leadsOn (b0 : Nat) : Nat → Nat → Int32 → Int32 → Int32 → Int32 → ea_H → Option (Unit × ea_H)
  | 0, _, _, _, _, _, _ => none
  | f + 1, lbl, x1, x2, x3, x4, h =>
    if lbl = 0 then (gd ((okX12_table b0 h)) (ea_let (wX12_table b0 h) fun H3 => (gX12_leadsOn b0 f 15 (x1 : Int32) (x2 : Int32) (((x1 / (1440 : Int32)) + (1 : Int32)) : Int32) (0 : Int32) H3))) else
    if lbl = 15 then (if (ea_i h (b0 + 0) 13) ≤ x4 then (gX12_leadsOn b0 f 110 0 (x2 : Int32) (x3 : Int32) 0 h) else (gd (vp_in x4 1000) (if x2 < (ea_i h (b0 + 10) (Int32.toNatClampNeg x4)) then (gX12_leadsOn b0 f 110 0 (x2 : Int32) (x3 : Int32) 0 h) else (gd (vp_in x4 1000) (if x1 < (ea_i h (b0 + 10) (Int32.toNatClampNeg x4)) then (gX12_leadsOn b0 f 49 (x1 : Int32) (x2 : Int32) (x3 : Int32) (x4 : Int32) h) else (gX12_leadsOn b0 f 15 (x1 : Int32) (x2 : Int32) (x3 : Int32) ((x4 + (1 : Int32)) : Int32) h)))))) else
    if lbl = 49 then (gd (vp_in x4 1000) (if (ea_i h (b0 + 10) (Int32.toNatClampNeg x4)) < ((1440 : Int32) * x3) then (gd (vp_in x4 1000) (if (ea_i h (b0 + 11) (Int32.toNatClampNeg x4)) = (0 : Int32) then (gd ((okX12_coming b0 (x4 : Int32) h)) (ea_let (wX12_coming b0 (x4 : Int32) h) fun H16 => (gX12_leadsOn b0 f 15 (x1 : Int32) (x2 : Int32) (x3 : Int32) ((x4 + (1 : Int32)) : Int32) H16))) else (gd ((okX12_leaves b0 (x4 : Int32) h)) (ea_let (wX12_leaves b0 (x4 : Int32) h) fun H13 => (gX12_leadsOn b0 f 15 (x1 : Int32) (x2 : Int32) (x3 : Int32) ((x4 + (1 : Int32)) : Int32) H13))))) else (gd ((okX12_begins b0 (((1440 : Int32) * x3) : Int32) h)) (ea_let (wX12_begins b0 (((1440 : Int32) * x3) : Int32) h) fun H20 => (gX12_leadsOn b0 f 49 (x1 : Int32) (x2 : Int32) ((x3 + (1 : Int32)) : Int32) (x4 : Int32) H20))))) else
    if lbl = 110 then (if x2 < ((1440 : Int32) * x3) then (some ((), h)) else (gd ((okX12_begins b0 (((1440 : Int32) * x3) : Int32) h)) (ea_let (wX12_begins b0 (((1440 : Int32) * x3) : Int32) h) fun H24 => (gX12_leadsOn b0 f 110 0 (x2 : Int32) ((x3 + (1 : Int32)) : Int32) 0 H24)))) else none
theorem tX12_leadsOn {d : Nat} {b0 : Nat} {h0 : ea_H} (hd : 7 ≤ d) : ∀ (f lbl : Nat) (x1 : Int32) (x2 : Int32) (x3 : Int32) (x4 : Int32) (h : ea_H) (r : Unit) (h' : ea_H), gX12_leadsOn b0 f lbl x1 x2 x3 x4 h = some (r, h') → ShM b0 h → (lbl = 0 → ea_W mX12_leadsOn d h0 none h' 0 [(0, vR (some (b0 + 0))), (1, vI x1), (2, vI x2)] [] h) ∧ (lbl = 15 → ea_W mX12_leadsOn d h0 none h' 15 [(0, vR (some (b0 + 0))), (1, vI x1), (2, vI x2), (3, vI x3), (4, vI x4)] [] h) ∧ (lbl = 49 → ea_W mX12_leadsOn d h0 none h' 49 [(0, vR (some (b0 + 0))), (1, vI x1), (2, vI x2), (3, vI x3), (4, vI x4)] [] h) ∧ (lbl = 110 → ea_W mX12_leadsOn d h0 none h' 110 [(0, vR (some (b0 + 0))), (2, vI x2), (3, vI x3)] [] h) := by
  intro f
  induction f with
  | zero => intro lbl x1 x2 x3 x4 h r h' E; cases E
  | succ f ih =>
    intro lbl x1 x2 x3 x4 h r h' E hs
    unfold gX12_leadsOn at E
    refine ⟨?_, ?_⟩
    · intro el
      subst el
      have E := (if_pos rfl).symm.trans E
      refine ea_aload_n (pc := 0) dX12_leadsOn_0 rfl 0 rfl ?_
      obtain ⟨z1, E⟩ := gd_some E
      refine ea_callV (pc := 1) (d' := d - 1) (As := []) (st := []) dX12_leadsOn_1 kX12_table (sX12_table (d := d - 1) (by omega) hs z1) (by omega) rfl (Nat.le_of_ble_eq_true rfl) ew_1774 ew_1776 ew_54 (ci := 12) rfl (by decide) (hs.1 0 (by decide)).1 (hs.1 0 (by decide)).2.1 ?_
      have hs2 : ShM b0 (wX12_table b0 h) := shX12_table hs
      obtain ⟨H3, eH3, E⟩ := let_some E
      refine ea_nm eH3 ?_
      have hsH3 : ShM b0 H3 := by rw [eH3]; exact hs2
      refine ea_iload_n (pc := 4) dX12_leadsOn_4 rfl 1 rfl ?_
      refine ea_sipush (pc := 5) dX12_leadsOn_5 (v := 1440) rfl ?_
      refine ea_idiv (pc := 8) dX12_leadsOn_8 (by decide) ?_
      refine ea_iconst (pc := 9) dX12_leadsOn_9 (v := 1) rfl ?_
      refine ea_iadd (pc := 10) dX12_leadsOn_10 ?_
      refine ea_istore_n (pc := 11) (lv' := [(0, vR (some (b0 + 0))), (1, vI x1), (2, vI x2), (3, vI ((x1 / (1440 : Int32)) + (1 : Int32)))]) dX12_leadsOn_11 rfl (Nat.le_of_ble_eq_true rfl) [1, 2, 3, 0] rfl ?_
      refine ea_iconst (pc := 12) dX12_leadsOn_12 (v := 0) rfl ?_
      refine ea_istore (pc := 13) (lv' := [(0, vR (some (b0 + 0))), (1, vI x1), (2, vI x2), (3, vI ((x1 / (1440 : Int32)) + (1 : Int32))), (4, vI 0)]) dX12_leadsOn_13 (Nat.le_of_ble_eq_true rfl) [1, 2, 3, 4, 0] rfl ?_
      exact ((ih 15 (x1 : Int32) (x2 : Int32) (((x1 / (1440 : Int32)) + (1 : Int32)) : Int32) (0 : Int32) H3 _ _ E hsH3).2.1 rfl)
    refine ⟨?_, ?_⟩
    · intro el
      subst el
      have E := (if_neg (by decide)).symm.trans E
      have E := (if_pos rfl).symm.trans E
      refine ea_iload (pc := 15) dX12_leadsOn_15 4 rfl ?_
      refine ea_aload_n (pc := 17) dX12_leadsOn_17 rfl 0 rfl ?_
      refine ea_getI (pc := 18) dX12_leadsOn_18 ec_12 (k := 13) (Nat.le_of_ble_eq_true rfl) rfl (Or.inl ew_1358) (hs.1 0 (by decide)).1 (hs.1 0 (by decide)).2.1 ?_
      refine ea_icmp_ge (pc := 21) (tgt := 110) dX12_leadsOn_21 rfl (fun c8 => ?_) (fun c8 => ?_)
      · have E := (if_pos c8).symm.trans E
        exact (ea_fewer [0, 2, 3] rfl ((ih 110 0 (x2 : Int32) (x3 : Int32) 0 h _ _ E hs).2.2.2 rfl))
      · have E := (if_neg c8).symm.trans E
        refine ea_aload_n (pc := 24) dX12_leadsOn_24 rfl 0 rfl ?_
        refine ea_getR (pc := 25) dX12_leadsOn_25 ec_12 (k := 14) (Nat.le_of_ble_eq_true rfl) rfl (Or.inl ew_1359) (hs.1 0 (by decide)).1 (hs.1 0 (by decide)).2.1 (hs.2 0 14 rfl) ?_
        refine ea_iload (pc := 28) dX12_leadsOn_28 4 rfl ?_
        obtain ⟨z4, E⟩ := gd_some E
        refine ea_iald (pc := 30) dX12_leadsOn_30 (hs.1 10 (by decide)).1 (hs.1 10 (by decide)).2.1 (ea_vpl (hs.1 10 (by decide)).2.2 z4) ?_
        refine ea_iload_n (pc := 31) dX12_leadsOn_31 rfl 2 rfl ?_
        refine ea_icmp_gt (pc := 32) (tgt := 110) dX12_leadsOn_32 rfl (fun c7 => ?_) (fun c7 => ?_)
        · have E := (if_pos c7).symm.trans E
          exact (ea_fewer [0, 2, 3] rfl ((ih 110 0 (x2 : Int32) (x3 : Int32) 0 h _ _ E hs).2.2.2 rfl))
        · have E := (if_neg c7).symm.trans E
          refine ea_aload_n (pc := 35) dX12_leadsOn_35 rfl 0 rfl ?_
          refine ea_getR (pc := 36) dX12_leadsOn_36 ec_12 (k := 14) (Nat.le_of_ble_eq_true rfl) rfl (Or.inl ew_1359) (hs.1 0 (by decide)).1 (hs.1 0 (by decide)).2.1 (hs.2 0 14 rfl) ?_
          refine ea_iload (pc := 39) dX12_leadsOn_39 4 rfl ?_
          obtain ⟨z5, E⟩ := gd_some E
          refine ea_iald (pc := 41) dX12_leadsOn_41 (hs.1 10 (by decide)).1 (hs.1 10 (by decide)).2.1 (ea_vpl (hs.1 10 (by decide)).2.2 z5) ?_
          refine ea_iload_n (pc := 42) dX12_leadsOn_42 rfl 1 rfl ?_
          refine ea_icmp_gt (pc := 43) (tgt := 49) dX12_leadsOn_43 rfl (fun c6 => ?_) (fun c6 => ?_)
          · have E := (if_pos c6).symm.trans E
            exact ((ih 49 (x1 : Int32) (x2 : Int32) (x3 : Int32) (x4 : Int32) h _ _ E hs).2.2.1 rfl)
          · have E := (if_neg c6).symm.trans E
            refine ea_goto (pc := 46) (tgt := 104) dX12_leadsOn_46 rfl ?_
            refine ea_iinc (pc := 104) (v := 1) (lv' := [(0, vR (some (b0 + 0))), (1, vI x1), (2, vI x2), (3, vI x3), (4, vI (x4 + (1 : Int32)))]) dX12_leadsOn_104 4 rfl rfl (Nat.le_of_ble_eq_true rfl) [1, 2, 3, 4, 0] rfl ?_
            refine ea_goto (pc := 107) (tgt := 15) dX12_leadsOn_107 rfl ?_
            exact ((ih 15 (x1 : Int32) (x2 : Int32) (x3 : Int32) ((x4 + (1 : Int32)) : Int32) h _ _ E hs).2.1 rfl)
    refine ⟨?_, ?_⟩
    · intro el
      subst el
      have E := (if_neg (by decide)).symm.trans E
      have E := (if_neg (by decide)).symm.trans E
      have E := (if_pos rfl).symm.trans E
      refine ea_sipush (pc := 49) dX12_leadsOn_49 (v := 1440) rfl ?_
      refine ea_iload_n (pc := 52) dX12_leadsOn_52 rfl 3 rfl ?_
      refine ea_imul (pc := 53) dX12_leadsOn_53 ?_
      refine ea_aload_n (pc := 54) dX12_leadsOn_54 rfl 0 rfl ?_
      refine ea_getR (pc := 55) dX12_leadsOn_55 ec_12 (k := 14) (Nat.le_of_ble_eq_true rfl) rfl (Or.inl ew_1359) (hs.1 0 (by decide)).1 (hs.1 0 (by decide)).2.1 (hs.2 0 14 rfl) ?_
      refine ea_iload (pc := 58) dX12_leadsOn_58 4 rfl ?_
      obtain ⟨z9, E⟩ := gd_some E
      refine ea_iald (pc := 60) dX12_leadsOn_60 (hs.1 10 (by decide)).1 (hs.1 10 (by decide)).2.1 (ea_vpl (hs.1 10 (by decide)).2.2 z9) ?_
      refine ea_icmp_gt (pc := 61) (tgt := 79) dX12_leadsOn_61 rfl (fun c21 => ?_) (fun c21 => ?_)
      · have E := (if_pos c21).symm.trans E
        refine ea_aload_n (pc := 79) dX12_leadsOn_79 rfl 0 rfl ?_
        refine ea_getR (pc := 80) dX12_leadsOn_80 ec_12 (k := 15) (Nat.le_of_ble_eq_true rfl) rfl (Or.inl ew_1360) (hs.1 0 (by decide)).1 (hs.1 0 (by decide)).2.1 (hs.2 0 15 rfl) ?_
        refine ea_iload (pc := 83) dX12_leadsOn_83 4 rfl ?_
        obtain ⟨z10, E⟩ := gd_some E
        refine ea_iald (pc := 85) dX12_leadsOn_85 (hs.1 11 (by decide)).1 (hs.1 11 (by decide)).2.1 (ea_vpl (hs.1 11 (by decide)).2.2 z10) ?_
        refine ea_if_ne (pc := 86) (tgt := 98) dX12_leadsOn_86 rfl (fun c17 => ?_) (fun c17 => ?_)
        · have E := (if_neg c17).symm.trans E
          refine ea_aload_n (pc := 98) dX12_leadsOn_98 rfl 0 rfl ?_
          refine ea_iload (pc := 99) dX12_leadsOn_99 4 rfl ?_
          obtain ⟨z11, E⟩ := gd_some E
          refine ea_callV (pc := 101) (d' := d - 1) (As := [vI x4]) (st := []) dX12_leadsOn_101 kX12_leaves (sX12_leaves (d := d - 1) (by omega) hs z11) (by omega) rfl (Nat.le_of_ble_eq_true rfl) ew_2078 ew_2080 ew_97 (ci := 12) rfl (by decide) (hs.1 0 (by decide)).1 (hs.1 0 (by decide)).2.1 ?_
          have hs12 : ShM b0 (wX12_leaves b0 (x4 : Int32) h) := shX12_leaves hs
          obtain ⟨H13, eH13, E⟩ := let_some E
          refine ea_nm eH13 ?_
          have hsH13 : ShM b0 H13 := by rw [eH13]; exact hs12
          refine ea_iinc (pc := 104) (v := 1) (lv' := [(0, vR (some (b0 + 0))), (1, vI x1), (2, vI x2), (3, vI x3), (4, vI (x4 + (1 : Int32)))]) dX12_leadsOn_104 4 rfl rfl (Nat.le_of_ble_eq_true rfl) [1, 2, 3, 4, 0] rfl ?_
          refine ea_goto (pc := 107) (tgt := 15) dX12_leadsOn_107 rfl ?_
          exact ((ih 15 (x1 : Int32) (x2 : Int32) (x3 : Int32) ((x4 + (1 : Int32)) : Int32) H13 _ _ E hsH13).2.1 rfl)
        · have E := (if_pos c17).symm.trans E
          refine ea_aload_n (pc := 89) dX12_leadsOn_89 rfl 0 rfl ?_
          refine ea_iload (pc := 90) dX12_leadsOn_90 4 rfl ?_
          obtain ⟨z14, E⟩ := gd_some E
          refine ea_callV (pc := 92) (d' := d - 1) (As := [vI x4]) (st := []) dX12_leadsOn_92 kX12_coming (sX12_coming (d := d - 1) (by omega) hs z14) (by omega) rfl (Nat.le_of_ble_eq_true rfl) ew_2063 ew_2065 ew_94 (ci := 12) rfl (by decide) (hs.1 0 (by decide)).1 (hs.1 0 (by decide)).2.1 ?_
          have hs15 : ShM b0 (wX12_coming b0 (x4 : Int32) h) := shX12_coming hs
          obtain ⟨H16, eH16, E⟩ := let_some E
          refine ea_nm eH16 ?_
          have hsH16 : ShM b0 H16 := by rw [eH16]; exact hs15
          refine ea_goto (pc := 95) (tgt := 104) dX12_leadsOn_95 rfl ?_
          refine ea_iinc (pc := 104) (v := 1) (lv' := [(0, vR (some (b0 + 0))), (1, vI x1), (2, vI x2), (3, vI x3), (4, vI (x4 + (1 : Int32)))]) dX12_leadsOn_104 4 rfl rfl (Nat.le_of_ble_eq_true rfl) [1, 2, 3, 4, 0] rfl ?_
          refine ea_goto (pc := 107) (tgt := 15) dX12_leadsOn_107 rfl ?_
          exact ((ih 15 (x1 : Int32) (x2 : Int32) (x3 : Int32) ((x4 + (1 : Int32)) : Int32) H16 _ _ E hsH16).2.1 rfl)
      · have E := (if_neg c21).symm.trans E
        refine ea_aload_n (pc := 64) dX12_leadsOn_64 rfl 0 rfl ?_
        refine ea_sipush (pc := 65) dX12_leadsOn_65 (v := 1440) rfl ?_
        refine ea_iload_n (pc := 68) dX12_leadsOn_68 rfl 3 rfl ?_
        refine ea_imul (pc := 69) dX12_leadsOn_69 ?_
        obtain ⟨z18, E⟩ := gd_some E
        refine ea_callV (pc := 70) (d' := d - 1) (As := [vI ((1440 : Int32) * x3)]) (st := []) dX12_leadsOn_70 kX12_begins (sX12_begins (d := d - 1) (by omega) hs z18) (by omega) rfl (Nat.le_of_ble_eq_true rfl) ew_2059 ew_2061 ew_93 (ci := 12) rfl (by decide) (hs.1 0 (by decide)).1 (hs.1 0 (by decide)).2.1 ?_
        have hs19 : ShM b0 (wX12_begins b0 (((1440 : Int32) * x3) : Int32) h) := shX12_begins hs
        obtain ⟨H20, eH20, E⟩ := let_some E
        refine ea_nm eH20 ?_
        have hsH20 : ShM b0 H20 := by rw [eH20]; exact hs19
        refine ea_iinc (pc := 73) (v := 1) (lv' := [(0, vR (some (b0 + 0))), (1, vI x1), (2, vI x2), (3, vI (x3 + (1 : Int32))), (4, vI x4)]) dX12_leadsOn_73 3 rfl rfl (Nat.le_of_ble_eq_true rfl) [1, 2, 3, 0, 4] rfl ?_
        refine ea_goto (pc := 76) (tgt := 49) dX12_leadsOn_76 rfl ?_
        exact ((ih 49 (x1 : Int32) (x2 : Int32) ((x3 + (1 : Int32)) : Int32) (x4 : Int32) H20 _ _ E hsH20).2.2.1 rfl)
    intro el
    subst el
    have E := (if_neg (by decide)).symm.trans E
    have E := (if_neg (by decide)).symm.trans E
    have E := (if_neg (by decide)).symm.trans E
    have E := (if_pos rfl).symm.trans E
    refine ea_sipush (pc := 110) dX12_leadsOn_110 (v := 1440) rfl ?_
    refine ea_iload_n (pc := 113) dX12_leadsOn_113 rfl 2 rfl ?_
    refine ea_imul (pc := 114) dX12_leadsOn_114 ?_
    refine ea_iload_n (pc := 115) dX12_leadsOn_115 rfl 1 rfl ?_
    refine ea_icmp_gt (pc := 116) (tgt := 134) dX12_leadsOn_116 rfl (fun c25 => ?_) (fun c25 => ?_)
    · have E := (if_pos c25).symm.trans E
      exact ea_vretO (pc := 134) dX12_leadsOn_134 rfl E
    · have E := (if_neg c25).symm.trans E
      refine ea_aload_n (pc := 119) dX12_leadsOn_119 rfl 0 rfl ?_
      refine ea_sipush (pc := 120) dX12_leadsOn_120 (v := 1440) rfl ?_
      refine ea_iload_n (pc := 123) dX12_leadsOn_123 rfl 2 rfl ?_
      refine ea_imul (pc := 124) dX12_leadsOn_124 ?_
      obtain ⟨z22, E⟩ := gd_some E
      refine ea_callV (pc := 125) (d' := d - 1) (As := [vI ((1440 : Int32) * x3)]) (st := []) dX12_leadsOn_125 kX12_begins (sX12_begins (d := d - 1) (by omega) hs z22) (by omega) rfl (Nat.le_of_ble_eq_true rfl) ew_2059 ew_2061 ew_93 (ci := 12) rfl (by decide) (hs.1 0 (by decide)).1 (hs.1 0 (by decide)).2.1 ?_
      have hs23 : ShM b0 (wX12_begins b0 (((1440 : Int32) * x3) : Int32) h) := shX12_begins hs
      obtain ⟨H24, eH24, E⟩ := let_some E
      refine ea_nm eH24 ?_
      have hsH24 : ShM b0 H24 := by rw [eH24]; exact hs23
      refine ea_iinc (pc := 128) (v := 1) (lv' := [(0, vR (some (b0 + 0))), (2, vI x2), (3, vI (x3 + (1 : Int32)))]) dX12_leadsOn_128 2 rfl rfl (Nat.le_of_ble_eq_true rfl) [1, 2, 0] rfl ?_
      refine ea_goto (pc := 131) (tgt := 110) dX12_leadsOn_131 rfl ?_
      exact ((ih 110 0 (x2 : Int32) ((x3 + (1 : Int32)) : Int32) 0 H24 _ _ E hsH24).2.2.2 rfl)
noncomputable def qX12_leadsOn (b0 : Nat) (x1 : Int32) (x2 : Int32) (h : ea_H) : Option (Unit × ea_H) := gX12_leadsOn b0 1000000000 0 x1 x2 0 0 h
def okX12_leadsOn (b0 : Nat) (x1 : Int32) (x2 : Int32) (h : ea_H) : Prop := ∃ x, qX12_leadsOn b0 x1 x2 h = some x
noncomputable def wX12_leadsOn (b0 : Nat) (x1 : Int32) (x2 : Int32) (h : ea_H) : ea_H := ((qX12_leadsOn b0 x1 x2 h).getD ((), h)).2
theorem sX12_leadsOn {d : Nat} {b0 : Nat} {x1 : Int32} {x2 : Int32} {h : ea_H} (hd : 7 ≤ d) (hs : ShM b0 h) (K : okX12_leadsOn b0 x1 x2 h) : ea_Met mX12_leadsOn d [vR (some (b0 + 0)), vI x1, vI x2] h none (wX12_leadsOn b0 x1 x2 h) := by
  obtain ⟨⟨x, y⟩, K⟩ := K
  unfold wX12_leadsOn
  rw [K]
  unfold qX12_leadsOn at K
  exact ea_enter rfl (Nat.le_of_ble_eq_true rfl) ((tX12_leadsOn hd 1000000000 0 x1 x2 0 0 h x y K hs).1 rfl)
theorem zX12_leadsOn {b0 : Nat} : ∀ (f lbl : Nat) (x1 : Int32) (x2 : Int32) (x3 : Int32) (x4 : Int32) (h : ea_H) (r : Unit) (h' : ea_H), gX12_leadsOn b0 f lbl x1 x2 x3 x4 h = some (r, h') → ShM b0 h → ShM b0 h' := by
  intro f
  induction f with
  | zero => intro lbl x1 x2 x3 x4 h r h' E; cases E
  | succ f ih =>
    intro lbl x1 x2 x3 x4 h r h' E hs
    unfold gX12_leadsOn at E
    by_cases el0 : lbl = 0
    · have E := (if_pos el0).symm.trans E
      obtain ⟨z1, E⟩ := gd_some E
      obtain ⟨H3, eH3, E⟩ := let_some E
      have hsH3 : ShM b0 H3 := by rw [eH3]; exact (shX12_table hs)
      exact ih 15 (x1 : Int32) (x2 : Int32) (((x1 / (1440 : Int32)) + (1 : Int32)) : Int32) (0 : Int32) H3 _ _ E hsH3
    have E := (if_neg el0).symm.trans E
    by_cases el1 : lbl = 15
    · have E := (if_pos el1).symm.trans E
      by_cases c8 : (ea_i h (b0 + 0) 13) ≤ x4
      · have E := (if_pos c8).symm.trans E
        exact ih 110 0 (x2 : Int32) (x3 : Int32) 0 h _ _ E hs
      have E := (if_neg c8).symm.trans E
      obtain ⟨z4, E⟩ := gd_some E
      by_cases c7 : x2 < (ea_i h (b0 + 10) (Int32.toNatClampNeg x4))
      · have E := (if_pos c7).symm.trans E
        exact ih 110 0 (x2 : Int32) (x3 : Int32) 0 h _ _ E hs
      have E := (if_neg c7).symm.trans E
      obtain ⟨z5, E⟩ := gd_some E
      by_cases c6 : x1 < (ea_i h (b0 + 10) (Int32.toNatClampNeg x4))
      · have E := (if_pos c6).symm.trans E
        exact ih 49 (x1 : Int32) (x2 : Int32) (x3 : Int32) (x4 : Int32) h _ _ E hs
      have E := (if_neg c6).symm.trans E
      exact ih 15 (x1 : Int32) (x2 : Int32) (x3 : Int32) ((x4 + (1 : Int32)) : Int32) h _ _ E hs
    have E := (if_neg el1).symm.trans E
    by_cases el2 : lbl = 49
    · have E := (if_pos el2).symm.trans E
      obtain ⟨z9, E⟩ := gd_some E
      by_cases c21 : (ea_i h (b0 + 10) (Int32.toNatClampNeg x4)) < ((1440 : Int32) * x3)
      · have E := (if_pos c21).symm.trans E
        obtain ⟨z10, E⟩ := gd_some E
        by_cases c17 : (ea_i h (b0 + 11) (Int32.toNatClampNeg x4)) = (0 : Int32)
        · have E := (if_pos c17).symm.trans E
          obtain ⟨z14, E⟩ := gd_some E
          obtain ⟨H16, eH16, E⟩ := let_some E
          have hsH16 : ShM b0 H16 := by rw [eH16]; exact (shX12_coming hs)
          exact ih 15 (x1 : Int32) (x2 : Int32) (x3 : Int32) ((x4 + (1 : Int32)) : Int32) H16 _ _ E hsH16
        have E := (if_neg c17).symm.trans E
        obtain ⟨z11, E⟩ := gd_some E
        obtain ⟨H13, eH13, E⟩ := let_some E
        have hsH13 : ShM b0 H13 := by rw [eH13]; exact (shX12_leaves hs)
        exact ih 15 (x1 : Int32) (x2 : Int32) (x3 : Int32) ((x4 + (1 : Int32)) : Int32) H13 _ _ E hsH13
      have E := (if_neg c21).symm.trans E
      obtain ⟨z18, E⟩ := gd_some E
      obtain ⟨H20, eH20, E⟩ := let_some E
      have hsH20 : ShM b0 H20 := by rw [eH20]; exact (shX12_begins hs)
      exact ih 49 (x1 : Int32) (x2 : Int32) ((x3 + (1 : Int32)) : Int32) (x4 : Int32) H20 _ _ E hsH20
    have E := (if_neg el2).symm.trans E
    by_cases el3 : lbl = 110
    · have E := (if_pos el3).symm.trans E
      by_cases c25 : x2 < ((1440 : Int32) * x3)
      · have E := (if_pos c25).symm.trans E
        exact ea_shO E hs
      have E := (if_neg c25).symm.trans E
      obtain ⟨z22, E⟩ := gd_some E
      obtain ⟨H24, eH24, E⟩ := let_some E
      have hsH24 : ShM b0 H24 := by rw [eH24]; exact (shX12_begins hs)
      exact ih 110 0 (x2 : Int32) ((x3 + (1 : Int32)) : Int32) 0 H24 _ _ E hsH24
    have E := (if_neg el3).symm.trans E
    cases E
theorem shX12_leadsOn {b0 : Nat} {x1 : Int32} {x2 : Int32} {h : ea_H} (hs : ShM b0 h) : ShM b0 (wX12_leadsOn b0 x1 x2 h) := by
  unfold wX12_leadsOn
  cases K : qX12_leadsOn b0 x1 x2 h with
  | none => exact hs
  | some x => obtain ⟨x, y⟩ := x; unfold qX12_leadsOn at K; exact zX12_leadsOn _ _ _ _ _ _ _ _ _ K hs
noncomputable def vX12_minutes (b0 : Nat) (x1 : Int32) (h : ea_H) : Int32 := (if (vX12_isIn (x1 : Int32) (1 : Int32) (3000 : Int32) h) = (0 : Int32) then ((-1) : Int32) else (if (ea_i h (b0 + 0) 0) ≤ ((10079 : Int32) - x1) then (ea_i (ea_wi (wX12_leadsOn b0 ((ea_i h (b0 + 0) 0) : Int32) (((ea_i h (b0 + 0) 0) + x1) : Int32) h) (b0 + 0) 0 ((ea_i (wX12_leadsOn b0 ((ea_i h (b0 + 0) 0) : Int32) (((ea_i h (b0 + 0) 0) + x1) : Int32) h) (b0 + 0) 0) + x1)) (b0 + 0) 0) else ((-1) : Int32)))
noncomputable def wX12_minutes (b0 : Nat) (x1 : Int32) (h : ea_H) : ea_H := (if (vX12_isIn (x1 : Int32) (1 : Int32) (3000 : Int32) h) = (0 : Int32) then h else (if (ea_i h (b0 + 0) 0) ≤ ((10079 : Int32) - x1) then (ea_wi (wX12_leadsOn b0 ((ea_i h (b0 + 0) 0) : Int32) (((ea_i h (b0 + 0) 0) + x1) : Int32) h) (b0 + 0) 0 ((ea_i (wX12_leadsOn b0 ((ea_i h (b0 + 0) 0) : Int32) (((ea_i h (b0 + 0) 0) + x1) : Int32) h) (b0 + 0) 0) + x1)) else h))
def okX12_minutes (b0 : Nat) (x1 : Int32) (h : ea_H) : Prop := ((vX12_isIn (x1 : Int32) (1 : Int32) (3000 : Int32) h) = (0 : Int32) → True) ∧ (¬ (vX12_isIn (x1 : Int32) (1 : Int32) (3000 : Int32) h) = (0 : Int32) → ((ea_i h (b0 + 0) 0) ≤ ((10079 : Int32) - x1) → (okX12_leadsOn b0 ((ea_i h (b0 + 0) 0) : Int32) (((ea_i h (b0 + 0) 0) + x1) : Int32) h)) ∧ (¬ (ea_i h (b0 + 0) 0) ≤ ((10079 : Int32) - x1) → True))
theorem shX12_minutes {b0 : Nat} {x1 : Int32} {h : ea_H} (hs : ShM b0 h) : ShM b0 (wX12_minutes b0 x1 h) := (ShM_it hs (ShM_it (ShM_wi (shX12_leadsOn hs)) hs))
theorem sX12_minutes {d : Nat} {b0 : Nat} {x1 : Int32} {h : ea_H} (hd : 8 ≤ d) (hs : ShM b0 h) (K : okX12_minutes b0 x1 h) : ea_Met mX12_minutes d [vR (some (b0 + 0)), vI x1] h (some (vI (vX12_minutes b0 x1 h))) (wX12_minutes b0 x1 h) := by
  obtain ⟨X, EX⟩ : ∃ z, z = vX12_minutes b0 x1 h := ⟨_, rfl⟩
  rw [← EX]
  unfold vX12_minutes at EX
  obtain ⟨Y, EY⟩ : ∃ z, z = wX12_minutes b0 x1 h := ⟨_, rfl⟩
  rw [← EY]
  unfold wX12_minutes at EY
  unfold okX12_minutes at K
  refine ea_enter rfl (Nat.le_of_ble_eq_true rfl) ?_
  refine ea_iload_n (pc := 0) dX12_minutes_0 rfl 1 rfl ?_
  refine ea_iconst (pc := 1) dX12_minutes_1 (v := 1) rfl ?_
  refine ea_sipush (pc := 2) dX12_minutes_2 (v := 3000) rfl ?_
  refine ea_callS (pc := 5) (d' := d - 1) (As := [vI x1, vI 1, vI 3000]) (st := []) dX12_minutes_5 kX12_isIn (sX12_isIn (d := d - 1) (by omega)) (by omega) rfl (Nat.le_of_ble_eq_true rfl) ew_1712 ew_1713 ?_
  refine ea_if_eq (pc := 8) (tgt := 23) dX12_minutes_8 rfl (fun c6 => ?_) (fun c6 => ?_)
  · have EX := EX.trans (if_pos c6)
    have EY := EY.trans (if_pos c6)
    refine ea_iconst (pc := 23) dX12_minutes_23 (v := (-1)) rfl ?_
    exact ea_iretE (pc := 24) dX12_minutes_24 rfl rfl EX EY
  · have EX := EX.trans (if_neg c6)
    have EY := EY.trans (if_neg c6)
    have K := K.2 c6
    refine ea_aload_n (pc := 11) dX12_minutes_11 rfl 0 rfl ?_
    refine ea_getI (pc := 12) dX12_minutes_12 ec_12 (k := 0) (Nat.le_of_ble_eq_true rfl) rfl (Or.inl ew_1345) (hs.1 0 (by decide)).1 (hs.1 0 (by decide)).2.1 ?_
    refine ea_sipush (pc := 15) dX12_minutes_15 (v := 10079) rfl ?_
    refine ea_iload_n (pc := 18) dX12_minutes_18 rfl 1 rfl ?_
    refine ea_isub (pc := 19) dX12_minutes_19 ?_
    refine ea_icmp_le (pc := 20) (tgt := 25) dX12_minutes_20 rfl (fun c5 => ?_) (fun c5 => ?_)
    · have EX := EX.trans (if_pos c5)
      have EY := EY.trans (if_pos c5)
      have K := K.1 c5
      refine ea_aload_n (pc := 25) dX12_minutes_25 rfl 0 rfl ?_
      refine ea_aload_n (pc := 26) dX12_minutes_26 rfl 0 rfl ?_
      refine ea_getI (pc := 27) dX12_minutes_27 ec_12 (k := 0) (Nat.le_of_ble_eq_true rfl) rfl (Or.inl ew_1345) (hs.1 0 (by decide)).1 (hs.1 0 (by decide)).2.1 ?_
      refine ea_aload_n (pc := 30) dX12_minutes_30 rfl 0 rfl ?_
      refine ea_getI (pc := 31) dX12_minutes_31 ec_12 (k := 0) (Nat.le_of_ble_eq_true rfl) rfl (Or.inl ew_1345) (hs.1 0 (by decide)).1 (hs.1 0 (by decide)).2.1 ?_
      refine ea_iload_n (pc := 34) dX12_minutes_34 rfl 1 rfl ?_
      refine ea_iadd (pc := 35) dX12_minutes_35 ?_
      have z2 := K
      refine ea_callV (pc := 36) (d' := d - 1) (As := [vI (ea_i h (b0 + 0) 0), vI ((ea_i h (b0 + 0) 0) + x1)]) (st := []) dX12_minutes_36 kX12_leadsOn (sX12_leadsOn (d := d - 1) (by omega) hs z2) (by omega) rfl (Nat.le_of_ble_eq_true rfl) ew_2055 ew_2057 ew_92 (ci := 12) rfl (by decide) (hs.1 0 (by decide)).1 (hs.1 0 (by decide)).2.1 ?_
      have hs3 : ShM b0 (wX12_leadsOn b0 ((ea_i h (b0 + 0) 0) : Int32) (((ea_i h (b0 + 0) 0) + x1) : Int32) h) := shX12_leadsOn hs
      refine ea_aload_n (pc := 39) dX12_minutes_39 rfl 0 rfl ?_
      refine ea_dup (pc := 40) dX12_minutes_40 rfl ?_
      refine ea_getI (pc := 41) dX12_minutes_41 ec_12 (k := 0) (Nat.le_of_ble_eq_true rfl) rfl (Or.inl ew_1345) (hs3.1 0 (by decide)).1 (hs3.1 0 (by decide)).2.1 ?_
      refine ea_iload_n (pc := 44) dX12_minutes_44 rfl 1 rfl ?_
      refine ea_iadd (pc := 45) dX12_minutes_45 ?_
      refine ea_putI (pc := 46) dX12_minutes_46 ec_12 (k := 0) (Nat.le_of_ble_eq_true rfl) rfl (Or.inl ⟨rfl, Or.inl ew_1345⟩) rfl rfl (hs3.1 0 (by decide)).1 (hs3.1 0 (by decide)).2.1 ?_
      have hs4 : ShM b0 (ea_wi (wX12_leadsOn b0 ((ea_i h (b0 + 0) 0) : Int32) (((ea_i h (b0 + 0) 0) + x1) : Int32) h) (b0 + 0) 0 ((ea_i (wX12_leadsOn b0 ((ea_i h (b0 + 0) 0) : Int32) (((ea_i h (b0 + 0) 0) + x1) : Int32) h) (b0 + 0) 0) + x1)) := ShM_wi hs3
      refine ea_aload_n (pc := 49) dX12_minutes_49 rfl 0 rfl ?_
      refine ea_getI (pc := 50) dX12_minutes_50 ec_12 (k := 0) (Nat.le_of_ble_eq_true rfl) rfl (Or.inl ew_1345) (hs4.1 0 (by decide)).1 (hs4.1 0 (by decide)).2.1 ?_
      exact ea_iretE (pc := 53) dX12_minutes_53 rfl rfl EX EY
    · have EX := EX.trans (if_neg c5)
      have EY := EY.trans (if_neg c5)
      refine ea_iconst (pc := 23) dX12_minutes_23 (v := (-1)) rfl ?_
      exact ea_iretE (pc := 24) dX12_minutes_24 rfl rfl EX EY
noncomputable def gX12_run_ (b0 : Nat) : Nat → Nat → Int32 → Int32 → Int32 → Int32 → Int32 → Int32 → Int32 → Int32 → Int32 → ea_H → Option (Int32 × ea_H)
  | 0, _, _, _, _, _, _, _, _, _, _, _ => none
  | f + 1, lbl, sx0, sx1, sx2, x1, x2, x3, x4, x5, x6, h =>
    if lbl = 0 then (if (vX12_isTrain b0 (x1 : Int32) h) = (0 : Int32) then (some (((-1) : Int32), h)) else (if (vX12_isDay (x2 : Int32) h) = (0 : Int32) then (some (((-1) : Int32), h)) else (if Int32.toInt x3 = 0 then (gX12_run_ b0 f 67 0 0 0 0 0 (x3 : Int32) ((vX12_run (x1 : Int32) (x2 : Int32) h) : Int32) (0 : Int32) (0 : Int32) h) else (if Int32.toInt x3 = 1 then (gX12_run_ b0 f 67 0 0 0 0 0 (x3 : Int32) ((vX12_run (x1 : Int32) (x2 : Int32) h) : Int32) (0 : Int32) (0 : Int32) h) else (if Int32.toInt x3 = 2 then (gd ((okX12_gone b0 ((vX12_run (x1 : Int32) (x2 : Int32) h) : Int32) h)) (ea_let (wX12_gone b0 ((vX12_run (x1 : Int32) (x2 : Int32) h) : Int32) h) fun H6 => (some ((vX12_gone b0 ((vX12_run (x1 : Int32) (x2 : Int32) h) : Int32) h), H6)))) else (if Int32.toInt x3 = 3 then (gd (vp_in (vX12_run (x1 : Int32) (x2 : Int32) h) 70) (some ((ea_i h (b0 + 60) (Int32.toNatClampNeg (vX12_run (x1 : Int32) (x2 : Int32) h))), h))) else (if Int32.toInt x3 = 4 then (gd (vp_in (vX12_run (x1 : Int32) (x2 : Int32) h) 70) (some ((ea_i h (b0 + 6) (Int32.toNatClampNeg (vX12_run (x1 : Int32) (x2 : Int32) h))), h))) else (some (((-1) : Int32), h))))))))) else
    if lbl = 67 then (if (ea_i h (b0 + 0) 63) ≤ x6 then (some (x5, h)) else (gd ((okX12_isAboard b0 (x6 : Int32) (x4 : Int32) h)) (if (vX12_isAboard b0 (x6 : Int32) (x4 : Int32) h) = (0 : Int32) then (gX12_run_ b0 f 67 0 0 0 0 0 (x3 : Int32) (x4 : Int32) ((x5 + (0 : Int32)) : Int32) ((x6 + (1 : Int32)) : Int32) h) else (gd (vp_in x6 120) (if x3 = (1 : Int32) then (gX12_run_ b0 f 106 (1 : Int32) ((ea_i h (b0 + 61) (Int32.toNatClampNeg x6)) : Int32) (x5 : Int32) 0 0 (x3 : Int32) (x4 : Int32) 0 (x6 : Int32) h) else (gX12_run_ b0 f 106 (0 : Int32) ((ea_i h (b0 + 61) (Int32.toNatClampNeg x6)) : Int32) (x5 : Int32) 0 0 (x3 : Int32) (x4 : Int32) 0 (x6 : Int32) h)))))) else
    if lbl = 106 then (if sx1 = sx0 then (gX12_run_ b0 f 67 0 0 0 0 0 (x3 : Int32) (x4 : Int32) ((sx2 + (1 : Int32)) : Int32) ((x6 + (1 : Int32)) : Int32) h) else (gX12_run_ b0 f 67 0 0 0 0 0 (x3 : Int32) (x4 : Int32) ((sx2 + (0 : Int32)) : Int32) ((x6 + (1 : Int32)) : Int32) h)) else none
theorem tX12_run_ {d : Nat} {b0 : Nat} {h0 : ea_H} (hd : 3 ≤ d) : ∀ (f lbl : Nat) (sx0 : Int32) (sx1 : Int32) (sx2 : Int32) (x1 : Int32) (x2 : Int32) (x3 : Int32) (x4 : Int32) (x5 : Int32) (x6 : Int32) (h : ea_H) (r : Int32) (h' : ea_H), gX12_run_ b0 f lbl sx0 sx1 sx2 x1 x2 x3 x4 x5 x6 h = some (r, h') → ShM b0 h → (lbl = 0 → ea_W mX12_run_ d h0 (some (vI r)) h' 0 [(0, vR (some (b0 + 0))), (1, vI x1), (2, vI x2), (3, vI x3)] [] h) ∧ (lbl = 67 → ea_W mX12_run_ d h0 (some (vI r)) h' 67 [(0, vR (some (b0 + 0))), (3, vI x3), (4, vI x4), (5, vI x5), (6, vI x6)] [] h) ∧ (lbl = 106 → ea_W mX12_run_ d h0 (some (vI r)) h' 106 [(0, vR (some (b0 + 0))), (3, vI x3), (4, vI x4), (6, vI x6)] [vI sx0, vI sx1, vI sx2] h) := by
  intro f
  induction f with
  | zero => intro lbl sx0 sx1 sx2 x1 x2 x3 x4 x5 x6 h r h' E; cases E
  | succ f ih =>
    intro lbl sx0 sx1 sx2 x1 x2 x3 x4 x5 x6 h r h' E hs
    unfold gX12_run_ at E
    refine ⟨?_, ?_⟩
    · intro el
      subst el
      have E := (if_pos rfl).symm.trans E
      refine ea_aload_n (pc := 0) dX12_run__0 rfl 0 rfl ?_
      refine ea_iload_n (pc := 1) dX12_run__1 rfl 1 rfl ?_
      refine ea_callV (pc := 2) (d' := d - 1) (As := [vI x1]) (st := []) dX12_run__2 kX12_isTrain (sX12_isTrain (d := d - 1) (by omega) hs) (by omega) rfl (Nat.le_of_ble_eq_true rfl) ew_1736 ew_1738 ew_50 (ci := 12) rfl (by decide) (hs.1 0 (by decide)).1 (hs.1 0 (by decide)).2.1 ?_
      refine ea_if_eq (pc := 5) (tgt := 15) dX12_run__5 rfl (fun c10 => ?_) (fun c10 => ?_)
      · have E := (if_pos c10).symm.trans E
        refine ea_iconst (pc := 15) dX12_run__15 (v := (-1)) rfl ?_
        exact ea_iretO (pc := 16) dX12_run__16 rfl rfl E
      · have E := (if_neg c10).symm.trans E
        refine ea_iload_n (pc := 8) dX12_run__8 rfl 2 rfl ?_
        refine ea_callS (pc := 9) (d' := d - 1) (As := [vI x2]) (st := []) dX12_run__9 kX12_isDay (sX12_isDay (d := d - 1) (by omega)) (by omega) rfl (Nat.le_of_ble_eq_true rfl) ew_1752 ew_1753 ?_
        refine ea_if_ne (pc := 12) (tgt := 17) dX12_run__12 rfl (fun c9 => ?_) (fun c9 => ?_)
        · have E := (if_neg c9).symm.trans E
          refine ea_iload_n (pc := 17) dX12_run__17 rfl 1 rfl ?_
          refine ea_iload_n (pc := 18) dX12_run__18 rfl 2 rfl ?_
          refine ea_callS (pc := 19) (d' := d - 1) (As := [vI x1, vI x2]) (st := []) dX12_run__19 kX12_run (sX12_run (d := d - 1) (by omega)) (by omega) rfl (Nat.le_of_ble_eq_true rfl) ew_1755 ew_1756 ?_
          refine ea_istore (pc := 22) (lv' := [(0, vR (some (b0 + 0))), (3, vI x3), (4, vI (vX12_run (x1 : Int32) (x2 : Int32) h))]) dX12_run__22 (Nat.le_of_ble_eq_true rfl) [1, 4, 0] rfl ?_
          refine ea_iconst (pc := 24) dX12_run__24 (v := 0) rfl ?_
          refine ea_istore (pc := 25) (lv' := [(0, vR (some (b0 + 0))), (3, vI x3), (4, vI (vX12_run (x1 : Int32) (x2 : Int32) h)), (5, vI 0)]) dX12_run__25 (Nat.le_of_ble_eq_true rfl) [1, 2, 3, 0] rfl ?_
          refine ea_iload_n (pc := 27) dX12_run__27 rfl 1 rfl ?_
          by_cases qc28_0 : Int32.toInt x3 = 0
          · have E := (if_pos qc28_0).symm.trans E
            refine ea_tswIn (pc := 28) (tgt := 64) dX12_run__28 (by rw [qc28_0]; decide) (by rw [qc28_0]; decide) (by rw [qc28_0]; rfl) rfl ?_
            refine ea_iconst (pc := 64) dX12_run__64 (v := 0) rfl ?_
            refine ea_istore (pc := 65) (lv' := [(0, vR (some (b0 + 0))), (3, vI x3), (4, vI (vX12_run (x1 : Int32) (x2 : Int32) h)), (5, vI 0), (6, vI 0)]) dX12_run__65 (Nat.le_of_ble_eq_true rfl) [1, 2, 3, 4, 0] rfl ?_
            exact ((ih 67 0 0 0 0 0 (x3 : Int32) ((vX12_run (x1 : Int32) (x2 : Int32) h) : Int32) (0 : Int32) (0 : Int32) h _ _ E hs).2.1 rfl)
          have E := (if_neg qc28_0).symm.trans E
          by_cases qc28_1 : Int32.toInt x3 = 1
          · have E := (if_pos qc28_1).symm.trans E
            refine ea_tswIn (pc := 28) (tgt := 64) dX12_run__28 (by rw [qc28_1]; decide) (by rw [qc28_1]; decide) (by rw [qc28_1]; rfl) rfl ?_
            refine ea_iconst (pc := 64) dX12_run__64 (v := 0) rfl ?_
            refine ea_istore (pc := 65) (lv' := [(0, vR (some (b0 + 0))), (3, vI x3), (4, vI (vX12_run (x1 : Int32) (x2 : Int32) h)), (5, vI 0), (6, vI 0)]) dX12_run__65 (Nat.le_of_ble_eq_true rfl) [1, 2, 3, 4, 0] rfl ?_
            exact ((ih 67 0 0 0 0 0 (x3 : Int32) ((vX12_run (x1 : Int32) (x2 : Int32) h) : Int32) (0 : Int32) (0 : Int32) h _ _ E hs).2.1 rfl)
          have E := (if_neg qc28_1).symm.trans E
          by_cases qc28_2 : Int32.toInt x3 = 2
          · have E := (if_pos qc28_2).symm.trans E
            refine ea_tswIn (pc := 28) (tgt := 126) dX12_run__28 (by rw [qc28_2]; decide) (by rw [qc28_2]; decide) (by rw [qc28_2]; rfl) rfl ?_
            refine ea_aload_n (pc := 126) dX12_run__126 rfl 0 rfl ?_
            refine ea_iload (pc := 127) dX12_run__127 2 rfl ?_
            obtain ⟨z4, E⟩ := gd_some E
            refine ea_callV (pc := 129) (d' := d - 1) (As := [vI (vX12_run (x1 : Int32) (x2 : Int32) h)]) (st := []) dX12_run__129 kX12_gone (sX12_gone (d := d - 1) (by omega) hs z4) (by omega) rfl (Nat.le_of_ble_eq_true rfl) ew_2094 ew_2096 ew_99 (ci := 12) rfl (by decide) (hs.1 0 (by decide)).1 (hs.1 0 (by decide)).2.1 ?_
            have hs5 : ShM b0 (wX12_gone b0 ((vX12_run (x1 : Int32) (x2 : Int32) h) : Int32) h) := shX12_gone hs
            obtain ⟨H6, eH6, E⟩ := let_some E
            refine ea_nm eH6 ?_
            have hsH6 : ShM b0 H6 := by rw [eH6]; exact hs5
            exact ea_iretO (pc := 132) dX12_run__132 rfl rfl E
          have E := (if_neg qc28_2).symm.trans E
          by_cases qc28_3 : Int32.toInt x3 = 3
          · have E := (if_pos qc28_3).symm.trans E
            refine ea_tswIn (pc := 28) (tgt := 133) dX12_run__28 (by rw [qc28_3]; decide) (by rw [qc28_3]; decide) (by rw [qc28_3]; rfl) rfl ?_
            refine ea_aload_n (pc := 133) dX12_run__133 rfl 0 rfl ?_
            refine ea_getR (pc := 134) dX12_run__134 ec_12 (k := 86) (Nat.le_of_ble_eq_true rfl) rfl (Or.inl ew_1431) (hs.1 0 (by decide)).1 (hs.1 0 (by decide)).2.1 (hs.2 0 86 rfl) ?_
            refine ea_iload (pc := 137) dX12_run__137 2 rfl ?_
            obtain ⟨z7, E⟩ := gd_some E
            refine ea_iald (pc := 139) dX12_run__139 (hs.1 60 (by decide)).1 (hs.1 60 (by decide)).2.1 (ea_vpl (hs.1 60 (by decide)).2.2 z7) ?_
            exact ea_iretO (pc := 140) dX12_run__140 rfl rfl E
          have E := (if_neg qc28_3).symm.trans E
          by_cases qc28_4 : Int32.toInt x3 = 4
          · have E := (if_pos qc28_4).symm.trans E
            refine ea_tswIn (pc := 28) (tgt := 141) dX12_run__28 (by rw [qc28_4]; decide) (by rw [qc28_4]; decide) (by rw [qc28_4]; rfl) rfl ?_
            refine ea_aload_n (pc := 141) dX12_run__141 rfl 0 rfl ?_
            refine ea_getR (pc := 142) dX12_run__142 ec_12 (k := 8) (Nat.le_of_ble_eq_true rfl) rfl (Or.inl ew_1353) (hs.1 0 (by decide)).1 (hs.1 0 (by decide)).2.1 (hs.2 0 8 rfl) ?_
            refine ea_iload (pc := 145) dX12_run__145 2 rfl ?_
            obtain ⟨z8, E⟩ := gd_some E
            refine ea_iald (pc := 147) dX12_run__147 (hs.1 6 (by decide)).1 (hs.1 6 (by decide)).2.1 (ea_vpl (hs.1 6 (by decide)).2.2 z8) ?_
            exact ea_iretO (pc := 148) dX12_run__148 rfl rfl E
          have E := (if_neg qc28_4).symm.trans E
          refine ea_tswOut (pc := 28) (tgt := 149) dX12_run__28 (ea_sw_0_4 qc28_0 qc28_1 qc28_2 qc28_3 qc28_4) rfl ?_
          refine ea_iconst (pc := 149) dX12_run__149 (v := (-1)) rfl ?_
          exact ea_iretO (pc := 150) dX12_run__150 rfl rfl E
        · have E := (if_pos c9).symm.trans E
          refine ea_iconst (pc := 15) dX12_run__15 (v := (-1)) rfl ?_
          exact ea_iretO (pc := 16) dX12_run__16 rfl rfl E
    refine ⟨?_, ?_⟩
    · intro el
      subst el
      have E := (if_neg (by decide)).symm.trans E
      have E := (if_pos rfl).symm.trans E
      refine ea_iload (pc := 67) dX12_run__67 4 rfl ?_
      refine ea_aload_n (pc := 69) dX12_run__69 rfl 0 rfl ?_
      refine ea_getI (pc := 70) dX12_run__70 ec_12 (k := 63) (Nat.le_of_ble_eq_true rfl) rfl (Or.inl ew_1408) (hs.1 0 (by decide)).1 (hs.1 0 (by decide)).2.1 ?_
      refine ea_icmp_ge (pc := 73) (tgt := 123) dX12_run__73 rfl (fun c15 => ?_) (fun c15 => ?_)
      · have E := (if_pos c15).symm.trans E
        refine ea_iload (pc := 123) dX12_run__123 3 rfl ?_
        exact ea_iretO (pc := 125) dX12_run__125 rfl rfl E
      · have E := (if_neg c15).symm.trans E
        refine ea_iload (pc := 76) dX12_run__76 3 rfl ?_
        refine ea_aload_n (pc := 78) dX12_run__78 rfl 0 rfl ?_
        refine ea_iload (pc := 79) dX12_run__79 4 rfl ?_
        refine ea_iload (pc := 81) dX12_run__81 2 rfl ?_
        obtain ⟨z11, E⟩ := gd_some E
        refine ea_callV (pc := 83) (d' := d - 1) (As := [vI x6, vI x4]) (st := [vI x5]) dX12_run__83 kX12_isAboard (sX12_isAboard (d := d - 1) (by omega) hs z11) (by omega) rfl (Nat.le_of_ble_eq_true rfl) ew_2067 ew_2069 ew_95 (ci := 12) rfl (by decide) (hs.1 0 (by decide)).1 (hs.1 0 (by decide)).2.1 ?_
        refine ea_if_eq (pc := 86) (tgt := 113) dX12_run__86 rfl (fun c14 => ?_) (fun c14 => ?_)
        · have E := (if_pos c14).symm.trans E
          refine ea_iconst (pc := 113) dX12_run__113 (v := 0) rfl ?_
          refine ea_iadd (pc := 114) dX12_run__114 ?_
          refine ea_istore (pc := 115) (lv' := [(0, vR (some (b0 + 0))), (3, vI x3), (4, vI x4), (5, vI (x5 + (0 : Int32))), (6, vI x6)]) dX12_run__115 (Nat.le_of_ble_eq_true rfl) [1, 2, 3, 0, 4] rfl ?_
          refine ea_iinc (pc := 117) (v := 1) (lv' := [(0, vR (some (b0 + 0))), (3, vI x3), (4, vI x4), (5, vI (x5 + (0 : Int32))), (6, vI (x6 + (1 : Int32)))]) dX12_run__117 4 rfl rfl (Nat.le_of_ble_eq_true rfl) [1, 2, 3, 4, 0] rfl ?_
          refine ea_goto (pc := 120) (tgt := 67) dX12_run__120 rfl ?_
          exact ((ih 67 0 0 0 0 0 (x3 : Int32) (x4 : Int32) ((x5 + (0 : Int32)) : Int32) ((x6 + (1 : Int32)) : Int32) h _ _ E hs).2.1 rfl)
        · have E := (if_neg c14).symm.trans E
          refine ea_aload_n (pc := 89) dX12_run__89 rfl 0 rfl ?_
          refine ea_getR (pc := 90) dX12_run__90 ec_12 (k := 87) (Nat.le_of_ble_eq_true rfl) rfl (Or.inl ew_1432) (hs.1 0 (by decide)).1 (hs.1 0 (by decide)).2.1 (hs.2 0 87 rfl) ?_
          refine ea_iload (pc := 93) dX12_run__93 4 rfl ?_
          obtain ⟨z12, E⟩ := gd_some E
          refine ea_zald (pc := 95) dX12_run__95 (hs.1 61 (by decide)).1 (hs.1 61 (by decide)).2.1 (ea_vpl (hs.1 61 (by decide)).2.2 z12) ?_
          refine ea_iload_n (pc := 96) dX12_run__96 rfl 1 rfl ?_
          refine ea_iconst (pc := 97) dX12_run__97 (v := 1) rfl ?_
          refine ea_icmp_ne (pc := 98) (tgt := 105) dX12_run__98 rfl (fun c13 => ?_) (fun c13 => ?_)
          · have E := (if_neg c13).symm.trans E
            refine ea_iconst (pc := 105) dX12_run__105 (v := 0) rfl ?_
            exact (ea_fewer [0, 1, 2, 4] rfl ((ih 106 (0 : Int32) ((ea_i h (b0 + 61) (Int32.toNatClampNeg x6)) : Int32) (x5 : Int32) 0 0 (x3 : Int32) (x4 : Int32) 0 (x6 : Int32) h _ _ E hs).2.2 rfl))
          · have E := (if_pos c13).symm.trans E
            refine ea_iconst (pc := 101) dX12_run__101 (v := 1) rfl ?_
            refine ea_goto (pc := 102) (tgt := 106) dX12_run__102 rfl ?_
            exact (ea_fewer [0, 1, 2, 4] rfl ((ih 106 (1 : Int32) ((ea_i h (b0 + 61) (Int32.toNatClampNeg x6)) : Int32) (x5 : Int32) 0 0 (x3 : Int32) (x4 : Int32) 0 (x6 : Int32) h _ _ E hs).2.2 rfl))
    intro el
    subst el
    have E := (if_neg (by decide)).symm.trans E
    have E := (if_neg (by decide)).symm.trans E
    have E := (if_pos rfl).symm.trans E
    refine ea_icmp_ne (pc := 106) (tgt := 113) dX12_run__106 rfl (fun c16 => ?_) (fun c16 => ?_)
    · have E := (if_neg c16).symm.trans E
      refine ea_iconst (pc := 113) dX12_run__113 (v := 0) rfl ?_
      refine ea_iadd (pc := 114) dX12_run__114 ?_
      refine ea_istore (pc := 115) (lv' := [(0, vR (some (b0 + 0))), (3, vI x3), (4, vI x4), (5, vI (sx2 + (0 : Int32))), (6, vI x6)]) dX12_run__115 (Nat.le_of_ble_eq_true rfl) [1, 2, 3, 0, 4] rfl ?_
      refine ea_iinc (pc := 117) (v := 1) (lv' := [(0, vR (some (b0 + 0))), (3, vI x3), (4, vI x4), (5, vI (sx2 + (0 : Int32))), (6, vI (x6 + (1 : Int32)))]) dX12_run__117 4 rfl rfl (Nat.le_of_ble_eq_true rfl) [1, 2, 3, 4, 0] rfl ?_
      refine ea_goto (pc := 120) (tgt := 67) dX12_run__120 rfl ?_
      exact ((ih 67 0 0 0 0 0 (x3 : Int32) (x4 : Int32) ((sx2 + (0 : Int32)) : Int32) ((x6 + (1 : Int32)) : Int32) h _ _ E hs).2.1 rfl)
    · have E := (if_pos c16).symm.trans E
      refine ea_iconst (pc := 109) dX12_run__109 (v := 1) rfl ?_
      refine ea_goto (pc := 110) (tgt := 114) dX12_run__110 rfl ?_
      refine ea_iadd (pc := 114) dX12_run__114 ?_
      refine ea_istore (pc := 115) (lv' := [(0, vR (some (b0 + 0))), (3, vI x3), (4, vI x4), (5, vI (sx2 + (1 : Int32))), (6, vI x6)]) dX12_run__115 (Nat.le_of_ble_eq_true rfl) [1, 2, 3, 0, 4] rfl ?_
      refine ea_iinc (pc := 117) (v := 1) (lv' := [(0, vR (some (b0 + 0))), (3, vI x3), (4, vI x4), (5, vI (sx2 + (1 : Int32))), (6, vI (x6 + (1 : Int32)))]) dX12_run__117 4 rfl rfl (Nat.le_of_ble_eq_true rfl) [1, 2, 3, 4, 0] rfl ?_
      refine ea_goto (pc := 120) (tgt := 67) dX12_run__120 rfl ?_
      exact ((ih 67 0 0 0 0 0 (x3 : Int32) (x4 : Int32) ((sx2 + (1 : Int32)) : Int32) ((x6 + (1 : Int32)) : Int32) h _ _ E hs).2.1 rfl)
noncomputable def qX12_run_ (b0 : Nat) (x1 : Int32) (x2 : Int32) (x3 : Int32) (h : ea_H) : Option (Int32 × ea_H) := gX12_run_ b0 1000000000 0 0 0 0 x1 x2 x3 0 0 0 h
def okX12_run_ (b0 : Nat) (x1 : Int32) (x2 : Int32) (x3 : Int32) (h : ea_H) : Prop := ∃ x, qX12_run_ b0 x1 x2 x3 h = some x
noncomputable def vX12_run_ (b0 : Nat) (x1 : Int32) (x2 : Int32) (x3 : Int32) (h : ea_H) : Int32 := ((qX12_run_ b0 x1 x2 x3 h).getD (0, h)).1
noncomputable def wX12_run_ (b0 : Nat) (x1 : Int32) (x2 : Int32) (x3 : Int32) (h : ea_H) : ea_H := ((qX12_run_ b0 x1 x2 x3 h).getD (0, h)).2
theorem sX12_run_ {d : Nat} {b0 : Nat} {x1 : Int32} {x2 : Int32} {x3 : Int32} {h : ea_H} (hd : 3 ≤ d) (hs : ShM b0 h) (K : okX12_run_ b0 x1 x2 x3 h) : ea_Met mX12_run_ d [vR (some (b0 + 0)), vI x1, vI x2, vI x3] h (some (vI (vX12_run_ b0 x1 x2 x3 h))) (wX12_run_ b0 x1 x2 x3 h) := by
  obtain ⟨⟨x, y⟩, K⟩ := K
  unfold wX12_run_ vX12_run_
  rw [K]
  unfold qX12_run_ at K
  exact ea_enter rfl (Nat.le_of_ble_eq_true rfl) ((tX12_run_ hd 1000000000 0 0 0 0 x1 x2 x3 0 0 0 h x y K hs).1 rfl)
theorem zX12_run_ {b0 : Nat} : ∀ (f lbl : Nat) (sx0 : Int32) (sx1 : Int32) (sx2 : Int32) (x1 : Int32) (x2 : Int32) (x3 : Int32) (x4 : Int32) (x5 : Int32) (x6 : Int32) (h : ea_H) (r : Int32) (h' : ea_H), gX12_run_ b0 f lbl sx0 sx1 sx2 x1 x2 x3 x4 x5 x6 h = some (r, h') → ShM b0 h → ShM b0 h' := by
  intro f
  induction f with
  | zero => intro lbl sx0 sx1 sx2 x1 x2 x3 x4 x5 x6 h r h' E; cases E
  | succ f ih =>
    intro lbl sx0 sx1 sx2 x1 x2 x3 x4 x5 x6 h r h' E hs
    unfold gX12_run_ at E
    by_cases el0 : lbl = 0
    · have E := (if_pos el0).symm.trans E
      by_cases c10 : (vX12_isTrain b0 (x1 : Int32) h) = (0 : Int32)
      · have E := (if_pos c10).symm.trans E
        exact ea_shO E hs
      have E := (if_neg c10).symm.trans E
      by_cases c9 : (vX12_isDay (x2 : Int32) h) = (0 : Int32)
      · have E := (if_pos c9).symm.trans E
        exact ea_shO E hs
      have E := (if_neg c9).symm.trans E
      by_cases qc28_0 : Int32.toInt x3 = 0
      · have E := (if_pos qc28_0).symm.trans E
        exact ih 67 0 0 0 0 0 (x3 : Int32) ((vX12_run (x1 : Int32) (x2 : Int32) h) : Int32) (0 : Int32) (0 : Int32) h _ _ E hs
      have E := (if_neg qc28_0).symm.trans E
      by_cases qc28_1 : Int32.toInt x3 = 1
      · have E := (if_pos qc28_1).symm.trans E
        exact ih 67 0 0 0 0 0 (x3 : Int32) ((vX12_run (x1 : Int32) (x2 : Int32) h) : Int32) (0 : Int32) (0 : Int32) h _ _ E hs
      have E := (if_neg qc28_1).symm.trans E
      by_cases qc28_2 : Int32.toInt x3 = 2
      · have E := (if_pos qc28_2).symm.trans E
        obtain ⟨z4, E⟩ := gd_some E
        obtain ⟨H6, eH6, E⟩ := let_some E
        have hsH6 : ShM b0 H6 := by rw [eH6]; exact (shX12_gone hs)
        exact ea_shO E hsH6
      have E := (if_neg qc28_2).symm.trans E
      by_cases qc28_3 : Int32.toInt x3 = 3
      · have E := (if_pos qc28_3).symm.trans E
        obtain ⟨z7, E⟩ := gd_some E
        exact ea_shO E hs
      have E := (if_neg qc28_3).symm.trans E
      by_cases qc28_4 : Int32.toInt x3 = 4
      · have E := (if_pos qc28_4).symm.trans E
        obtain ⟨z8, E⟩ := gd_some E
        exact ea_shO E hs
      have E := (if_neg qc28_4).symm.trans E
      exact ea_shO E hs
    have E := (if_neg el0).symm.trans E
    by_cases el1 : lbl = 67
    · have E := (if_pos el1).symm.trans E
      by_cases c15 : (ea_i h (b0 + 0) 63) ≤ x6
      · have E := (if_pos c15).symm.trans E
        exact ea_shO E hs
      have E := (if_neg c15).symm.trans E
      obtain ⟨z11, E⟩ := gd_some E
      by_cases c14 : (vX12_isAboard b0 (x6 : Int32) (x4 : Int32) h) = (0 : Int32)
      · have E := (if_pos c14).symm.trans E
        exact ih 67 0 0 0 0 0 (x3 : Int32) (x4 : Int32) ((x5 + (0 : Int32)) : Int32) ((x6 + (1 : Int32)) : Int32) h _ _ E hs
      have E := (if_neg c14).symm.trans E
      obtain ⟨z12, E⟩ := gd_some E
      by_cases c13 : x3 = (1 : Int32)
      · have E := (if_pos c13).symm.trans E
        exact ih 106 (1 : Int32) ((ea_i h (b0 + 61) (Int32.toNatClampNeg x6)) : Int32) (x5 : Int32) 0 0 (x3 : Int32) (x4 : Int32) 0 (x6 : Int32) h _ _ E hs
      have E := (if_neg c13).symm.trans E
      exact ih 106 (0 : Int32) ((ea_i h (b0 + 61) (Int32.toNatClampNeg x6)) : Int32) (x5 : Int32) 0 0 (x3 : Int32) (x4 : Int32) 0 (x6 : Int32) h _ _ E hs
    have E := (if_neg el1).symm.trans E
    by_cases el2 : lbl = 106
    · have E := (if_pos el2).symm.trans E
      by_cases c16 : sx1 = sx0
      · have E := (if_pos c16).symm.trans E
        exact ih 67 0 0 0 0 0 (x3 : Int32) (x4 : Int32) ((sx2 + (1 : Int32)) : Int32) ((x6 + (1 : Int32)) : Int32) h _ _ E hs
      have E := (if_neg c16).symm.trans E
      exact ih 67 0 0 0 0 0 (x3 : Int32) (x4 : Int32) ((sx2 + (0 : Int32)) : Int32) ((x6 + (1 : Int32)) : Int32) h _ _ E hs
    have E := (if_neg el2).symm.trans E
    cases E
theorem shX12_run_ {b0 : Nat} {x1 : Int32} {x2 : Int32} {x3 : Int32} {h : ea_H} (hs : ShM b0 h) : ShM b0 (wX12_run_ b0 x1 x2 x3 h) := by
  unfold wX12_run_
  cases K : qX12_run_ b0 x1 x2 x3 h with
  | none => exact hs
  | some x => obtain ⟨x, y⟩ := x; unfold qX12_run_ at K; exact zX12_run_ _ _ _ _ _ _ _ _ _ _ _ _ _ _ K hs
noncomputable def gX12_sums (b0 : Nat) : Nat → Nat → Int32 → Int32 → ea_H → Option (Int32 × ea_H)
  | 0, _, _, _, _ => none
  | f + 1, lbl, x1, x2, h =>
    if lbl = 0 then (gd ((okX12_keeps b0 h)) (ea_let (wX12_keeps b0 h) fun H3 => (gd ((okX12_leadsOn b0 ((ea_i H3 (b0 + 0) 0) : Int32) (10079 : Int32) H3)) (ea_let (wX12_leadsOn b0 ((ea_i H3 (b0 + 0) 0) : Int32) (10079 : Int32) H3) fun H6 => (gX12_sums b0 f 19 (0 : Int32) (0 : Int32) H6))))) else
    if lbl = 19 then (if (ea_i h (b0 + 0) 63) ≤ x2 then (gd ((okX12_putsBack b0 h)) (ea_let (wX12_putsBack b0 h) fun H9 => (some (x1, H9)))) else (gd (vp_in x2 120) (if (ea_i h (b0 + 55) (Int32.toNatClampNeg x2)) = (2 : Int32) then (gd (vp_in x2 120) (gX12_sums b0 f 19 ((x1 + (ea_i h (b0 + 59) (Int32.toNatClampNeg x2))) : Int32) ((x2 + (1 : Int32)) : Int32) h)) else (gd (vp_in x2 120) (if (2 : Int32) ≤ (ea_i h (b0 + 55) (Int32.toNatClampNeg x2)) then (gX12_sums b0 f 19 ((x1 + (0 : Int32)) : Int32) ((x2 + (1 : Int32)) : Int32) h) else (gX12_sums b0 f 19 ((x1 + (10080 : Int32)) : Int32) ((x2 + (1 : Int32)) : Int32) h)))))) else none
theorem tX12_sums {d : Nat} {b0 : Nat} {h0 : ea_H} (hd : 8 ≤ d) : ∀ (f lbl : Nat) (x1 : Int32) (x2 : Int32) (h : ea_H) (r : Int32) (h' : ea_H), gX12_sums b0 f lbl x1 x2 h = some (r, h') → ShM b0 h → (lbl = 0 → ea_W mX12_sums d h0 (some (vI r)) h' 0 [(0, vR (some (b0 + 0)))] [] h) ∧ (lbl = 19 → ea_W mX12_sums d h0 (some (vI r)) h' 19 [(0, vR (some (b0 + 0))), (1, vI x1), (2, vI x2)] [] h) := by
  intro f
  induction f with
  | zero => intro lbl x1 x2 h r h' E; cases E
  | succ f ih =>
    intro lbl x1 x2 h r h' E hs
    unfold gX12_sums at E
    refine ⟨?_, ?_⟩
    · intro el
      subst el
      have E := (if_pos rfl).symm.trans E
      refine ea_aload_n (pc := 0) dX12_sums_0 rfl 0 rfl ?_
      obtain ⟨z1, E⟩ := gd_some E
      refine ea_callV (pc := 1) (d' := d - 1) (As := []) (st := []) dX12_sums_1 kX12_keeps (sX12_keeps (d := d - 1) (by omega) hs z1) (by omega) rfl (Nat.le_of_ble_eq_true rfl) ew_2179 ew_2181 ew_105 (ci := 12) rfl (by decide) (hs.1 0 (by decide)).1 (hs.1 0 (by decide)).2.1 ?_
      have hs2 : ShM b0 (wX12_keeps b0 h) := shX12_keeps hs
      obtain ⟨H3, eH3, E⟩ := let_some E
      refine ea_nm eH3 ?_
      have hsH3 : ShM b0 H3 := by rw [eH3]; exact hs2
      refine ea_aload_n (pc := 4) dX12_sums_4 rfl 0 rfl ?_
      refine ea_aload_n (pc := 5) dX12_sums_5 rfl 0 rfl ?_
      refine ea_getI (pc := 6) dX12_sums_6 ec_12 (k := 0) (Nat.le_of_ble_eq_true rfl) rfl (Or.inl ew_1345) (hsH3.1 0 (by decide)).1 (hsH3.1 0 (by decide)).2.1 ?_
      refine ea_sipush (pc := 9) dX12_sums_9 (v := 10079) rfl ?_
      obtain ⟨z4, E⟩ := gd_some E
      refine ea_callV (pc := 12) (d' := d - 1) (As := [vI (ea_i H3 (b0 + 0) 0), vI 10079]) (st := []) dX12_sums_12 kX12_leadsOn (sX12_leadsOn (d := d - 1) (by omega) hsH3 z4) (by omega) rfl (Nat.le_of_ble_eq_true rfl) ew_2055 ew_2057 ew_92 (ci := 12) rfl (by decide) (hsH3.1 0 (by decide)).1 (hsH3.1 0 (by decide)).2.1 ?_
      have hs5 : ShM b0 (wX12_leadsOn b0 ((ea_i H3 (b0 + 0) 0) : Int32) (10079 : Int32) H3) := shX12_leadsOn hsH3
      obtain ⟨H6, eH6, E⟩ := let_some E
      refine ea_nm eH6 ?_
      have hsH6 : ShM b0 H6 := by rw [eH6]; exact hs5
      refine ea_iconst (pc := 15) dX12_sums_15 (v := 0) rfl ?_
      refine ea_istore_n (pc := 16) (lv' := [(0, vR (some (b0 + 0))), (1, vI 0)]) dX12_sums_16 rfl (Nat.le_of_ble_eq_true rfl) [1, 0] rfl ?_
      refine ea_iconst (pc := 17) dX12_sums_17 (v := 0) rfl ?_
      refine ea_istore_n (pc := 18) (lv' := [(0, vR (some (b0 + 0))), (1, vI 0), (2, vI 0)]) dX12_sums_18 rfl (Nat.le_of_ble_eq_true rfl) [1, 2, 0] rfl ?_
      exact ((ih 19 (0 : Int32) (0 : Int32) H6 _ _ E hsH6).2 rfl)
    intro el
    subst el
    have E := (if_neg (by decide)).symm.trans E
    have E := (if_pos rfl).symm.trans E
    refine ea_iload_n (pc := 19) dX12_sums_19 rfl 2 rfl ?_
    refine ea_aload_n (pc := 20) dX12_sums_20 rfl 0 rfl ?_
    refine ea_getI (pc := 21) dX12_sums_21 ec_12 (k := 63) (Nat.le_of_ble_eq_true rfl) rfl (Or.inl ew_1408) (hs.1 0 (by decide)).1 (hs.1 0 (by decide)).2.1 ?_
    refine ea_icmp_ge (pc := 24) (tgt := 72) dX12_sums_24 rfl (fun c15 => ?_) (fun c15 => ?_)
    · have E := (if_pos c15).symm.trans E
      refine ea_aload_n (pc := 72) dX12_sums_72 rfl 0 rfl ?_
      obtain ⟨z7, E⟩ := gd_some E
      refine ea_callV (pc := 73) (d' := d - 1) (As := []) (st := []) dX12_sums_73 kX12_putsBack (sX12_putsBack (d := d - 1) (by omega) hs z7) (by omega) rfl (Nat.le_of_ble_eq_true rfl) ew_2183 ew_2185 ew_106 (ci := 12) rfl (by decide) (hs.1 0 (by decide)).1 (hs.1 0 (by decide)).2.1 ?_
      have hs8 : ShM b0 (wX12_putsBack b0 h) := shX12_putsBack hs
      obtain ⟨H9, eH9, E⟩ := let_some E
      refine ea_nm eH9 ?_
      have hsH9 : ShM b0 H9 := by rw [eH9]; exact hs8
      refine ea_iload_n (pc := 76) dX12_sums_76 rfl 1 rfl ?_
      exact ea_iretO (pc := 77) dX12_sums_77 rfl rfl E
    · have E := (if_neg c15).symm.trans E
      refine ea_iload_n (pc := 27) dX12_sums_27 rfl 1 rfl ?_
      refine ea_aload_n (pc := 28) dX12_sums_28 rfl 0 rfl ?_
      refine ea_getR (pc := 29) dX12_sums_29 ec_12 (k := 81) (Nat.le_of_ble_eq_true rfl) rfl (Or.inl ew_1426) (hs.1 0 (by decide)).1 (hs.1 0 (by decide)).2.1 (hs.2 0 81 rfl) ?_
      refine ea_iload_n (pc := 32) dX12_sums_32 rfl 2 rfl ?_
      obtain ⟨z10, E⟩ := gd_some E
      refine ea_iald (pc := 33) dX12_sums_33 (hs.1 55 (by decide)).1 (hs.1 55 (by decide)).2.1 (ea_vpl (hs.1 55 (by decide)).2.2 z10) ?_
      refine ea_iconst (pc := 34) dX12_sums_34 (v := 2) rfl ?_
      refine ea_icmp_ne (pc := 35) (tgt := 47) dX12_sums_35 rfl (fun c14 => ?_) (fun c14 => ?_)
      · have E := (if_neg c14).symm.trans E
        refine ea_aload_n (pc := 47) dX12_sums_47 rfl 0 rfl ?_
        refine ea_getR (pc := 48) dX12_sums_48 ec_12 (k := 81) (Nat.le_of_ble_eq_true rfl) rfl (Or.inl ew_1426) (hs.1 0 (by decide)).1 (hs.1 0 (by decide)).2.1 (hs.2 0 81 rfl) ?_
        refine ea_iload_n (pc := 51) dX12_sums_51 rfl 2 rfl ?_
        obtain ⟨z11, E⟩ := gd_some E
        refine ea_iald (pc := 52) dX12_sums_52 (hs.1 55 (by decide)).1 (hs.1 55 (by decide)).2.1 (ea_vpl (hs.1 55 (by decide)).2.2 z11) ?_
        refine ea_iconst (pc := 53) dX12_sums_53 (v := 2) rfl ?_
        refine ea_icmp_ge (pc := 54) (tgt := 63) dX12_sums_54 rfl (fun c12 => ?_) (fun c12 => ?_)
        · have E := (if_pos c12).symm.trans E
          refine ea_iconst (pc := 63) dX12_sums_63 (v := 0) rfl ?_
          refine ea_iadd (pc := 64) dX12_sums_64 ?_
          refine ea_istore_n (pc := 65) (lv' := [(0, vR (some (b0 + 0))), (1, vI (x1 + (0 : Int32))), (2, vI x2)]) dX12_sums_65 rfl (Nat.le_of_ble_eq_true rfl) [1, 0, 2] rfl ?_
          refine ea_iinc (pc := 66) (v := 1) (lv' := [(0, vR (some (b0 + 0))), (1, vI (x1 + (0 : Int32))), (2, vI (x2 + (1 : Int32)))]) dX12_sums_66 2 rfl rfl (Nat.le_of_ble_eq_true rfl) [1, 2, 0] rfl ?_
          refine ea_goto (pc := 69) (tgt := 19) dX12_sums_69 rfl ?_
          exact ((ih 19 ((x1 + (0 : Int32)) : Int32) ((x2 + (1 : Int32)) : Int32) h _ _ E hs).2 rfl)
        · have E := (if_neg c12).symm.trans E
          refine ea_sipush (pc := 57) dX12_sums_57 (v := 10080) rfl ?_
          refine ea_goto (pc := 60) (tgt := 64) dX12_sums_60 rfl ?_
          refine ea_iadd (pc := 64) dX12_sums_64 ?_
          refine ea_istore_n (pc := 65) (lv' := [(0, vR (some (b0 + 0))), (1, vI (x1 + (10080 : Int32))), (2, vI x2)]) dX12_sums_65 rfl (Nat.le_of_ble_eq_true rfl) [1, 0, 2] rfl ?_
          refine ea_iinc (pc := 66) (v := 1) (lv' := [(0, vR (some (b0 + 0))), (1, vI (x1 + (10080 : Int32))), (2, vI (x2 + (1 : Int32)))]) dX12_sums_66 2 rfl rfl (Nat.le_of_ble_eq_true rfl) [1, 2, 0] rfl ?_
          refine ea_goto (pc := 69) (tgt := 19) dX12_sums_69 rfl ?_
          exact ((ih 19 ((x1 + (10080 : Int32)) : Int32) ((x2 + (1 : Int32)) : Int32) h _ _ E hs).2 rfl)
      · have E := (if_pos c14).symm.trans E
        refine ea_aload_n (pc := 38) dX12_sums_38 rfl 0 rfl ?_
        refine ea_getR (pc := 39) dX12_sums_39 ec_12 (k := 85) (Nat.le_of_ble_eq_true rfl) rfl (Or.inl ew_1430) (hs.1 0 (by decide)).1 (hs.1 0 (by decide)).2.1 (hs.2 0 85 rfl) ?_
        refine ea_iload_n (pc := 42) dX12_sums_42 rfl 2 rfl ?_
        obtain ⟨z13, E⟩ := gd_some E
        refine ea_iald (pc := 43) dX12_sums_43 (hs.1 59 (by decide)).1 (hs.1 59 (by decide)).2.1 (ea_vpl (hs.1 59 (by decide)).2.2 z13) ?_
        refine ea_goto (pc := 44) (tgt := 64) dX12_sums_44 rfl ?_
        refine ea_iadd (pc := 64) dX12_sums_64 ?_
        refine ea_istore_n (pc := 65) (lv' := [(0, vR (some (b0 + 0))), (1, vI (x1 + (ea_i h (b0 + 59) (Int32.toNatClampNeg x2)))), (2, vI x2)]) dX12_sums_65 rfl (Nat.le_of_ble_eq_true rfl) [1, 0, 2] rfl ?_
        refine ea_iinc (pc := 66) (v := 1) (lv' := [(0, vR (some (b0 + 0))), (1, vI (x1 + (ea_i h (b0 + 59) (Int32.toNatClampNeg x2)))), (2, vI (x2 + (1 : Int32)))]) dX12_sums_66 2 rfl rfl (Nat.le_of_ble_eq_true rfl) [1, 2, 0] rfl ?_
        refine ea_goto (pc := 69) (tgt := 19) dX12_sums_69 rfl ?_
        exact ((ih 19 ((x1 + (ea_i h (b0 + 59) (Int32.toNatClampNeg x2))) : Int32) ((x2 + (1 : Int32)) : Int32) h _ _ E hs).2 rfl)
noncomputable def qX12_sums (b0 : Nat) (h : ea_H) : Option (Int32 × ea_H) := gX12_sums b0 1000000000 0 0 0 h
def okX12_sums (b0 : Nat) (h : ea_H) : Prop := ∃ x, qX12_sums b0 h = some x
noncomputable def vX12_sums (b0 : Nat) (h : ea_H) : Int32 := ((qX12_sums b0 h).getD (0, h)).1
noncomputable def wX12_sums (b0 : Nat) (h : ea_H) : ea_H := ((qX12_sums b0 h).getD (0, h)).2
theorem sX12_sums {d : Nat} {b0 : Nat} {h : ea_H} (hd : 8 ≤ d) (hs : ShM b0 h) (K : okX12_sums b0 h) : ea_Met mX12_sums d [vR (some (b0 + 0))] h (some (vI (vX12_sums b0 h))) (wX12_sums b0 h) := by
  obtain ⟨⟨x, y⟩, K⟩ := K
  unfold wX12_sums vX12_sums
  rw [K]
  unfold qX12_sums at K
  exact ea_enter rfl (Nat.le_of_ble_eq_true rfl) ((tX12_sums hd 1000000000 0 0 0 h x y K hs).1 rfl)
theorem zX12_sums {b0 : Nat} : ∀ (f lbl : Nat) (x1 : Int32) (x2 : Int32) (h : ea_H) (r : Int32) (h' : ea_H), gX12_sums b0 f lbl x1 x2 h = some (r, h') → ShM b0 h → ShM b0 h' := by
  intro f
  induction f with
  | zero => intro lbl x1 x2 h r h' E; cases E
  | succ f ih =>
    intro lbl x1 x2 h r h' E hs
    unfold gX12_sums at E
    by_cases el0 : lbl = 0
    · have E := (if_pos el0).symm.trans E
      obtain ⟨z1, E⟩ := gd_some E
      obtain ⟨H3, eH3, E⟩ := let_some E
      have hsH3 : ShM b0 H3 := by rw [eH3]; exact (shX12_keeps hs)
      obtain ⟨z4, E⟩ := gd_some E
      obtain ⟨H6, eH6, E⟩ := let_some E
      have hsH6 : ShM b0 H6 := by rw [eH6]; exact (shX12_leadsOn hsH3)
      exact ih 19 (0 : Int32) (0 : Int32) H6 _ _ E hsH6
    have E := (if_neg el0).symm.trans E
    by_cases el1 : lbl = 19
    · have E := (if_pos el1).symm.trans E
      by_cases c15 : (ea_i h (b0 + 0) 63) ≤ x2
      · have E := (if_pos c15).symm.trans E
        obtain ⟨z7, E⟩ := gd_some E
        obtain ⟨H9, eH9, E⟩ := let_some E
        have hsH9 : ShM b0 H9 := by rw [eH9]; exact (shX12_putsBack hs)
        exact ea_shO E hsH9
      have E := (if_neg c15).symm.trans E
      obtain ⟨z10, E⟩ := gd_some E
      by_cases c14 : (ea_i h (b0 + 55) (Int32.toNatClampNeg x2)) = (2 : Int32)
      · have E := (if_pos c14).symm.trans E
        obtain ⟨z13, E⟩ := gd_some E
        exact ih 19 ((x1 + (ea_i h (b0 + 59) (Int32.toNatClampNeg x2))) : Int32) ((x2 + (1 : Int32)) : Int32) h _ _ E hs
      have E := (if_neg c14).symm.trans E
      obtain ⟨z11, E⟩ := gd_some E
      by_cases c12 : (2 : Int32) ≤ (ea_i h (b0 + 55) (Int32.toNatClampNeg x2))
      · have E := (if_pos c12).symm.trans E
        exact ih 19 ((x1 + (0 : Int32)) : Int32) ((x2 + (1 : Int32)) : Int32) h _ _ E hs
      have E := (if_neg c12).symm.trans E
      exact ih 19 ((x1 + (10080 : Int32)) : Int32) ((x2 + (1 : Int32)) : Int32) h _ _ E hs
    have E := (if_neg el1).symm.trans E
    cases E
theorem shX12_sums {b0 : Nat} {h : ea_H} (hs : ShM b0 h) : ShM b0 (wX12_sums b0 h) := by
  unfold wX12_sums
  cases K : qX12_sums b0 h with
  | none => exact hs
  | some x => obtain ⟨x, y⟩ := x; unfold qX12_sums at K; exact zX12_sums _ _ _ _ _ _ _ K hs
noncomputable def vX12_whatIf (b0 : Nat) (x1 : Int32) (x2 : Int32) (x3 : Int32) (h : ea_H) : Int32 := (if x1 = ((-1) : Int32) then (vX12_sums b0 h) else (if (vX12_canBeLate b0 (x1 : Int32) (x2 : Int32) (x3 : Int32) h) = (0 : Int32) then ((-1) : Int32) else (vX12_sums b0 (ea_wi (ea_wi h (b0 + 6) (Int32.toNatClampNeg (vX12_run (x1 : Int32) (x2 : Int32) h)) x3) (b0 + 0) 12 0))))
noncomputable def wX12_whatIf (b0 : Nat) (x1 : Int32) (x2 : Int32) (x3 : Int32) (h : ea_H) : ea_H := (if x1 = ((-1) : Int32) then (wX12_sums b0 h) else (if (vX12_canBeLate b0 (x1 : Int32) (x2 : Int32) (x3 : Int32) h) = (0 : Int32) then h else (ea_wi (ea_wi (wX12_sums b0 (ea_wi (ea_wi h (b0 + 6) (Int32.toNatClampNeg (vX12_run (x1 : Int32) (x2 : Int32) h)) x3) (b0 + 0) 12 0)) (b0 + 6) (Int32.toNatClampNeg (vX12_run (x1 : Int32) (x2 : Int32) (wX12_sums b0 (ea_wi (ea_wi h (b0 + 6) (Int32.toNatClampNeg (vX12_run (x1 : Int32) (x2 : Int32) h)) x3) (b0 + 0) 12 0)))) (ea_i h (b0 + 6) (Int32.toNatClampNeg (vX12_run (x1 : Int32) (x2 : Int32) h)))) (b0 + 0) 12 0)))
def okX12_whatIf (b0 : Nat) (x1 : Int32) (x2 : Int32) (x3 : Int32) (h : ea_H) : Prop := (x1 = ((-1) : Int32) → (okX12_sums b0 h)) ∧ (¬ x1 = ((-1) : Int32) → (okX12_canBeLate b0 (x1 : Int32) (x2 : Int32) (x3 : Int32) h) ∧ (((vX12_canBeLate b0 (x1 : Int32) (x2 : Int32) (x3 : Int32) h) = (0 : Int32) → True) ∧ (¬ (vX12_canBeLate b0 (x1 : Int32) (x2 : Int32) (x3 : Int32) h) = (0 : Int32) → vp_in (vX12_run (x1 : Int32) (x2 : Int32) h) 70 ∧ (vp_in (vX12_run (x1 : Int32) (x2 : Int32) h) 70 ∧ ((okX12_sums b0 (ea_wi (ea_wi h (b0 + 6) (Int32.toNatClampNeg (vX12_run (x1 : Int32) (x2 : Int32) h)) x3) (b0 + 0) 12 0)) ∧ (vp_in (vX12_run (x1 : Int32) (x2 : Int32) (wX12_sums b0 (ea_wi (ea_wi h (b0 + 6) (Int32.toNatClampNeg (vX12_run (x1 : Int32) (x2 : Int32) h)) x3) (b0 + 0) 12 0))) 70))))))
theorem shX12_whatIf {b0 : Nat} {x1 : Int32} {x2 : Int32} {x3 : Int32} {h : ea_H} (hs : ShM b0 h) : ShM b0 (wX12_whatIf b0 x1 x2 x3 h) := (ShM_it (shX12_sums hs) (ShM_it hs (ShM_wi (ShM_wi (shX12_sums (ShM_wi (ShM_wi hs)))))))
theorem sX12_whatIf {d : Nat} {b0 : Nat} {x1 : Int32} {x2 : Int32} {x3 : Int32} {h : ea_H} (hd : 9 ≤ d) (hs : ShM b0 h) (K : okX12_whatIf b0 x1 x2 x3 h) : ea_Met mX12_whatIf d [vR (some (b0 + 0)), vI x1, vI x2, vI x3] h (some (vI (vX12_whatIf b0 x1 x2 x3 h))) (wX12_whatIf b0 x1 x2 x3 h) := by
  obtain ⟨X, EX⟩ : ∃ z, z = vX12_whatIf b0 x1 x2 x3 h := ⟨_, rfl⟩
  rw [← EX]
  unfold vX12_whatIf at EX
  obtain ⟨Y, EY⟩ : ∃ z, z = wX12_whatIf b0 x1 x2 x3 h := ⟨_, rfl⟩
  rw [← EY]
  unfold wX12_whatIf at EY
  unfold okX12_whatIf at K
  refine ea_enter rfl (Nat.le_of_ble_eq_true rfl) ?_
  refine ea_iload_n (pc := 0) dX12_whatIf_0 rfl 1 rfl ?_
  refine ea_iconst (pc := 1) dX12_whatIf_1 (v := (-1)) rfl ?_
  refine ea_icmp_ne (pc := 2) (tgt := 10) dX12_whatIf_2 rfl (fun c17 => ?_) (fun c17 => ?_)
  · have EX := EX.trans (if_neg c17)
    have EY := EY.trans (if_neg c17)
    have K := K.2 c17
    refine ea_aload_n (pc := 10) dX12_whatIf_10 rfl 0 rfl ?_
    refine ea_iload_n (pc := 11) dX12_whatIf_11 rfl 1 rfl ?_
    refine ea_iload_n (pc := 12) dX12_whatIf_12 rfl 2 rfl ?_
    refine ea_iload_n (pc := 13) dX12_whatIf_13 rfl 3 rfl ?_
    obtain ⟨z1, K⟩ := K
    refine ea_callV (pc := 14) (d' := d - 1) (As := [vI x1, vI x2, vI x3]) (st := []) dX12_whatIf_14 kX12_canBeLate (sX12_canBeLate (d := d - 1) (by omega) hs z1) (by omega) rfl (Nat.le_of_ble_eq_true rfl) ew_1748 ew_1750 ew_51 (ci := 12) rfl (by decide) (hs.1 0 (by decide)).1 (hs.1 0 (by decide)).2.1 ?_
    refine ea_if_ne (pc := 17) (tgt := 22) dX12_whatIf_17 rfl (fun c14 => ?_) (fun c14 => ?_)
    · have EX := EX.trans (if_neg c14)
      have EY := EY.trans (if_neg c14)
      have K := K.2 c14
      refine ea_aload_n (pc := 22) dX12_whatIf_22 rfl 0 rfl ?_
      refine ea_getR (pc := 23) dX12_whatIf_23 ec_12 (k := 8) (Nat.le_of_ble_eq_true rfl) rfl (Or.inl ew_1353) (hs.1 0 (by decide)).1 (hs.1 0 (by decide)).2.1 (hs.2 0 8 rfl) ?_
      refine ea_iload_n (pc := 26) dX12_whatIf_26 rfl 1 rfl ?_
      refine ea_iload_n (pc := 27) dX12_whatIf_27 rfl 2 rfl ?_
      refine ea_callS (pc := 28) (d' := d - 1) (As := [vI x1, vI x2]) (st := [vR (some (b0 + 6))]) dX12_whatIf_28 kX12_run (sX12_run (d := d - 1) (by omega)) (by omega) rfl (Nat.le_of_ble_eq_true rfl) ew_1755 ew_1756 ?_
      obtain ⟨z3, K⟩ := K
      refine ea_iald (pc := 31) dX12_whatIf_31 (hs.1 6 (by decide)).1 (hs.1 6 (by decide)).2.1 (ea_vpl (hs.1 6 (by decide)).2.2 z3) ?_
      refine ea_istore (pc := 32) (lv' := [(0, vR (some (b0 + 0))), (1, vI x1), (2, vI x2), (3, vI x3), (4, vI (ea_i h (b0 + 6) (Int32.toNatClampNeg (vX12_run (x1 : Int32) (x2 : Int32) h))))]) dX12_whatIf_32 (Nat.le_of_ble_eq_true rfl) [1, 2, 3, 4, 0] rfl ?_
      refine ea_aload_n (pc := 34) dX12_whatIf_34 rfl 0 rfl ?_
      refine ea_getR (pc := 35) dX12_whatIf_35 ec_12 (k := 8) (Nat.le_of_ble_eq_true rfl) rfl (Or.inl ew_1353) (hs.1 0 (by decide)).1 (hs.1 0 (by decide)).2.1 (hs.2 0 8 rfl) ?_
      refine ea_iload_n (pc := 38) dX12_whatIf_38 rfl 1 rfl ?_
      refine ea_iload_n (pc := 39) dX12_whatIf_39 rfl 2 rfl ?_
      refine ea_callS (pc := 40) (d' := d - 1) (As := [vI x1, vI x2]) (st := [vR (some (b0 + 6))]) dX12_whatIf_40 kX12_run (sX12_run (d := d - 1) (by omega)) (by omega) rfl (Nat.le_of_ble_eq_true rfl) ew_1755 ew_1756 ?_
      refine ea_iload_n (pc := 43) dX12_whatIf_43 rfl 3 rfl ?_
      obtain ⟨z5, K⟩ := K
      refine ea_iast (pc := 44) dX12_whatIf_44 (hs.1 6 (by decide)).1 (hs.1 6 (by decide)).2.1 (ea_vpl (hs.1 6 (by decide)).2.2 z5) ?_
      have hs6 : ShM b0 (ea_wi h (b0 + 6) (Int32.toNatClampNeg (vX12_run (x1 : Int32) (x2 : Int32) h)) x3) := ShM_wi hs
      refine ea_aload_n (pc := 45) dX12_whatIf_45 rfl 0 rfl ?_
      refine ea_iconst (pc := 46) dX12_whatIf_46 (v := 0) rfl ?_
      refine ea_putI (pc := 47) dX12_whatIf_47 ec_12 (k := 12) (Nat.le_of_ble_eq_true rfl) rfl (Or.inl ⟨rfl, Or.inl ew_1357⟩) (ea_bn (Or.inl rfl)) (ea_bf (Or.inl rfl)) (hs6.1 0 (by decide)).1 (hs6.1 0 (by decide)).2.1 ?_
      have hs7 : ShM b0 (ea_wi (ea_wi h (b0 + 6) (Int32.toNatClampNeg (vX12_run (x1 : Int32) (x2 : Int32) h)) x3) (b0 + 0) 12 0) := ShM_wi hs6
      refine ea_aload_n (pc := 50) dX12_whatIf_50 rfl 0 rfl ?_
      obtain ⟨z8, K⟩ := K
      refine ea_callV (pc := 51) (d' := d - 1) (As := []) (st := []) dX12_whatIf_51 kX12_sums (sX12_sums (d := d - 1) (by omega) hs7 z8) (by omega) rfl (Nat.le_of_ble_eq_true rfl) ew_2175 ew_2177 ew_104 (ci := 12) rfl (by decide) (hs7.1 0 (by decide)).1 (hs7.1 0 (by decide)).2.1 ?_
      have hs9 : ShM b0 (wX12_sums b0 (ea_wi (ea_wi h (b0 + 6) (Int32.toNatClampNeg (vX12_run (x1 : Int32) (x2 : Int32) h)) x3) (b0 + 0) 12 0)) := shX12_sums hs7
      refine ea_istore (pc := 54) (lv' := [(0, vR (some (b0 + 0))), (1, vI x1), (2, vI x2), (4, vI (ea_i h (b0 + 6) (Int32.toNatClampNeg (vX12_run (x1 : Int32) (x2 : Int32) h)))), (5, vI (vX12_sums b0 (ea_wi (ea_wi h (b0 + 6) (Int32.toNatClampNeg (vX12_run (x1 : Int32) (x2 : Int32) h)) x3) (b0 + 0) 12 0)))]) dX12_whatIf_54 (Nat.le_of_ble_eq_true rfl) [1, 2, 3, 5, 0] rfl ?_
      refine ea_aload_n (pc := 56) dX12_whatIf_56 rfl 0 rfl ?_
      refine ea_getR (pc := 57) dX12_whatIf_57 ec_12 (k := 8) (Nat.le_of_ble_eq_true rfl) rfl (Or.inl ew_1353) (hs9.1 0 (by decide)).1 (hs9.1 0 (by decide)).2.1 (hs9.2 0 8 rfl) ?_
      refine ea_iload_n (pc := 60) dX12_whatIf_60 rfl 1 rfl ?_
      refine ea_iload_n (pc := 61) dX12_whatIf_61 rfl 2 rfl ?_
      refine ea_callS (pc := 62) (d' := d - 1) (As := [vI x1, vI x2]) (st := [vR (some (b0 + 6))]) dX12_whatIf_62 kX12_run (sX12_run (d := d - 1) (by omega)) (by omega) rfl (Nat.le_of_ble_eq_true rfl) ew_1755 ew_1756 ?_
      refine ea_iload (pc := 65) dX12_whatIf_65 3 rfl ?_
      have z11 := K
      refine ea_iast (pc := 67) dX12_whatIf_67 (hs9.1 6 (by decide)).1 (hs9.1 6 (by decide)).2.1 (ea_vpl (hs9.1 6 (by decide)).2.2 z11) ?_
      have hs12 : ShM b0 (ea_wi (wX12_sums b0 (ea_wi (ea_wi h (b0 + 6) (Int32.toNatClampNeg (vX12_run (x1 : Int32) (x2 : Int32) h)) x3) (b0 + 0) 12 0)) (b0 + 6) (Int32.toNatClampNeg (vX12_run (x1 : Int32) (x2 : Int32) (wX12_sums b0 (ea_wi (ea_wi h (b0 + 6) (Int32.toNatClampNeg (vX12_run (x1 : Int32) (x2 : Int32) h)) x3) (b0 + 0) 12 0)))) (ea_i h (b0 + 6) (Int32.toNatClampNeg (vX12_run (x1 : Int32) (x2 : Int32) h)))) := ShM_wi hs9
      refine ea_aload_n (pc := 68) dX12_whatIf_68 rfl 0 rfl ?_
      refine ea_iconst (pc := 69) dX12_whatIf_69 (v := 0) rfl ?_
      refine ea_putI (pc := 70) dX12_whatIf_70 ec_12 (k := 12) (Nat.le_of_ble_eq_true rfl) rfl (Or.inl ⟨rfl, Or.inl ew_1357⟩) (ea_bn (Or.inl rfl)) (ea_bf (Or.inl rfl)) (hs12.1 0 (by decide)).1 (hs12.1 0 (by decide)).2.1 ?_
      have hs13 : ShM b0 (ea_wi (ea_wi (wX12_sums b0 (ea_wi (ea_wi h (b0 + 6) (Int32.toNatClampNeg (vX12_run (x1 : Int32) (x2 : Int32) h)) x3) (b0 + 0) 12 0)) (b0 + 6) (Int32.toNatClampNeg (vX12_run (x1 : Int32) (x2 : Int32) (wX12_sums b0 (ea_wi (ea_wi h (b0 + 6) (Int32.toNatClampNeg (vX12_run (x1 : Int32) (x2 : Int32) h)) x3) (b0 + 0) 12 0)))) (ea_i h (b0 + 6) (Int32.toNatClampNeg (vX12_run (x1 : Int32) (x2 : Int32) h)))) (b0 + 0) 12 0) := ShM_wi hs12
      refine ea_iload (pc := 73) dX12_whatIf_73 4 rfl ?_
      exact ea_iretE (pc := 75) dX12_whatIf_75 rfl rfl EX EY
    · have EX := EX.trans (if_pos c14)
      have EY := EY.trans (if_pos c14)
      refine ea_iconst (pc := 20) dX12_whatIf_20 (v := (-1)) rfl ?_
      exact ea_iretE (pc := 21) dX12_whatIf_21 rfl rfl EX EY
  · have EX := EX.trans (if_pos c17)
    have EY := EY.trans (if_pos c17)
    have K := K.1 c17
    refine ea_aload_n (pc := 5) dX12_whatIf_5 rfl 0 rfl ?_
    have z15 := K
    refine ea_callV (pc := 6) (d' := d - 1) (As := []) (st := []) dX12_whatIf_6 kX12_sums (sX12_sums (d := d - 1) (by omega) hs z15) (by omega) rfl (Nat.le_of_ble_eq_true rfl) ew_2175 ew_2177 ew_104 (ci := 12) rfl (by decide) (hs.1 0 (by decide)).1 (hs.1 0 (by decide)).2.1 ?_
    have hs16 : ShM b0 (wX12_sums b0 h) := shX12_sums hs
    exact ea_iretE (pc := 9) dX12_whatIf_9 rfl rfl EX EY
noncomputable def gX12_seats (b0 : Nat) : Nat → Nat → Int32 → Int32 → Int32 → Int32 → Int32 → Int32 → Int32 → Int32 → Int32 → Int32 → Int32 → ea_H → Option (Int32 × ea_H)
  | 0, _, _, _, _, _, _, _, _, _, _, _, _, _ => none
  | f + 1, lbl, sx0, sx1, sx2, x1, x2, x3, x4, x5, x6, x7, x8, h =>
    if lbl = 0 then (if (ea_i h (b0 + 0) 2) = (0 : Int32) then (some (((-1) : Int32), h)) else (if (ea_i h (b0 + 0) 92) = (0 : Int32) then (some (((-1) : Int32), h)) else (if x1 = (0 : Int32) then (gX12_seats b0 f 44 0 0 0 (x1 : Int32) 0 0 0 0 0 0 0 h) else (if (ea_i h (b0 + 0) 92) ≤ (1 : Int32) then (gX12_seats b0 f 36 (10 : Int32) (10 : Int32) (x1 : Int32) (x1 : Int32) 0 0 0 0 0 0 0 h) else (gX12_seats b0 f 36 (11 : Int32) (10 : Int32) (x1 : Int32) (x1 : Int32) 0 0 0 0 0 0 0 h))))) else
    if lbl = 36 then (if (vX12_isIn (sx2 : Int32) (sx1 : Int32) (sx0 : Int32) h) = (0 : Int32) then (some (((-1) : Int32), h)) else (gX12_seats b0 f 44 0 0 0 (x1 : Int32) 0 0 0 0 0 0 0 h)) else
    if lbl = 44 then (gX12_seats b0 f 70 0 0 0 (x1 : Int32) ((ea_i h (b0 + 68) 0) : Int32) ((ea_i h (b0 + 68) 1) : Int32) ((-1) : Int32) (0 : Int32) (0 : Int32) (0 : Int32) 0 h) else
    if lbl = 70 then (if (ea_i h (b0 + 0) 2) ≤ x7 then (gd (vp_in 0 8) (ea_let (ea_wi h (b0 + 68) (Int32.toNatClampNeg 0) x2) fun H9 => (gd (vp_in 1 8) (ea_let (ea_wi H9 (b0 + 68) (Int32.toNatClampNeg 1) x3) fun H12 => (if x1 = (0 : Int32) then (some (x4, H12)) else (if x1 = (10 : Int32) then (some (x5, H12)) else (some (x6, H12)))))))) else (gX12_seats b0 f 82 0 0 0 (x1 : Int32) (x2 : Int32) (x3 : Int32) (x4 : Int32) (x5 : Int32) (x6 : Int32) (x7 : Int32) (0 : Int32) h)) else
    if lbl = 82 then (if (ea_i h (b0 + 0) 92) ≤ (1 : Int32) then (gX12_seats b0 f 100 (1 : Int32) (x8 : Int32) 0 (x1 : Int32) (x2 : Int32) (x3 : Int32) (x4 : Int32) (x5 : Int32) (x6 : Int32) (x7 : Int32) (x8 : Int32) h) else (gX12_seats b0 f 100 ((ea_i h (b0 + 0) 2) : Int32) (x8 : Int32) 0 (x1 : Int32) (x2 : Int32) (x3 : Int32) (x4 : Int32) (x5 : Int32) (x6 : Int32) (x7 : Int32) (x8 : Int32) h)) else
    if lbl = 100 then (if sx0 ≤ sx1 then (gX12_seats b0 f 70 0 0 0 (x1 : Int32) (x2 : Int32) (x3 : Int32) (x4 : Int32) (x5 : Int32) (x6 : Int32) ((x7 + (1 : Int32)) : Int32) 0 h) else (gd (vp_in 0 8) (ea_let (ea_wi h (b0 + 68) (Int32.toNatClampNeg 0) x7) fun H19 => (if (ea_i H19 (b0 + 0) 92) ≤ (1 : Int32) then (gX12_seats b0 f 127 0 0 0 (x1 : Int32) (x2 : Int32) (x3 : Int32) (x4 : Int32) (x5 : Int32) (x6 : Int32) (x7 : Int32) (x8 : Int32) H19) else (gd (vp_in 1 8) (ea_let (ea_wi H19 (b0 + 68) (Int32.toNatClampNeg 1) x8) fun H22 => (gX12_seats b0 f 127 0 0 0 (x1 : Int32) (x2 : Int32) (x3 : Int32) (x4 : Int32) (x5 : Int32) (x6 : Int32) (x7 : Int32) (x8 : Int32) H22))))))) else
    if lbl = 127 then (gd ((okX12_sums b0 h)) (ea_let (wX12_sums b0 h) fun H27 => (if x4 = ((-1) : Int32) then (gX12_seats b0 f 82 0 0 0 (x1 : Int32) (x2 : Int32) (x3 : Int32) ((vX12_sums b0 h) : Int32) (x7 : Int32) (x8 : Int32) (x7 : Int32) ((x8 + (1 : Int32)) : Int32) H27) else (if (vX12_sums b0 h) < x4 then (gX12_seats b0 f 82 0 0 0 (x1 : Int32) (x2 : Int32) (x3 : Int32) ((vX12_sums b0 h) : Int32) (x7 : Int32) (x8 : Int32) (x7 : Int32) ((x8 + (1 : Int32)) : Int32) H27) else (gX12_seats b0 f 82 0 0 0 (x1 : Int32) (x2 : Int32) (x3 : Int32) (x4 : Int32) (x5 : Int32) (x6 : Int32) (x7 : Int32) ((x8 + (1 : Int32)) : Int32) H27))))) else none
theorem tX12_seats {d : Nat} {b0 : Nat} {h0 : ea_H} (hd : 9 ≤ d) : ∀ (f lbl : Nat) (sx0 : Int32) (sx1 : Int32) (sx2 : Int32) (x1 : Int32) (x2 : Int32) (x3 : Int32) (x4 : Int32) (x5 : Int32) (x6 : Int32) (x7 : Int32) (x8 : Int32) (h : ea_H) (r : Int32) (h' : ea_H), gX12_seats b0 f lbl sx0 sx1 sx2 x1 x2 x3 x4 x5 x6 x7 x8 h = some (r, h') → ShM b0 h → (lbl = 0 → ea_W mX12_seats d h0 (some (vI r)) h' 0 [(0, vR (some (b0 + 0))), (1, vI x1)] [] h) ∧ (lbl = 36 → ea_W mX12_seats d h0 (some (vI r)) h' 36 [(0, vR (some (b0 + 0))), (1, vI x1)] [vI sx0, vI sx1, vI sx2] h) ∧ (lbl = 44 → ea_W mX12_seats d h0 (some (vI r)) h' 44 [(0, vR (some (b0 + 0))), (1, vI x1)] [] h) ∧ (lbl = 70 → ea_W mX12_seats d h0 (some (vI r)) h' 70 [(0, vR (some (b0 + 0))), (1, vI x1), (2, vI x2), (3, vI x3), (4, vI x4), (5, vI x5), (6, vI x6), (7, vI x7)] [] h) ∧ (lbl = 82 → ea_W mX12_seats d h0 (some (vI r)) h' 82 [(0, vR (some (b0 + 0))), (1, vI x1), (2, vI x2), (3, vI x3), (4, vI x4), (5, vI x5), (6, vI x6), (7, vI x7), (8, vI x8)] [] h) ∧ (lbl = 100 → ea_W mX12_seats d h0 (some (vI r)) h' 100 [(0, vR (some (b0 + 0))), (1, vI x1), (2, vI x2), (3, vI x3), (4, vI x4), (5, vI x5), (6, vI x6), (7, vI x7), (8, vI x8)] [vI sx0, vI sx1] h) ∧ (lbl = 127 → ea_W mX12_seats d h0 (some (vI r)) h' 127 [(0, vR (some (b0 + 0))), (1, vI x1), (2, vI x2), (3, vI x3), (4, vI x4), (5, vI x5), (6, vI x6), (7, vI x7), (8, vI x8)] [] h) := by
  intro f
  induction f with
  | zero => intro lbl sx0 sx1 sx2 x1 x2 x3 x4 x5 x6 x7 x8 h r h' E; cases E
  | succ f ih =>
    intro lbl sx0 sx1 sx2 x1 x2 x3 x4 x5 x6 x7 x8 h r h' E hs
    unfold gX12_seats at E
    refine ⟨?_, ?_⟩
    · intro el
      subst el
      have E := (if_pos rfl).symm.trans E
      refine ea_aload_n (pc := 0) dX12_seats_0 rfl 0 rfl ?_
      refine ea_getI (pc := 1) dX12_seats_1 ec_12 (k := 2) (Nat.le_of_ble_eq_true rfl) rfl (Or.inl ew_1347) (hs.1 0 (by decide)).1 (hs.1 0 (by decide)).2.1 ?_
      refine ea_if_eq (pc := 4) (tgt := 42) dX12_seats_4 rfl (fun c4 => ?_) (fun c4 => ?_)
      · have E := (if_pos c4).symm.trans E
        refine ea_iconst (pc := 42) dX12_seats_42 (v := (-1)) rfl ?_
        exact ea_iretO (pc := 43) dX12_seats_43 rfl rfl E
      · have E := (if_neg c4).symm.trans E
        refine ea_aload_n (pc := 7) dX12_seats_7 rfl 0 rfl ?_
        refine ea_getI (pc := 8) dX12_seats_8 ec_12 (k := 92) (Nat.le_of_ble_eq_true rfl) rfl (Or.inl ew_1437) (hs.1 0 (by decide)).1 (hs.1 0 (by decide)).2.1 ?_
        refine ea_if_eq (pc := 11) (tgt := 42) dX12_seats_11 rfl (fun c3 => ?_) (fun c3 => ?_)
        · have E := (if_pos c3).symm.trans E
          refine ea_iconst (pc := 42) dX12_seats_42 (v := (-1)) rfl ?_
          exact ea_iretO (pc := 43) dX12_seats_43 rfl rfl E
        · have E := (if_neg c3).symm.trans E
          refine ea_iload_n (pc := 14) dX12_seats_14 rfl 1 rfl ?_
          refine ea_if_eq (pc := 15) (tgt := 44) dX12_seats_15 rfl (fun c2 => ?_) (fun c2 => ?_)
          · have E := (if_pos c2).symm.trans E
            exact ((ih 44 0 0 0 (x1 : Int32) 0 0 0 0 0 0 0 h _ _ E hs).2.2.1 rfl)
          · have E := (if_neg c2).symm.trans E
            refine ea_iload_n (pc := 18) dX12_seats_18 rfl 1 rfl ?_
            refine ea_bipush (pc := 19) dX12_seats_19 (v := 10) rfl ?_
            refine ea_aload_n (pc := 21) dX12_seats_21 rfl 0 rfl ?_
            refine ea_getI (pc := 22) dX12_seats_22 ec_12 (k := 92) (Nat.le_of_ble_eq_true rfl) rfl (Or.inl ew_1437) (hs.1 0 (by decide)).1 (hs.1 0 (by decide)).2.1 ?_
            refine ea_iconst (pc := 25) dX12_seats_25 (v := 1) rfl ?_
            refine ea_icmp_le (pc := 26) (tgt := 34) dX12_seats_26 rfl (fun c1 => ?_) (fun c1 => ?_)
            · have E := (if_pos c1).symm.trans E
              refine ea_bipush (pc := 34) dX12_seats_34 (v := 10) rfl ?_
              exact ((ih 36 (10 : Int32) (10 : Int32) (x1 : Int32) (x1 : Int32) 0 0 0 0 0 0 0 h _ _ E hs).2.1 rfl)
            · have E := (if_neg c1).symm.trans E
              refine ea_bipush (pc := 29) dX12_seats_29 (v := 11) rfl ?_
              refine ea_goto (pc := 31) (tgt := 36) dX12_seats_31 rfl ?_
              exact ((ih 36 (11 : Int32) (10 : Int32) (x1 : Int32) (x1 : Int32) 0 0 0 0 0 0 0 h _ _ E hs).2.1 rfl)
    refine ⟨?_, ?_⟩
    · intro el
      subst el
      have E := (if_neg (by decide)).symm.trans E
      have E := (if_pos rfl).symm.trans E
      refine ea_callS (pc := 36) (d' := d - 1) (As := [vI sx2, vI sx1, vI sx0]) (st := []) dX12_seats_36 kX12_isIn (sX12_isIn (d := d - 1) (by omega)) (by omega) rfl (Nat.le_of_ble_eq_true rfl) ew_1712 ew_1713 ?_
      refine ea_if_ne (pc := 39) (tgt := 44) dX12_seats_39 rfl (fun c6 => ?_) (fun c6 => ?_)
      · have E := (if_neg c6).symm.trans E
        exact ((ih 44 0 0 0 (x1 : Int32) 0 0 0 0 0 0 0 h _ _ E hs).2.2.1 rfl)
      · have E := (if_pos c6).symm.trans E
        refine ea_iconst (pc := 42) dX12_seats_42 (v := (-1)) rfl ?_
        exact ea_iretO (pc := 43) dX12_seats_43 rfl rfl E
    refine ⟨?_, ?_⟩
    · intro el
      subst el
      have E := (if_neg (by decide)).symm.trans E
      have E := (if_neg (by decide)).symm.trans E
      have E := (if_pos rfl).symm.trans E
      refine ea_aload_n (pc := 44) dX12_seats_44 rfl 0 rfl ?_
      refine ea_getR (pc := 45) dX12_seats_45 ec_12 (k := 95) (Nat.le_of_ble_eq_true rfl) rfl (Or.inl ew_1440) (hs.1 0 (by decide)).1 (hs.1 0 (by decide)).2.1 (hs.2 0 95 rfl) ?_
      refine ea_iconst (pc := 48) dX12_seats_48 (v := 0) rfl ?_
      refine ea_iald (pc := 49) dX12_seats_49 (hs.1 68 (by decide)).1 (hs.1 68 (by decide)).2.1 (ea_vpl (n := 8) (hs.1 68 (by decide)).2.2 (by unfold vp_in; decide)) ?_
      refine ea_istore_n (pc := 50) (lv' := [(0, vR (some (b0 + 0))), (1, vI x1), (2, vI (ea_i h (b0 + 68) 0))]) dX12_seats_50 rfl (Nat.le_of_ble_eq_true rfl) [1, 2, 0] rfl ?_
      refine ea_aload_n (pc := 51) dX12_seats_51 rfl 0 rfl ?_
      refine ea_getR (pc := 52) dX12_seats_52 ec_12 (k := 95) (Nat.le_of_ble_eq_true rfl) rfl (Or.inl ew_1440) (hs.1 0 (by decide)).1 (hs.1 0 (by decide)).2.1 (hs.2 0 95 rfl) ?_
      refine ea_iconst (pc := 55) dX12_seats_55 (v := 1) rfl ?_
      refine ea_iald (pc := 56) dX12_seats_56 (hs.1 68 (by decide)).1 (hs.1 68 (by decide)).2.1 (ea_vpl (n := 8) (hs.1 68 (by decide)).2.2 (by unfold vp_in; decide)) ?_
      refine ea_istore_n (pc := 57) (lv' := [(0, vR (some (b0 + 0))), (1, vI x1), (2, vI (ea_i h (b0 + 68) 0)), (3, vI (ea_i h (b0 + 68) 1))]) dX12_seats_57 rfl (Nat.le_of_ble_eq_true rfl) [1, 2, 3, 0] rfl ?_
      refine ea_iconst (pc := 58) dX12_seats_58 (v := (-1)) rfl ?_
      refine ea_istore (pc := 59) (lv' := [(0, vR (some (b0 + 0))), (1, vI x1), (2, vI (ea_i h (b0 + 68) 0)), (3, vI (ea_i h (b0 + 68) 1)), (4, vI (-1))]) dX12_seats_59 (Nat.le_of_ble_eq_true rfl) [1, 2, 3, 4, 0] rfl ?_
      refine ea_iconst (pc := 61) dX12_seats_61 (v := 0) rfl ?_
      refine ea_istore (pc := 62) (lv' := [(0, vR (some (b0 + 0))), (1, vI x1), (2, vI (ea_i h (b0 + 68) 0)), (3, vI (ea_i h (b0 + 68) 1)), (4, vI (-1)), (5, vI 0)]) dX12_seats_62 (Nat.le_of_ble_eq_true rfl) [1, 2, 3, 4, 5, 0] rfl ?_
      refine ea_iconst (pc := 64) dX12_seats_64 (v := 0) rfl ?_
      refine ea_istore (pc := 65) (lv' := [(0, vR (some (b0 + 0))), (1, vI x1), (2, vI (ea_i h (b0 + 68) 0)), (3, vI (ea_i h (b0 + 68) 1)), (4, vI (-1)), (5, vI 0), (6, vI 0)]) dX12_seats_65 (Nat.le_of_ble_eq_true rfl) [1, 2, 3, 4, 5, 6, 0] rfl ?_
      refine ea_iconst (pc := 67) dX12_seats_67 (v := 0) rfl ?_
      refine ea_istore (pc := 68) (lv' := [(0, vR (some (b0 + 0))), (1, vI x1), (2, vI (ea_i h (b0 + 68) 0)), (3, vI (ea_i h (b0 + 68) 1)), (4, vI (-1)), (5, vI 0), (6, vI 0), (7, vI 0)]) dX12_seats_68 (Nat.le_of_ble_eq_true rfl) [1, 2, 3, 4, 5, 6, 7, 0] rfl ?_
      exact ((ih 70 0 0 0 (x1 : Int32) ((ea_i h (b0 + 68) 0) : Int32) ((ea_i h (b0 + 68) 1) : Int32) ((-1) : Int32) (0 : Int32) (0 : Int32) (0 : Int32) 0 h _ _ E hs).2.2.2.1 rfl)
    refine ⟨?_, ?_⟩
    · intro el
      subst el
      have E := (if_neg (by decide)).symm.trans E
      have E := (if_neg (by decide)).symm.trans E
      have E := (if_neg (by decide)).symm.trans E
      have E := (if_pos rfl).symm.trans E
      refine ea_iload (pc := 70) dX12_seats_70 7 rfl ?_
      refine ea_aload_n (pc := 72) dX12_seats_72 rfl 0 rfl ?_
      refine ea_getI (pc := 73) dX12_seats_73 ec_12 (k := 2) (Nat.le_of_ble_eq_true rfl) rfl (Or.inl ew_1347) (hs.1 0 (by decide)).1 (hs.1 0 (by decide)).2.1 ?_
      refine ea_icmp_ge (pc := 76) (tgt := 173) dX12_seats_76 rfl (fun c15 => ?_) (fun c15 => ?_)
      · have E := (if_pos c15).symm.trans E
        refine ea_aload_n (pc := 173) dX12_seats_173 rfl 0 rfl ?_
        refine ea_getR (pc := 174) dX12_seats_174 ec_12 (k := 95) (Nat.le_of_ble_eq_true rfl) rfl (Or.inl ew_1440) (hs.1 0 (by decide)).1 (hs.1 0 (by decide)).2.1 (hs.2 0 95 rfl) ?_
        refine ea_iconst (pc := 177) dX12_seats_177 (v := 0) rfl ?_
        refine ea_iload_n (pc := 178) dX12_seats_178 rfl 2 rfl ?_
        obtain ⟨z7, E⟩ := gd_some E
        refine ea_iast (pc := 179) dX12_seats_179 (hs.1 68 (by decide)).1 (hs.1 68 (by decide)).2.1 (ea_vpl (hs.1 68 (by decide)).2.2 z7) ?_
        have hs8 : ShM b0 (ea_wi h (b0 + 68) (Int32.toNatClampNeg 0) x2) := ShM_wi hs
        obtain ⟨H9, eH9, E⟩ := let_some E
        refine ea_nm eH9 ?_
        have hsH9 : ShM b0 H9 := by rw [eH9]; exact hs8
        refine ea_aload_n (pc := 180) dX12_seats_180 rfl 0 rfl ?_
        refine ea_getR (pc := 181) dX12_seats_181 ec_12 (k := 95) (Nat.le_of_ble_eq_true rfl) rfl (Or.inl ew_1440) (hsH9.1 0 (by decide)).1 (hsH9.1 0 (by decide)).2.1 (hsH9.2 0 95 rfl) ?_
        refine ea_iconst (pc := 184) dX12_seats_184 (v := 1) rfl ?_
        refine ea_iload_n (pc := 185) dX12_seats_185 rfl 3 rfl ?_
        obtain ⟨z10, E⟩ := gd_some E
        refine ea_iast (pc := 186) dX12_seats_186 (hsH9.1 68 (by decide)).1 (hsH9.1 68 (by decide)).2.1 (ea_vpl (hsH9.1 68 (by decide)).2.2 z10) ?_
        have hs11 : ShM b0 (ea_wi H9 (b0 + 68) (Int32.toNatClampNeg 1) x3) := ShM_wi hsH9
        obtain ⟨H12, eH12, E⟩ := let_some E
        refine ea_nm eH12 ?_
        have hsH12 : ShM b0 H12 := by rw [eH12]; exact hs11
        refine ea_iload_n (pc := 187) dX12_seats_187 rfl 1 rfl ?_
        refine ea_if_ne (pc := 188) (tgt := 196) dX12_seats_188 rfl (fun c14 => ?_) (fun c14 => ?_)
        · have E := (if_neg c14).symm.trans E
          refine ea_iload_n (pc := 196) dX12_seats_196 rfl 1 rfl ?_
          refine ea_bipush (pc := 197) dX12_seats_197 (v := 10) rfl ?_
          refine ea_icmp_ne (pc := 199) (tgt := 207) dX12_seats_199 rfl (fun c13 => ?_) (fun c13 => ?_)
          · have E := (if_neg c13).symm.trans E
            refine ea_iload (pc := 207) dX12_seats_207 6 rfl ?_
            exact ea_iretO (pc := 209) dX12_seats_209 rfl rfl E
          · have E := (if_pos c13).symm.trans E
            refine ea_iload (pc := 202) dX12_seats_202 5 rfl ?_
            refine ea_goto (pc := 204) (tgt := 209) dX12_seats_204 rfl ?_
            exact ea_iretO (pc := 209) dX12_seats_209 rfl rfl E
        · have E := (if_pos c14).symm.trans E
          refine ea_iload (pc := 191) dX12_seats_191 4 rfl ?_
          refine ea_goto (pc := 193) (tgt := 209) dX12_seats_193 rfl ?_
          exact ea_iretO (pc := 209) dX12_seats_209 rfl rfl E
      · have E := (if_neg c15).symm.trans E
        refine ea_iconst (pc := 79) dX12_seats_79 (v := 0) rfl ?_
        refine ea_istore (pc := 80) (lv' := [(0, vR (some (b0 + 0))), (1, vI x1), (2, vI x2), (3, vI x3), (4, vI x4), (5, vI x5), (6, vI x6), (7, vI x7), (8, vI 0)]) dX12_seats_80 (Nat.le_of_ble_eq_true rfl) [1, 2, 3, 4, 5, 6, 7, 8, 0] rfl ?_
        exact ((ih 82 0 0 0 (x1 : Int32) (x2 : Int32) (x3 : Int32) (x4 : Int32) (x5 : Int32) (x6 : Int32) (x7 : Int32) (0 : Int32) h _ _ E hs).2.2.2.2.1 rfl)
    refine ⟨?_, ?_⟩
    · intro el
      subst el
      have E := (if_neg (by decide)).symm.trans E
      have E := (if_neg (by decide)).symm.trans E
      have E := (if_neg (by decide)).symm.trans E
      have E := (if_neg (by decide)).symm.trans E
      have E := (if_pos rfl).symm.trans E
      refine ea_iload (pc := 82) dX12_seats_82 8 rfl ?_
      refine ea_aload_n (pc := 84) dX12_seats_84 rfl 0 rfl ?_
      refine ea_getI (pc := 85) dX12_seats_85 ec_12 (k := 92) (Nat.le_of_ble_eq_true rfl) rfl (Or.inl ew_1437) (hs.1 0 (by decide)).1 (hs.1 0 (by decide)).2.1 ?_
      refine ea_iconst (pc := 88) dX12_seats_88 (v := 1) rfl ?_
      refine ea_icmp_le (pc := 89) (tgt := 99) dX12_seats_89 rfl (fun c16 => ?_) (fun c16 => ?_)
      · have E := (if_pos c16).symm.trans E
        refine ea_iconst (pc := 99) dX12_seats_99 (v := 1) rfl ?_
        exact ((ih 100 (1 : Int32) (x8 : Int32) 0 (x1 : Int32) (x2 : Int32) (x3 : Int32) (x4 : Int32) (x5 : Int32) (x6 : Int32) (x7 : Int32) (x8 : Int32) h _ _ E hs).2.2.2.2.2.1 rfl)
      · have E := (if_neg c16).symm.trans E
        refine ea_aload_n (pc := 92) dX12_seats_92 rfl 0 rfl ?_
        refine ea_getI (pc := 93) dX12_seats_93 ec_12 (k := 2) (Nat.le_of_ble_eq_true rfl) rfl (Or.inl ew_1347) (hs.1 0 (by decide)).1 (hs.1 0 (by decide)).2.1 ?_
        refine ea_goto (pc := 96) (tgt := 100) dX12_seats_96 rfl ?_
        exact ((ih 100 ((ea_i h (b0 + 0) 2) : Int32) (x8 : Int32) 0 (x1 : Int32) (x2 : Int32) (x3 : Int32) (x4 : Int32) (x5 : Int32) (x6 : Int32) (x7 : Int32) (x8 : Int32) h _ _ E hs).2.2.2.2.2.1 rfl)
    refine ⟨?_, ?_⟩
    · intro el
      subst el
      have E := (if_neg (by decide)).symm.trans E
      have E := (if_neg (by decide)).symm.trans E
      have E := (if_neg (by decide)).symm.trans E
      have E := (if_neg (by decide)).symm.trans E
      have E := (if_neg (by decide)).symm.trans E
      have E := (if_pos rfl).symm.trans E
      refine ea_icmp_ge (pc := 100) (tgt := 167) dX12_seats_100 rfl (fun c24 => ?_) (fun c24 => ?_)
      · have E := (if_pos c24).symm.trans E
        refine ea_iinc (pc := 167) (v := 1) (lv' := [(0, vR (some (b0 + 0))), (1, vI x1), (2, vI x2), (3, vI x3), (4, vI x4), (5, vI x5), (6, vI x6), (7, vI (x7 + (1 : Int32)))]) dX12_seats_167 7 rfl rfl (Nat.le_of_ble_eq_true rfl) [1, 2, 3, 4, 5, 6, 7, 0] rfl ?_
        refine ea_goto (pc := 170) (tgt := 70) dX12_seats_170 rfl ?_
        exact ((ih 70 0 0 0 (x1 : Int32) (x2 : Int32) (x3 : Int32) (x4 : Int32) (x5 : Int32) (x6 : Int32) ((x7 + (1 : Int32)) : Int32) 0 h _ _ E hs).2.2.2.1 rfl)
      · have E := (if_neg c24).symm.trans E
        refine ea_aload_n (pc := 103) dX12_seats_103 rfl 0 rfl ?_
        refine ea_getR (pc := 104) dX12_seats_104 ec_12 (k := 95) (Nat.le_of_ble_eq_true rfl) rfl (Or.inl ew_1440) (hs.1 0 (by decide)).1 (hs.1 0 (by decide)).2.1 (hs.2 0 95 rfl) ?_
        refine ea_iconst (pc := 107) dX12_seats_107 (v := 0) rfl ?_
        refine ea_iload (pc := 108) dX12_seats_108 7 rfl ?_
        obtain ⟨z17, E⟩ := gd_some E
        refine ea_iast (pc := 110) dX12_seats_110 (hs.1 68 (by decide)).1 (hs.1 68 (by decide)).2.1 (ea_vpl (hs.1 68 (by decide)).2.2 z17) ?_
        have hs18 : ShM b0 (ea_wi h (b0 + 68) (Int32.toNatClampNeg 0) x7) := ShM_wi hs
        obtain ⟨H19, eH19, E⟩ := let_some E
        refine ea_nm eH19 ?_
        have hsH19 : ShM b0 H19 := by rw [eH19]; exact hs18
        refine ea_aload_n (pc := 111) dX12_seats_111 rfl 0 rfl ?_
        refine ea_getI (pc := 112) dX12_seats_112 ec_12 (k := 92) (Nat.le_of_ble_eq_true rfl) rfl (Or.inl ew_1437) (hsH19.1 0 (by decide)).1 (hsH19.1 0 (by decide)).2.1 ?_
        refine ea_iconst (pc := 115) dX12_seats_115 (v := 1) rfl ?_
        refine ea_icmp_le (pc := 116) (tgt := 127) dX12_seats_116 rfl (fun c23 => ?_) (fun c23 => ?_)
        · have E := (if_pos c23).symm.trans E
          exact ((ih 127 0 0 0 (x1 : Int32) (x2 : Int32) (x3 : Int32) (x4 : Int32) (x5 : Int32) (x6 : Int32) (x7 : Int32) (x8 : Int32) H19 _ _ E hsH19).2.2.2.2.2.2 rfl)
        · have E := (if_neg c23).symm.trans E
          refine ea_aload_n (pc := 119) dX12_seats_119 rfl 0 rfl ?_
          refine ea_getR (pc := 120) dX12_seats_120 ec_12 (k := 95) (Nat.le_of_ble_eq_true rfl) rfl (Or.inl ew_1440) (hsH19.1 0 (by decide)).1 (hsH19.1 0 (by decide)).2.1 (hsH19.2 0 95 rfl) ?_
          refine ea_iconst (pc := 123) dX12_seats_123 (v := 1) rfl ?_
          refine ea_iload (pc := 124) dX12_seats_124 8 rfl ?_
          obtain ⟨z20, E⟩ := gd_some E
          refine ea_iast (pc := 126) dX12_seats_126 (hsH19.1 68 (by decide)).1 (hsH19.1 68 (by decide)).2.1 (ea_vpl (hsH19.1 68 (by decide)).2.2 z20) ?_
          have hs21 : ShM b0 (ea_wi H19 (b0 + 68) (Int32.toNatClampNeg 1) x8) := ShM_wi hsH19
          obtain ⟨H22, eH22, E⟩ := let_some E
          refine ea_nm eH22 ?_
          have hsH22 : ShM b0 H22 := by rw [eH22]; exact hs21
          exact ((ih 127 0 0 0 (x1 : Int32) (x2 : Int32) (x3 : Int32) (x4 : Int32) (x5 : Int32) (x6 : Int32) (x7 : Int32) (x8 : Int32) H22 _ _ E hsH22).2.2.2.2.2.2 rfl)
    intro el
    subst el
    have E := (if_neg (by decide)).symm.trans E
    have E := (if_neg (by decide)).symm.trans E
    have E := (if_neg (by decide)).symm.trans E
    have E := (if_neg (by decide)).symm.trans E
    have E := (if_neg (by decide)).symm.trans E
    have E := (if_neg (by decide)).symm.trans E
    have E := (if_pos rfl).symm.trans E
    refine ea_aload_n (pc := 127) dX12_seats_127 rfl 0 rfl ?_
    obtain ⟨z25, E⟩ := gd_some E
    refine ea_callV (pc := 128) (d' := d - 1) (As := []) (st := []) dX12_seats_128 kX12_sums (sX12_sums (d := d - 1) (by omega) hs z25) (by omega) rfl (Nat.le_of_ble_eq_true rfl) ew_2175 ew_2177 ew_104 (ci := 12) rfl (by decide) (hs.1 0 (by decide)).1 (hs.1 0 (by decide)).2.1 ?_
    have hs26 : ShM b0 (wX12_sums b0 h) := shX12_sums hs
    obtain ⟨H27, eH27, E⟩ := let_some E
    refine ea_nm eH27 ?_
    have hsH27 : ShM b0 H27 := by rw [eH27]; exact hs26
    refine ea_istore (pc := 131) (lv' := [(0, vR (some (b0 + 0))), (1, vI x1), (2, vI x2), (3, vI x3), (4, vI x4), (5, vI x5), (6, vI x6), (7, vI x7), (8, vI x8), (9, vI (vX12_sums b0 h))]) dX12_seats_131 (Nat.le_of_ble_eq_true rfl) [1, 2, 3, 4, 5, 6, 7, 8, 9, 0] rfl ?_
    refine ea_iload (pc := 133) dX12_seats_133 4 rfl ?_
    refine ea_iconst (pc := 135) dX12_seats_135 (v := (-1)) rfl ?_
    refine ea_icmp_eq (pc := 136) (tgt := 149) dX12_seats_136 rfl (fun c29 => ?_) (fun c29 => ?_)
    · have E := (if_pos c29).symm.trans E
      refine ea_iload (pc := 149) dX12_seats_149 9 rfl ?_
      refine ea_istore (pc := 151) (lv' := [(0, vR (some (b0 + 0))), (1, vI x1), (2, vI x2), (3, vI x3), (4, vI (vX12_sums b0 h)), (7, vI x7), (8, vI x8)]) dX12_seats_151 (Nat.le_of_ble_eq_true rfl) [1, 2, 3, 4, 0, 7, 8] rfl ?_
      refine ea_iload (pc := 153) dX12_seats_153 5 rfl ?_
      refine ea_istore (pc := 155) (lv' := [(0, vR (some (b0 + 0))), (1, vI x1), (2, vI x2), (3, vI x3), (4, vI (vX12_sums b0 h)), (5, vI x7), (7, vI x7), (8, vI x8)]) dX12_seats_155 (Nat.le_of_ble_eq_true rfl) [1, 2, 3, 4, 5, 0, 6, 7] rfl ?_
      refine ea_iload (pc := 157) dX12_seats_157 7 rfl ?_
      refine ea_istore (pc := 159) (lv' := [(0, vR (some (b0 + 0))), (1, vI x1), (2, vI x2), (3, vI x3), (4, vI (vX12_sums b0 h)), (5, vI x7), (6, vI x8), (7, vI x7), (8, vI x8)]) dX12_seats_159 (Nat.le_of_ble_eq_true rfl) [1, 2, 3, 4, 5, 6, 0, 7, 8] rfl ?_
      refine ea_iinc (pc := 161) (v := 1) (lv' := [(0, vR (some (b0 + 0))), (1, vI x1), (2, vI x2), (3, vI x3), (4, vI (vX12_sums b0 h)), (5, vI x7), (6, vI x8), (7, vI x7), (8, vI (x8 + (1 : Int32)))]) dX12_seats_161 8 rfl rfl (Nat.le_of_ble_eq_true rfl) [1, 2, 3, 4, 5, 6, 7, 8, 0] rfl ?_
      refine ea_goto (pc := 164) (tgt := 82) dX12_seats_164 rfl ?_
      exact ((ih 82 0 0 0 (x1 : Int32) (x2 : Int32) (x3 : Int32) ((vX12_sums b0 h) : Int32) (x7 : Int32) (x8 : Int32) (x7 : Int32) ((x8 + (1 : Int32)) : Int32) H27 _ _ E hsH27).2.2.2.2.1 rfl)
    · have E := (if_neg c29).symm.trans E
      refine ea_iload (pc := 139) dX12_seats_139 9 rfl ?_
      refine ea_iload (pc := 141) dX12_seats_141 4 rfl ?_
      refine ea_icmp_lt (pc := 143) (tgt := 149) dX12_seats_143 rfl (fun c28 => ?_) (fun c28 => ?_)
      · have E := (if_pos c28).symm.trans E
        refine ea_iload (pc := 149) dX12_seats_149 9 rfl ?_
        refine ea_istore (pc := 151) (lv' := [(0, vR (some (b0 + 0))), (1, vI x1), (2, vI x2), (3, vI x3), (4, vI (vX12_sums b0 h)), (7, vI x7), (8, vI x8)]) dX12_seats_151 (Nat.le_of_ble_eq_true rfl) [1, 2, 3, 4, 0, 7, 8] rfl ?_
        refine ea_iload (pc := 153) dX12_seats_153 5 rfl ?_
        refine ea_istore (pc := 155) (lv' := [(0, vR (some (b0 + 0))), (1, vI x1), (2, vI x2), (3, vI x3), (4, vI (vX12_sums b0 h)), (5, vI x7), (7, vI x7), (8, vI x8)]) dX12_seats_155 (Nat.le_of_ble_eq_true rfl) [1, 2, 3, 4, 5, 0, 6, 7] rfl ?_
        refine ea_iload (pc := 157) dX12_seats_157 7 rfl ?_
        refine ea_istore (pc := 159) (lv' := [(0, vR (some (b0 + 0))), (1, vI x1), (2, vI x2), (3, vI x3), (4, vI (vX12_sums b0 h)), (5, vI x7), (6, vI x8), (7, vI x7), (8, vI x8)]) dX12_seats_159 (Nat.le_of_ble_eq_true rfl) [1, 2, 3, 4, 5, 6, 0, 7, 8] rfl ?_
        refine ea_iinc (pc := 161) (v := 1) (lv' := [(0, vR (some (b0 + 0))), (1, vI x1), (2, vI x2), (3, vI x3), (4, vI (vX12_sums b0 h)), (5, vI x7), (6, vI x8), (7, vI x7), (8, vI (x8 + (1 : Int32)))]) dX12_seats_161 8 rfl rfl (Nat.le_of_ble_eq_true rfl) [1, 2, 3, 4, 5, 6, 7, 8, 0] rfl ?_
        refine ea_goto (pc := 164) (tgt := 82) dX12_seats_164 rfl ?_
        exact ((ih 82 0 0 0 (x1 : Int32) (x2 : Int32) (x3 : Int32) ((vX12_sums b0 h) : Int32) (x7 : Int32) (x8 : Int32) (x7 : Int32) ((x8 + (1 : Int32)) : Int32) H27 _ _ E hsH27).2.2.2.2.1 rfl)
      · have E := (if_neg c28).symm.trans E
        refine ea_goto (pc := 146) (tgt := 161) dX12_seats_146 rfl ?_
        refine ea_iinc (pc := 161) (v := 1) (lv' := [(0, vR (some (b0 + 0))), (1, vI x1), (2, vI x2), (3, vI x3), (4, vI x4), (5, vI x5), (6, vI x6), (7, vI x7), (8, vI (x8 + (1 : Int32)))]) dX12_seats_161 8 rfl rfl (Nat.le_of_ble_eq_true rfl) [1, 2, 3, 4, 5, 6, 7, 8, 0] rfl ?_
        refine ea_goto (pc := 164) (tgt := 82) dX12_seats_164 rfl ?_
        exact ((ih 82 0 0 0 (x1 : Int32) (x2 : Int32) (x3 : Int32) (x4 : Int32) (x5 : Int32) (x6 : Int32) (x7 : Int32) ((x8 + (1 : Int32)) : Int32) H27 _ _ E hsH27).2.2.2.2.1 rfl)
noncomputable def qX12_seats (b0 : Nat) (x1 : Int32) (h : ea_H) : Option (Int32 × ea_H) := gX12_seats b0 1000000000 0 0 0 0 x1 0 0 0 0 0 0 0 h
def okX12_seats (b0 : Nat) (x1 : Int32) (h : ea_H) : Prop := ∃ x, qX12_seats b0 x1 h = some x
noncomputable def vX12_seats (b0 : Nat) (x1 : Int32) (h : ea_H) : Int32 := ((qX12_seats b0 x1 h).getD (0, h)).1
noncomputable def wX12_seats (b0 : Nat) (x1 : Int32) (h : ea_H) : ea_H := ((qX12_seats b0 x1 h).getD (0, h)).2
theorem sX12_seats {d : Nat} {b0 : Nat} {x1 : Int32} {h : ea_H} (hd : 9 ≤ d) (hs : ShM b0 h) (K : okX12_seats b0 x1 h) : ea_Met mX12_seats d [vR (some (b0 + 0)), vI x1] h (some (vI (vX12_seats b0 x1 h))) (wX12_seats b0 x1 h) := by
  obtain ⟨⟨x, y⟩, K⟩ := K
  unfold wX12_seats vX12_seats
  rw [K]
  unfold qX12_seats at K
  exact ea_enter rfl (Nat.le_of_ble_eq_true rfl) ((tX12_seats hd 1000000000 0 0 0 0 x1 0 0 0 0 0 0 0 h x y K hs).1 rfl)
theorem zX12_seats {b0 : Nat} : ∀ (f lbl : Nat) (sx0 : Int32) (sx1 : Int32) (sx2 : Int32) (x1 : Int32) (x2 : Int32) (x3 : Int32) (x4 : Int32) (x5 : Int32) (x6 : Int32) (x7 : Int32) (x8 : Int32) (h : ea_H) (r : Int32) (h' : ea_H), gX12_seats b0 f lbl sx0 sx1 sx2 x1 x2 x3 x4 x5 x6 x7 x8 h = some (r, h') → ShM b0 h → ShM b0 h' := by
  intro f
  induction f with
  | zero => intro lbl sx0 sx1 sx2 x1 x2 x3 x4 x5 x6 x7 x8 h r h' E; cases E
  | succ f ih =>
    intro lbl sx0 sx1 sx2 x1 x2 x3 x4 x5 x6 x7 x8 h r h' E hs
    unfold gX12_seats at E
    by_cases el0 : lbl = 0
    · have E := (if_pos el0).symm.trans E
      by_cases c4 : (ea_i h (b0 + 0) 2) = (0 : Int32)
      · have E := (if_pos c4).symm.trans E
        exact ea_shO E hs
      have E := (if_neg c4).symm.trans E
      by_cases c3 : (ea_i h (b0 + 0) 92) = (0 : Int32)
      · have E := (if_pos c3).symm.trans E
        exact ea_shO E hs
      have E := (if_neg c3).symm.trans E
      by_cases c2 : x1 = (0 : Int32)
      · have E := (if_pos c2).symm.trans E
        exact ih 44 0 0 0 (x1 : Int32) 0 0 0 0 0 0 0 h _ _ E hs
      have E := (if_neg c2).symm.trans E
      by_cases c1 : (ea_i h (b0 + 0) 92) ≤ (1 : Int32)
      · have E := (if_pos c1).symm.trans E
        exact ih 36 (10 : Int32) (10 : Int32) (x1 : Int32) (x1 : Int32) 0 0 0 0 0 0 0 h _ _ E hs
      have E := (if_neg c1).symm.trans E
      exact ih 36 (11 : Int32) (10 : Int32) (x1 : Int32) (x1 : Int32) 0 0 0 0 0 0 0 h _ _ E hs
    have E := (if_neg el0).symm.trans E
    by_cases el1 : lbl = 36
    · have E := (if_pos el1).symm.trans E
      by_cases c6 : (vX12_isIn (sx2 : Int32) (sx1 : Int32) (sx0 : Int32) h) = (0 : Int32)
      · have E := (if_pos c6).symm.trans E
        exact ea_shO E hs
      have E := (if_neg c6).symm.trans E
      exact ih 44 0 0 0 (x1 : Int32) 0 0 0 0 0 0 0 h _ _ E hs
    have E := (if_neg el1).symm.trans E
    by_cases el2 : lbl = 44
    · have E := (if_pos el2).symm.trans E
      exact ih 70 0 0 0 (x1 : Int32) ((ea_i h (b0 + 68) 0) : Int32) ((ea_i h (b0 + 68) 1) : Int32) ((-1) : Int32) (0 : Int32) (0 : Int32) (0 : Int32) 0 h _ _ E hs
    have E := (if_neg el2).symm.trans E
    by_cases el3 : lbl = 70
    · have E := (if_pos el3).symm.trans E
      by_cases c15 : (ea_i h (b0 + 0) 2) ≤ x7
      · have E := (if_pos c15).symm.trans E
        obtain ⟨z7, E⟩ := gd_some E
        obtain ⟨H9, eH9, E⟩ := let_some E
        have hsH9 : ShM b0 H9 := by rw [eH9]; exact (ShM_wi hs)
        obtain ⟨z10, E⟩ := gd_some E
        obtain ⟨H12, eH12, E⟩ := let_some E
        have hsH12 : ShM b0 H12 := by rw [eH12]; exact (ShM_wi hsH9)
        by_cases c14 : x1 = (0 : Int32)
        · have E := (if_pos c14).symm.trans E
          exact ea_shO E hsH12
        have E := (if_neg c14).symm.trans E
        by_cases c13 : x1 = (10 : Int32)
        · have E := (if_pos c13).symm.trans E
          exact ea_shO E hsH12
        have E := (if_neg c13).symm.trans E
        exact ea_shO E hsH12
      have E := (if_neg c15).symm.trans E
      exact ih 82 0 0 0 (x1 : Int32) (x2 : Int32) (x3 : Int32) (x4 : Int32) (x5 : Int32) (x6 : Int32) (x7 : Int32) (0 : Int32) h _ _ E hs
    have E := (if_neg el3).symm.trans E
    by_cases el4 : lbl = 82
    · have E := (if_pos el4).symm.trans E
      by_cases c16 : (ea_i h (b0 + 0) 92) ≤ (1 : Int32)
      · have E := (if_pos c16).symm.trans E
        exact ih 100 (1 : Int32) (x8 : Int32) 0 (x1 : Int32) (x2 : Int32) (x3 : Int32) (x4 : Int32) (x5 : Int32) (x6 : Int32) (x7 : Int32) (x8 : Int32) h _ _ E hs
      have E := (if_neg c16).symm.trans E
      exact ih 100 ((ea_i h (b0 + 0) 2) : Int32) (x8 : Int32) 0 (x1 : Int32) (x2 : Int32) (x3 : Int32) (x4 : Int32) (x5 : Int32) (x6 : Int32) (x7 : Int32) (x8 : Int32) h _ _ E hs
    have E := (if_neg el4).symm.trans E
    by_cases el5 : lbl = 100
    · have E := (if_pos el5).symm.trans E
      by_cases c24 : sx0 ≤ sx1
      · have E := (if_pos c24).symm.trans E
        exact ih 70 0 0 0 (x1 : Int32) (x2 : Int32) (x3 : Int32) (x4 : Int32) (x5 : Int32) (x6 : Int32) ((x7 + (1 : Int32)) : Int32) 0 h _ _ E hs
      have E := (if_neg c24).symm.trans E
      obtain ⟨z17, E⟩ := gd_some E
      obtain ⟨H19, eH19, E⟩ := let_some E
      have hsH19 : ShM b0 H19 := by rw [eH19]; exact (ShM_wi hs)
      by_cases c23 : (ea_i H19 (b0 + 0) 92) ≤ (1 : Int32)
      · have E := (if_pos c23).symm.trans E
        exact ih 127 0 0 0 (x1 : Int32) (x2 : Int32) (x3 : Int32) (x4 : Int32) (x5 : Int32) (x6 : Int32) (x7 : Int32) (x8 : Int32) H19 _ _ E hsH19
      have E := (if_neg c23).symm.trans E
      obtain ⟨z20, E⟩ := gd_some E
      obtain ⟨H22, eH22, E⟩ := let_some E
      have hsH22 : ShM b0 H22 := by rw [eH22]; exact (ShM_wi hsH19)
      exact ih 127 0 0 0 (x1 : Int32) (x2 : Int32) (x3 : Int32) (x4 : Int32) (x5 : Int32) (x6 : Int32) (x7 : Int32) (x8 : Int32) H22 _ _ E hsH22
    have E := (if_neg el5).symm.trans E
    by_cases el6 : lbl = 127
    · have E := (if_pos el6).symm.trans E
      obtain ⟨z25, E⟩ := gd_some E
      obtain ⟨H27, eH27, E⟩ := let_some E
      have hsH27 : ShM b0 H27 := by rw [eH27]; exact (shX12_sums hs)
      by_cases c29 : x4 = ((-1) : Int32)
      · have E := (if_pos c29).symm.trans E
        exact ih 82 0 0 0 (x1 : Int32) (x2 : Int32) (x3 : Int32) ((vX12_sums b0 h) : Int32) (x7 : Int32) (x8 : Int32) (x7 : Int32) ((x8 + (1 : Int32)) : Int32) H27 _ _ E hsH27
      have E := (if_neg c29).symm.trans E
      by_cases c28 : (vX12_sums b0 h) < x4
      · have E := (if_pos c28).symm.trans E
        exact ih 82 0 0 0 (x1 : Int32) (x2 : Int32) (x3 : Int32) ((vX12_sums b0 h) : Int32) (x7 : Int32) (x8 : Int32) (x7 : Int32) ((x8 + (1 : Int32)) : Int32) H27 _ _ E hsH27
      have E := (if_neg c28).symm.trans E
      exact ih 82 0 0 0 (x1 : Int32) (x2 : Int32) (x3 : Int32) (x4 : Int32) (x5 : Int32) (x6 : Int32) (x7 : Int32) ((x8 + (1 : Int32)) : Int32) H27 _ _ E hsH27
    have E := (if_neg el6).symm.trans E
    cases E
theorem shX12_seats {b0 : Nat} {x1 : Int32} {h : ea_H} (hs : ShM b0 h) : ShM b0 (wX12_seats b0 x1 h) := by
  unfold wX12_seats
  cases K : qX12_seats b0 x1 h with
  | none => exact hs
  | some x => obtain ⟨x, y⟩ := x; unfold qX12_seats at K; exact zX12_seats _ _ _ _ _ _ _ _ _ _ _ _ _ _ _ _ K hs
noncomputable def gMG0 (b0 : Nat) : Nat → Nat → Nat → Int32 → ea_H → Option (Int32 × ea_H)
  | 0, _, _, _, _ => none
  | f + 1, dep, lbl, sx0, h =>
    if lbl = 1000 then (gd (0 < dep) (Option.bind (gMG0 b0 f (dep - 1) 2000 0 h) fun y1 => (if (y1.1) = (0 : Int32) then (some ((0 : Int32), (y1.2))) else (gMG0 b0 f dep 1009 0 (y1.2))))) else
    if lbl = 1009 then (if (ea_i h (b0 + 0) 54) = (43 : Int32) then (gMG0 b0 f dep 1027 0 h) else (if (ea_i h (b0 + 0) 54) = (45 : Int32) then (gMG0 b0 f dep 1027 0 h) else (some ((1 : Int32), h)))) else
    if lbl = 1027 then (if (ea_i h (b0 + 0) 54) = (43 : Int32) then (gMG0 b0 f dep 1043 (8 : Int32) h) else (gMG0 b0 f dep 1043 (9 : Int32) h)) else
    if lbl = 1043 then (gd ((okX12_next0 b0 h)) (ea_let (wX12_next0 b0 h) fun H9 => (gd (0 < dep) (Option.bind (gMG0 b0 f (dep - 1) 2000 0 H9) fun y10 => (if (y10.1) = (0 : Int32) then (some ((0 : Int32), (y10.2))) else (gd ((okX12_lay b0 (sx0 : Int32) (0 : Int32) (y10.2))) (ea_let (wX12_lay b0 (sx0 : Int32) (0 : Int32) (y10.2)) fun H14 => (gMG0 b0 f dep 1009 0 H14)))))))) else
    if lbl = 2000 then (gd (0 < dep) (Option.bind (gMG0 b0 f (dep - 1) 3000 0 h) fun y10001 => (if (y10001.1) = (0 : Int32) then (some ((0 : Int32), (y10001.2))) else (gMG0 b0 f dep 2009 0 (y10001.2))))) else
    if lbl = 2009 then (if (ea_i h (b0 + 0) 54) = (42 : Int32) then (gMG0 b0 f dep 2027 0 h) else (if (ea_i h (b0 + 0) 54) = (47 : Int32) then (gMG0 b0 f dep 2027 0 h) else (some ((1 : Int32), h)))) else
    if lbl = 2027 then (if (ea_i h (b0 + 0) 54) = (47 : Int32) then (gMG0 b0 f dep 2041 (1 : Int32) h) else (gMG0 b0 f dep 2041 (0 : Int32) h)) else
    if lbl = 2041 then (gd ((okX12_next0 b0 h)) (ea_let (wX12_next0 b0 h) fun H10009 => (if sx0 = (0 : Int32) then (gd (0 < dep) (Option.bind (gMG0 b0 f (dep - 1) 3000 0 H10009) fun y10010 => (if (y10010.1) = (0 : Int32) then (some ((0 : Int32), (y10010.2))) else (gd ((okX12_lay b0 (10 : Int32) (0 : Int32) (y10010.2))) (ea_let (wX12_lay b0 (10 : Int32) (0 : Int32) (y10010.2)) fun H10014 => (gMG0 b0 f dep 2009 0 H10014)))))) else (if (ea_i H10009 (b0 + 0) 54) = (2 : Int32) then (if (ea_i H10009 (b0 + 0) 56) = (0 : Int32) then (ea_let (wX12_bad b0 (2 : Int32) H10009) fun H10024 => (some ((vX12_bad b0 (2 : Int32) H10009), H10024))) else (gd ((okX12_lay b0 (11 : Int32) ((ea_i H10009 (b0 + 0) 56) : Int32) H10009)) (ea_let (wX12_lay b0 (11 : Int32) ((ea_i H10009 (b0 + 0) 56) : Int32) H10009) fun H10018 => (gd ((okX12_next0 b0 H10018)) (ea_let (wX12_next0 b0 H10018) fun H10021 => (gMG0 b0 f dep 2009 0 H10021)))))) else (ea_let (wX12_bad b0 (1 : Int32) H10009) fun H10028 => (some ((vX12_bad b0 (1 : Int32) H10009), H10028))))))) else
    if lbl = 3000 then (if (ea_i h (b0 + 0) 54) = (40 : Int32) then (gd ((okX12_opens b0 h)) (ea_let (wX12_opens b0 h) fun H20008 => (if (vX12_opens b0 h) = (0 : Int32) then (some ((0 : Int32), H20008)) else (gd (0 < dep) (Option.bind (gMG0 b0 f (dep - 1) 1000 0 H20008) fun y20009 => (if (y20009.1) = (0 : Int32) then (some ((0 : Int32), (y20009.2))) else (gd ((okX12_need b0 (41 : Int32) (y20009.2))) (ea_let (wX12_need b0 (41 : Int32) (y20009.2)) fun H20013 => (if (vX12_need b0 (41 : Int32) (y20009.2)) = (0 : Int32) then (some ((0 : Int32), H20013)) else (ea_let (ea_wi H20013 (b0 + 0) 60 ((ea_i H20013 (b0 + 0) 60) - (1 : Int32))) fun H20015 => (some ((1 : Int32), H20015)))))))))))) else (if (ea_i h (b0 + 0) 54) = (2 : Int32) then (gMG0 b0 f dep 3070 0 h) else (if (201 : Int32) ≤ (ea_i h (b0 + 0) 54) then (gMG0 b0 f dep 3070 0 h) else (ea_let (wX12_bad b0 (1 : Int32) h) fun H20003 => (some ((vX12_bad b0 (1 : Int32) h), H20003)))))) else
    if lbl = 3070 then (if (ea_i h (b0 + 0) 54) = (2 : Int32) then (gd ((okX12_lay b0 (0 : Int32) ((ea_i h (b0 + 0) 56) : Int32) h)) (ea_let (wX12_lay b0 (0 : Int32) ((ea_i h (b0 + 0) 56) : Int32) h) fun H20028 => (gd ((okX12_next0 b0 H20028)) (ea_let (wX12_next0 b0 H20028) fun H20031 => (some ((1 : Int32), H20031)))))) else (gd ((okX12_lay b0 ((((1 : Int32) + (ea_i h (b0 + 0) 54)) - (201 : Int32)) : Int32) ((ea_i h (b0 + 0) 56) : Int32) h)) (ea_let (wX12_lay b0 ((((1 : Int32) + (ea_i h (b0 + 0) 54)) - (201 : Int32)) : Int32) ((ea_i h (b0 + 0) 56) : Int32) h) fun H20022 => (gd ((okX12_next0 b0 H20022)) (ea_let (wX12_next0 b0 H20022) fun H20025 => (some ((1 : Int32), H20025))))))) else none
theorem zMG0 (b0 : Nat) : ∀ (f dep lbl : Nat) (sx0 : Int32) (h : ea_H) (r : Int32) (h' : ea_H), gMG0 b0 f dep lbl sx0 h = some (r, h') → ShM b0 h → ShM b0 h' := by
  intro f
  induction f with
  | zero => intro dep lbl sx0 h r h' E; cases E
  | succ f ih =>
    intro dep lbl sx0 h r h' E hs
    unfold gMG0 at E
    by_cases el0 : lbl = 1000
    · have E := (if_pos el0).symm.trans E
      obtain ⟨zd2, E⟩ := gd_some E
      obtain ⟨y1, Ey1, E⟩ := bd_some E
      have hsy1 : ShM b0 y1.2 := ih _ _ _ _ _ _ Ey1 hs
      by_cases c3 : (y1.1) = (0 : Int32)
      · have E := (if_pos c3).symm.trans E
        exact ea_shO E hsy1
      have E := (if_neg c3).symm.trans E
      exact ih dep 1009 0 (y1.2) _ _ E hsy1
    have E := (if_neg el0).symm.trans E
    by_cases el1 : lbl = 1009
    · have E := (if_pos el1).symm.trans E
      by_cases c5 : (ea_i h (b0 + 0) 54) = (43 : Int32)
      · have E := (if_pos c5).symm.trans E
        exact ih dep 1027 0 h _ _ E hs
      have E := (if_neg c5).symm.trans E
      by_cases c4 : (ea_i h (b0 + 0) 54) = (45 : Int32)
      · have E := (if_pos c4).symm.trans E
        exact ih dep 1027 0 h _ _ E hs
      have E := (if_neg c4).symm.trans E
      exact ea_shO E hs
    have E := (if_neg el1).symm.trans E
    by_cases el2 : lbl = 1027
    · have E := (if_pos el2).symm.trans E
      by_cases c6 : (ea_i h (b0 + 0) 54) = (43 : Int32)
      · have E := (if_pos c6).symm.trans E
        exact ih dep 1043 (8 : Int32) h _ _ E hs
      have E := (if_neg c6).symm.trans E
      exact ih dep 1043 (9 : Int32) h _ _ E hs
    have E := (if_neg el2).symm.trans E
    by_cases el3 : lbl = 1043
    · have E := (if_pos el3).symm.trans E
      obtain ⟨z7, E⟩ := gd_some E
      obtain ⟨H9, eH9, E⟩ := let_some E
      have hsH9 : ShM b0 H9 := by rw [eH9]; exact (shX12_next0 hs)
      obtain ⟨zd11, E⟩ := gd_some E
      obtain ⟨y10, Ey10, E⟩ := bd_some E
      have hsy10 : ShM b0 y10.2 := ih _ _ _ _ _ _ Ey10 hsH9
      by_cases c15 : (y10.1) = (0 : Int32)
      · have E := (if_pos c15).symm.trans E
        exact ea_shO E hsy10
      have E := (if_neg c15).symm.trans E
      obtain ⟨z12, E⟩ := gd_some E
      obtain ⟨H14, eH14, E⟩ := let_some E
      have hsH14 : ShM b0 H14 := by rw [eH14]; exact (shX12_lay hsy10)
      exact ih dep 1009 0 H14 _ _ E hsH14
    have E := (if_neg el3).symm.trans E
    by_cases el4 : lbl = 2000
    · have E := (if_pos el4).symm.trans E
      obtain ⟨zd10002, E⟩ := gd_some E
      obtain ⟨y10001, Ey10001, E⟩ := bd_some E
      have hsy10001 : ShM b0 y10001.2 := ih _ _ _ _ _ _ Ey10001 hs
      by_cases c10003 : (y10001.1) = (0 : Int32)
      · have E := (if_pos c10003).symm.trans E
        exact ea_shO E hsy10001
      have E := (if_neg c10003).symm.trans E
      exact ih dep 2009 0 (y10001.2) _ _ E hsy10001
    have E := (if_neg el4).symm.trans E
    by_cases el5 : lbl = 2009
    · have E := (if_pos el5).symm.trans E
      by_cases c10005 : (ea_i h (b0 + 0) 54) = (42 : Int32)
      · have E := (if_pos c10005).symm.trans E
        exact ih dep 2027 0 h _ _ E hs
      have E := (if_neg c10005).symm.trans E
      by_cases c10004 : (ea_i h (b0 + 0) 54) = (47 : Int32)
      · have E := (if_pos c10004).symm.trans E
        exact ih dep 2027 0 h _ _ E hs
      have E := (if_neg c10004).symm.trans E
      exact ea_shO E hs
    have E := (if_neg el5).symm.trans E
    by_cases el6 : lbl = 2027
    · have E := (if_pos el6).symm.trans E
      by_cases c10006 : (ea_i h (b0 + 0) 54) = (47 : Int32)
      · have E := (if_pos c10006).symm.trans E
        exact ih dep 2041 (1 : Int32) h _ _ E hs
      have E := (if_neg c10006).symm.trans E
      exact ih dep 2041 (0 : Int32) h _ _ E hs
    have E := (if_neg el6).symm.trans E
    by_cases el7 : lbl = 2041
    · have E := (if_pos el7).symm.trans E
      obtain ⟨z10007, E⟩ := gd_some E
      obtain ⟨H10009, eH10009, E⟩ := let_some E
      have hsH10009 : ShM b0 H10009 := by rw [eH10009]; exact (shX12_next0 hs)
      by_cases c10030 : sx0 = (0 : Int32)
      · have E := (if_pos c10030).symm.trans E
        obtain ⟨zd10011, E⟩ := gd_some E
        obtain ⟨y10010, Ey10010, E⟩ := bd_some E
        have hsy10010 : ShM b0 y10010.2 := ih _ _ _ _ _ _ Ey10010 hsH10009
        by_cases c10015 : (y10010.1) = (0 : Int32)
        · have E := (if_pos c10015).symm.trans E
          exact ea_shO E hsy10010
        have E := (if_neg c10015).symm.trans E
        obtain ⟨z10012, E⟩ := gd_some E
        obtain ⟨H10014, eH10014, E⟩ := let_some E
        have hsH10014 : ShM b0 H10014 := by rw [eH10014]; exact (shX12_lay hsy10010)
        exact ih dep 2009 0 H10014 _ _ E hsH10014
      have E := (if_neg c10030).symm.trans E
      by_cases c10029 : (ea_i H10009 (b0 + 0) 54) = (2 : Int32)
      · have E := (if_pos c10029).symm.trans E
        by_cases c10025 : (ea_i H10009 (b0 + 0) 56) = (0 : Int32)
        · have E := (if_pos c10025).symm.trans E
          obtain ⟨H10024, eH10024, E⟩ := let_some E
          have hsH10024 : ShM b0 H10024 := by rw [eH10024]; exact (shX12_bad hsH10009)
          exact ea_shO E hsH10024
        have E := (if_neg c10025).symm.trans E
        obtain ⟨z10016, E⟩ := gd_some E
        obtain ⟨H10018, eH10018, E⟩ := let_some E
        have hsH10018 : ShM b0 H10018 := by rw [eH10018]; exact (shX12_lay hsH10009)
        obtain ⟨z10019, E⟩ := gd_some E
        obtain ⟨H10021, eH10021, E⟩ := let_some E
        have hsH10021 : ShM b0 H10021 := by rw [eH10021]; exact (shX12_next0 hsH10018)
        exact ih dep 2009 0 H10021 _ _ E hsH10021
      have E := (if_neg c10029).symm.trans E
      obtain ⟨H10028, eH10028, E⟩ := let_some E
      have hsH10028 : ShM b0 H10028 := by rw [eH10028]; exact (shX12_bad hsH10009)
      exact ea_shO E hsH10028
    have E := (if_neg el7).symm.trans E
    by_cases el8 : lbl = 3000
    · have E := (if_pos el8).symm.trans E
      by_cases c20019 : (ea_i h (b0 + 0) 54) = (40 : Int32)
      · have E := (if_pos c20019).symm.trans E
        obtain ⟨z20006, E⟩ := gd_some E
        obtain ⟨H20008, eH20008, E⟩ := let_some E
        have hsH20008 : ShM b0 H20008 := by rw [eH20008]; exact (shX12_opens hs)
        by_cases c20018 : (vX12_opens b0 h) = (0 : Int32)
        · have E := (if_pos c20018).symm.trans E
          exact ea_shO E hsH20008
        have E := (if_neg c20018).symm.trans E
        obtain ⟨zd20010, E⟩ := gd_some E
        obtain ⟨y20009, Ey20009, E⟩ := bd_some E
        have hsy20009 : ShM b0 y20009.2 := ih _ _ _ _ _ _ Ey20009 hsH20008
        by_cases c20017 : (y20009.1) = (0 : Int32)
        · have E := (if_pos c20017).symm.trans E
          exact ea_shO E hsy20009
        have E := (if_neg c20017).symm.trans E
        obtain ⟨z20011, E⟩ := gd_some E
        obtain ⟨H20013, eH20013, E⟩ := let_some E
        have hsH20013 : ShM b0 H20013 := by rw [eH20013]; exact (shX12_need hsy20009)
        by_cases c20016 : (vX12_need b0 (41 : Int32) (y20009.2)) = (0 : Int32)
        · have E := (if_pos c20016).symm.trans E
          exact ea_shO E hsH20013
        have E := (if_neg c20016).symm.trans E
        obtain ⟨H20015, eH20015, E⟩ := let_some E
        have hsH20015 : ShM b0 H20015 := by rw [eH20015]; exact (ShM_wi hsH20013)
        exact ea_shO E hsH20015
      have E := (if_neg c20019).symm.trans E
      by_cases c20005 : (ea_i h (b0 + 0) 54) = (2 : Int32)
      · have E := (if_pos c20005).symm.trans E
        exact ih dep 3070 0 h _ _ E hs
      have E := (if_neg c20005).symm.trans E
      by_cases c20004 : (201 : Int32) ≤ (ea_i h (b0 + 0) 54)
      · have E := (if_pos c20004).symm.trans E
        exact ih dep 3070 0 h _ _ E hs
      have E := (if_neg c20004).symm.trans E
      obtain ⟨H20003, eH20003, E⟩ := let_some E
      have hsH20003 : ShM b0 H20003 := by rw [eH20003]; exact (shX12_bad hs)
      exact ea_shO E hsH20003
    have E := (if_neg el8).symm.trans E
    by_cases el9 : lbl = 3070
    · have E := (if_pos el9).symm.trans E
      by_cases c20032 : (ea_i h (b0 + 0) 54) = (2 : Int32)
      · have E := (if_pos c20032).symm.trans E
        obtain ⟨z20026, E⟩ := gd_some E
        obtain ⟨H20028, eH20028, E⟩ := let_some E
        have hsH20028 : ShM b0 H20028 := by rw [eH20028]; exact (shX12_lay hs)
        obtain ⟨z20029, E⟩ := gd_some E
        obtain ⟨H20031, eH20031, E⟩ := let_some E
        have hsH20031 : ShM b0 H20031 := by rw [eH20031]; exact (shX12_next0 hsH20028)
        exact ea_shO E hsH20031
      have E := (if_neg c20032).symm.trans E
      obtain ⟨z20020, E⟩ := gd_some E
      obtain ⟨H20022, eH20022, E⟩ := let_some E
      have hsH20022 : ShM b0 H20022 := by rw [eH20022]; exact (shX12_lay hs)
      obtain ⟨z20023, E⟩ := gd_some E
      obtain ⟨H20025, eH20025, E⟩ := let_some E
      have hsH20025 : ShM b0 H20025 := by rw [eH20025]; exact (shX12_next0 hsH20022)
      exact ea_shO E hsH20025
    have E := (if_neg el9).symm.trans E
    cases E
theorem tMG0 (b0 : Nat) : ∀ (f dep lbl : Nat) (sx0 : Int32) (h : ea_H) (r : Int32) (h' : ea_H), gMG0 b0 f dep lbl sx0 h = some (r, h') → ShM b0 h → ∀ (d : Nat) (h0 : ea_H), 6 + dep ≤ d → (lbl = 1000 → ea_W mX12_sumOf d h0 (some (vI r)) h' 0 [(0, vR (some (b0 + 0)))] [] h) ∧ (lbl = 1009 → ea_W mX12_sumOf d h0 (some (vI r)) h' 9 [(0, vR (some (b0 + 0)))] [] h) ∧ (lbl = 1027 → ea_W mX12_sumOf d h0 (some (vI r)) h' 27 [(0, vR (some (b0 + 0)))] [] h) ∧ (lbl = 1043 → ea_W mX12_sumOf d h0 (some (vI r)) h' 43 [(0, vR (some (b0 + 0)))] [vI sx0] h) ∧ (lbl = 2000 → ea_W mX12_product d h0 (some (vI r)) h' 0 [(0, vR (some (b0 + 0)))] [] h) ∧ (lbl = 2009 → ea_W mX12_product d h0 (some (vI r)) h' 9 [(0, vR (some (b0 + 0)))] [] h) ∧ (lbl = 2027 → ea_W mX12_product d h0 (some (vI r)) h' 27 [(0, vR (some (b0 + 0)))] [] h) ∧ (lbl = 2041 → ea_W mX12_product d h0 (some (vI r)) h' 41 [(0, vR (some (b0 + 0)))] [vI sx0] h) ∧ (lbl = 3000 → ea_W mX12_unit d h0 (some (vI r)) h' 0 [(0, vR (some (b0 + 0)))] [] h) ∧ (lbl = 3070 → ea_W mX12_unit d h0 (some (vI r)) h' 70 [(0, vR (some (b0 + 0)))] [] h) := by
  intro f
  induction f with
  | zero => intro dep lbl sx0 h r h' E; cases E
  | succ f ih =>
    intro dep lbl sx0 h r h' E hs d h0 hd
    unfold gMG0 at E
    refine ⟨?_, ?_⟩
    · intro el
      subst el
      have E := (if_pos rfl).symm.trans E
      refine ea_aload_n (pc := 0) dX12_sumOf_0 rfl 0 rfl ?_
      obtain ⟨zd2, E⟩ := gd_some E
      obtain ⟨y1, Ey1, E⟩ := bd_some E
      have hsy1 : ShM b0 y1.2 := zMG0 b0 f _ _ _ _ _ _ Ey1 hs
      refine ea_callV (pc := 1) (d' := d - 1) (As := []) (st := []) dX12_sumOf_1 kX12_product (ea_enter rfl (Nat.le_of_ble_eq_true rfl) ((ih (dep - 1) 2000 0 h _ _ Ey1 hs (d - 1) h (by omega)).2.2.2.2.1 rfl)) (by omega) rfl (Nat.le_of_ble_eq_true rfl) ew_1930 ew_1932 ew_72 (ci := 12) rfl (by decide) (hs.1 0 (by decide)).1 (hs.1 0 (by decide)).2.1 ?_
      refine ea_if_ne (pc := 4) (tgt := 9) dX12_sumOf_4 rfl (fun c3 => ?_) (fun c3 => ?_)
      · have E := (if_neg c3).symm.trans E
        exact ((ih dep 1009 0 (y1.2) _ _ E hsy1 d h0 hd).2.1 rfl)
      · have E := (if_pos c3).symm.trans E
        refine ea_iconst (pc := 7) dX12_sumOf_7 (v := 0) rfl ?_
        exact ea_iretO (pc := 8) dX12_sumOf_8 rfl (ea_bn (Or.inl rfl)) E
    refine ⟨?_, ?_⟩
    · intro el
      subst el
      have E := (if_neg (by decide)).symm.trans E
      have E := (if_pos rfl).symm.trans E
      refine ea_aload_n (pc := 9) dX12_sumOf_9 rfl 0 rfl ?_
      refine ea_getI (pc := 10) dX12_sumOf_10 ec_12 (k := 54) (Nat.le_of_ble_eq_true rfl) rfl (Or.inl ew_1399) (hs.1 0 (by decide)).1 (hs.1 0 (by decide)).2.1 ?_
      refine ea_bipush (pc := 13) dX12_sumOf_13 (v := 43) rfl ?_
      refine ea_icmp_eq (pc := 15) (tgt := 27) dX12_sumOf_15 rfl (fun c5 => ?_) (fun c5 => ?_)
      · have E := (if_pos c5).symm.trans E
        exact ((ih dep 1027 0 h _ _ E hs d h0 hd).2.2.1 rfl)
      · have E := (if_neg c5).symm.trans E
        refine ea_aload_n (pc := 18) dX12_sumOf_18 rfl 0 rfl ?_
        refine ea_getI (pc := 19) dX12_sumOf_19 ec_12 (k := 54) (Nat.le_of_ble_eq_true rfl) rfl (Or.inl ew_1399) (hs.1 0 (by decide)).1 (hs.1 0 (by decide)).2.1 ?_
        refine ea_bipush (pc := 22) dX12_sumOf_22 (v := 45) rfl ?_
        refine ea_icmp_ne (pc := 24) (tgt := 66) dX12_sumOf_24 rfl (fun c4 => ?_) (fun c4 => ?_)
        · have E := (if_neg c4).symm.trans E
          refine ea_iconst (pc := 66) dX12_sumOf_66 (v := 1) rfl ?_
          exact ea_iretO (pc := 67) dX12_sumOf_67 rfl (ea_bn (Or.inr rfl)) E
        · have E := (if_pos c4).symm.trans E
          exact ((ih dep 1027 0 h _ _ E hs d h0 hd).2.2.1 rfl)
    refine ⟨?_, ?_⟩
    · intro el
      subst el
      have E := (if_neg (by decide)).symm.trans E
      have E := (if_neg (by decide)).symm.trans E
      have E := (if_pos rfl).symm.trans E
      refine ea_aload_n (pc := 27) dX12_sumOf_27 rfl 0 rfl ?_
      refine ea_getI (pc := 28) dX12_sumOf_28 ec_12 (k := 54) (Nat.le_of_ble_eq_true rfl) rfl (Or.inl ew_1399) (hs.1 0 (by decide)).1 (hs.1 0 (by decide)).2.1 ?_
      refine ea_bipush (pc := 31) dX12_sumOf_31 (v := 43) rfl ?_
      refine ea_icmp_ne (pc := 33) (tgt := 41) dX12_sumOf_33 rfl (fun c6 => ?_) (fun c6 => ?_)
      · have E := (if_neg c6).symm.trans E
        refine ea_bipush (pc := 41) dX12_sumOf_41 (v := 9) rfl ?_
        exact ((ih dep 1043 (9 : Int32) h _ _ E hs d h0 hd).2.2.2.1 rfl)
      · have E := (if_pos c6).symm.trans E
        refine ea_bipush (pc := 36) dX12_sumOf_36 (v := 8) rfl ?_
        refine ea_goto (pc := 38) (tgt := 43) dX12_sumOf_38 rfl ?_
        exact ((ih dep 1043 (8 : Int32) h _ _ E hs d h0 hd).2.2.2.1 rfl)
    refine ⟨?_, ?_⟩
    · intro el
      subst el
      have E := (if_neg (by decide)).symm.trans E
      have E := (if_neg (by decide)).symm.trans E
      have E := (if_neg (by decide)).symm.trans E
      have E := (if_pos rfl).symm.trans E
      refine ea_istore_n (pc := 43) (lv' := [(0, vR (some (b0 + 0))), (1, vI sx0)]) dX12_sumOf_43 rfl (Nat.le_of_ble_eq_true rfl) [1, 0] rfl ?_
      refine ea_aload_n (pc := 44) dX12_sumOf_44 rfl 0 rfl ?_
      obtain ⟨z7, E⟩ := gd_some E
      refine ea_callV (pc := 45) (d' := d - 1) (As := []) (st := []) dX12_sumOf_45 kX12_next0 (sX12_next0 (d := d - 1) (by omega) hs z7) (by omega) rfl (Nat.le_of_ble_eq_true rfl) ew_1822 ew_1824 ew_63 (ci := 12) rfl (by decide) (hs.1 0 (by decide)).1 (hs.1 0 (by decide)).2.1 ?_
      have hs8 : ShM b0 (wX12_next0 b0 h) := shX12_next0 hs
      obtain ⟨H9, eH9, E⟩ := let_some E
      refine ea_nm eH9 ?_
      have hsH9 : ShM b0 H9 := by rw [eH9]; exact hs8
      refine ea_aload_n (pc := 48) dX12_sumOf_48 rfl 0 rfl ?_
      obtain ⟨zd11, E⟩ := gd_some E
      obtain ⟨y10, Ey10, E⟩ := bd_some E
      have hsy10 : ShM b0 y10.2 := zMG0 b0 f _ _ _ _ _ _ Ey10 hsH9
      refine ea_callV (pc := 49) (d' := d - 1) (As := []) (st := []) dX12_sumOf_49 kX12_product (ea_enter rfl (Nat.le_of_ble_eq_true rfl) ((ih (dep - 1) 2000 0 H9 _ _ Ey10 hsH9 (d - 1) H9 (by omega)).2.2.2.2.1 rfl)) (by omega) rfl (Nat.le_of_ble_eq_true rfl) ew_1930 ew_1932 ew_72 (ci := 12) rfl (by decide) (hsH9.1 0 (by decide)).1 (hsH9.1 0 (by decide)).2.1 ?_
      refine ea_if_ne (pc := 52) (tgt := 57) dX12_sumOf_52 rfl (fun c15 => ?_) (fun c15 => ?_)
      · have E := (if_neg c15).symm.trans E
        refine ea_aload_n (pc := 57) dX12_sumOf_57 rfl 0 rfl ?_
        refine ea_iload_n (pc := 58) dX12_sumOf_58 rfl 1 rfl ?_
        refine ea_iconst (pc := 59) dX12_sumOf_59 (v := 0) rfl ?_
        obtain ⟨z12, E⟩ := gd_some E
        refine ea_callV (pc := 60) (d' := d - 1) (As := [vI sx0, vI 0]) (st := []) dX12_sumOf_60 kX12_lay (sX12_lay (d := d - 1) (by omega) hsy10 z12) (by omega) rfl (Nat.le_of_ble_eq_true rfl) ew_1946 ew_1948 ew_76 (ci := 12) rfl (by decide) (hsy10.1 0 (by decide)).1 (hsy10.1 0 (by decide)).2.1 ?_
        have hs13 : ShM b0 (wX12_lay b0 (sx0 : Int32) (0 : Int32) (y10.2)) := shX12_lay hsy10
        obtain ⟨H14, eH14, E⟩ := let_some E
        refine ea_nm eH14 ?_
        have hsH14 : ShM b0 H14 := by rw [eH14]; exact hs13
        refine ea_goto (pc := 63) (tgt := 9) dX12_sumOf_63 rfl ?_
        exact (ea_fewer [0] rfl ((ih dep 1009 0 H14 _ _ E hsH14 d h0 hd).2.1 rfl))
      · have E := (if_pos c15).symm.trans E
        refine ea_iconst (pc := 55) dX12_sumOf_55 (v := 0) rfl ?_
        exact ea_iretO (pc := 56) dX12_sumOf_56 rfl (ea_bn (Or.inl rfl)) E
    refine ⟨?_, ?_⟩
    · intro el
      subst el
      have E := (if_neg (by decide)).symm.trans E
      have E := (if_neg (by decide)).symm.trans E
      have E := (if_neg (by decide)).symm.trans E
      have E := (if_neg (by decide)).symm.trans E
      have E := (if_pos rfl).symm.trans E
      refine ea_aload_n (pc := 0) dX12_product_0 rfl 0 rfl ?_
      obtain ⟨zd10002, E⟩ := gd_some E
      obtain ⟨y10001, Ey10001, E⟩ := bd_some E
      have hsy10001 : ShM b0 y10001.2 := zMG0 b0 f _ _ _ _ _ _ Ey10001 hs
      refine ea_callV (pc := 1) (d' := d - 1) (As := []) (st := []) dX12_product_1 kX12_unit (ea_enter rfl (Nat.le_of_ble_eq_true rfl) ((ih (dep - 1) 3000 0 h _ _ Ey10001 hs (d - 1) h (by omega)).2.2.2.2.2.2.2.2.1 rfl)) (by omega) rfl (Nat.le_of_ble_eq_true rfl) ew_1934 ew_1936 ew_73 (ci := 12) rfl (by decide) (hs.1 0 (by decide)).1 (hs.1 0 (by decide)).2.1 ?_
      refine ea_if_ne (pc := 4) (tgt := 9) dX12_product_4 rfl (fun c10003 => ?_) (fun c10003 => ?_)
      · have E := (if_neg c10003).symm.trans E
        exact ((ih dep 2009 0 (y10001.2) _ _ E hsy10001 d h0 hd).2.2.2.2.2.1 rfl)
      · have E := (if_pos c10003).symm.trans E
        refine ea_iconst (pc := 7) dX12_product_7 (v := 0) rfl ?_
        exact ea_iretO (pc := 8) dX12_product_8 rfl (ea_bn (Or.inl rfl)) E
    refine ⟨?_, ?_⟩
    · intro el
      subst el
      have E := (if_neg (by decide)).symm.trans E
      have E := (if_neg (by decide)).symm.trans E
      have E := (if_neg (by decide)).symm.trans E
      have E := (if_neg (by decide)).symm.trans E
      have E := (if_neg (by decide)).symm.trans E
      have E := (if_pos rfl).symm.trans E
      refine ea_aload_n (pc := 9) dX12_product_9 rfl 0 rfl ?_
      refine ea_getI (pc := 10) dX12_product_10 ec_12 (k := 54) (Nat.le_of_ble_eq_true rfl) rfl (Or.inl ew_1399) (hs.1 0 (by decide)).1 (hs.1 0 (by decide)).2.1 ?_
      refine ea_bipush (pc := 13) dX12_product_13 (v := 42) rfl ?_
      refine ea_icmp_eq (pc := 15) (tgt := 27) dX12_product_15 rfl (fun c10005 => ?_) (fun c10005 => ?_)
      · have E := (if_pos c10005).symm.trans E
        exact ((ih dep 2027 0 h _ _ E hs d h0 hd).2.2.2.2.2.2.1 rfl)
      · have E := (if_neg c10005).symm.trans E
        refine ea_aload_n (pc := 18) dX12_product_18 rfl 0 rfl ?_
        refine ea_getI (pc := 19) dX12_product_19 ec_12 (k := 54) (Nat.le_of_ble_eq_true rfl) rfl (Or.inl ew_1399) (hs.1 0 (by decide)).1 (hs.1 0 (by decide)).2.1 ?_
        refine ea_bipush (pc := 22) dX12_product_22 (v := 47) rfl ?_
        refine ea_icmp_ne (pc := 24) (tgt := 113) dX12_product_24 rfl (fun c10004 => ?_) (fun c10004 => ?_)
        · have E := (if_neg c10004).symm.trans E
          refine ea_iconst (pc := 113) dX12_product_113 (v := 1) rfl ?_
          exact ea_iretO (pc := 114) dX12_product_114 rfl (ea_bn (Or.inr rfl)) E
        · have E := (if_pos c10004).symm.trans E
          exact ((ih dep 2027 0 h _ _ E hs d h0 hd).2.2.2.2.2.2.1 rfl)
    refine ⟨?_, ?_⟩
    · intro el
      subst el
      have E := (if_neg (by decide)).symm.trans E
      have E := (if_neg (by decide)).symm.trans E
      have E := (if_neg (by decide)).symm.trans E
      have E := (if_neg (by decide)).symm.trans E
      have E := (if_neg (by decide)).symm.trans E
      have E := (if_neg (by decide)).symm.trans E
      have E := (if_pos rfl).symm.trans E
      refine ea_aload_n (pc := 27) dX12_product_27 rfl 0 rfl ?_
      refine ea_getI (pc := 28) dX12_product_28 ec_12 (k := 54) (Nat.le_of_ble_eq_true rfl) rfl (Or.inl ew_1399) (hs.1 0 (by decide)).1 (hs.1 0 (by decide)).2.1 ?_
      refine ea_bipush (pc := 31) dX12_product_31 (v := 47) rfl ?_
      refine ea_icmp_ne (pc := 33) (tgt := 40) dX12_product_33 rfl (fun c10006 => ?_) (fun c10006 => ?_)
      · have E := (if_neg c10006).symm.trans E
        refine ea_iconst (pc := 40) dX12_product_40 (v := 0) rfl ?_
        exact ((ih dep 2041 (0 : Int32) h _ _ E hs d h0 hd).2.2.2.2.2.2.2.1 rfl)
      · have E := (if_pos c10006).symm.trans E
        refine ea_iconst (pc := 36) dX12_product_36 (v := 1) rfl ?_
        refine ea_goto (pc := 37) (tgt := 41) dX12_product_37 rfl ?_
        exact ((ih dep 2041 (1 : Int32) h _ _ E hs d h0 hd).2.2.2.2.2.2.2.1 rfl)
    refine ⟨?_, ?_⟩
    · intro el
      subst el
      have E := (if_neg (by decide)).symm.trans E
      have E := (if_neg (by decide)).symm.trans E
      have E := (if_neg (by decide)).symm.trans E
      have E := (if_neg (by decide)).symm.trans E
      have E := (if_neg (by decide)).symm.trans E
      have E := (if_neg (by decide)).symm.trans E
      have E := (if_neg (by decide)).symm.trans E
      have E := (if_pos rfl).symm.trans E
      refine ea_istore_n (pc := 41) (lv' := [(0, vR (some (b0 + 0))), (1, vI sx0)]) dX12_product_41 rfl (Nat.le_of_ble_eq_true rfl) [1, 0] rfl ?_
      refine ea_aload_n (pc := 42) dX12_product_42 rfl 0 rfl ?_
      obtain ⟨z10007, E⟩ := gd_some E
      refine ea_callV (pc := 43) (d' := d - 1) (As := []) (st := []) dX12_product_43 kX12_next0 (sX12_next0 (d := d - 1) (by omega) hs z10007) (by omega) rfl (Nat.le_of_ble_eq_true rfl) ew_1822 ew_1824 ew_63 (ci := 12) rfl (by decide) (hs.1 0 (by decide)).1 (hs.1 0 (by decide)).2.1 ?_
      have hs10008 : ShM b0 (wX12_next0 b0 h) := shX12_next0 hs
      obtain ⟨H10009, eH10009, E⟩ := let_some E
      refine ea_nm eH10009 ?_
      have hsH10009 : ShM b0 H10009 := by rw [eH10009]; exact hs10008
      refine ea_iload_n (pc := 46) dX12_product_46 rfl 1 rfl ?_
      refine ea_if_eq (pc := 47) (tgt := 94) dX12_product_47 rfl (fun c10030 => ?_) (fun c10030 => ?_)
      · have E := (if_pos c10030).symm.trans E
        refine ea_aload_n (pc := 94) dX12_product_94 rfl 0 rfl ?_
        obtain ⟨zd10011, E⟩ := gd_some E
        obtain ⟨y10010, Ey10010, E⟩ := bd_some E
        have hsy10010 : ShM b0 y10010.2 := zMG0 b0 f _ _ _ _ _ _ Ey10010 hsH10009
        refine ea_callV (pc := 95) (d' := d - 1) (As := []) (st := []) dX12_product_95 kX12_unit (ea_enter rfl (Nat.le_of_ble_eq_true rfl) ((ih (dep - 1) 3000 0 H10009 _ _ Ey10010 hsH10009 (d - 1) H10009 (by omega)).2.2.2.2.2.2.2.2.1 rfl)) (by omega) rfl (Nat.le_of_ble_eq_true rfl) ew_1934 ew_1936 ew_73 (ci := 12) rfl (by decide) (hsH10009.1 0 (by decide)).1 (hsH10009.1 0 (by decide)).2.1 ?_
        refine ea_if_ne (pc := 98) (tgt := 103) dX12_product_98 rfl (fun c10015 => ?_) (fun c10015 => ?_)
        · have E := (if_neg c10015).symm.trans E
          refine ea_aload_n (pc := 103) dX12_product_103 rfl 0 rfl ?_
          refine ea_bipush (pc := 104) dX12_product_104 (v := 10) rfl ?_
          refine ea_iconst (pc := 106) dX12_product_106 (v := 0) rfl ?_
          obtain ⟨z10012, E⟩ := gd_some E
          refine ea_callV (pc := 107) (d' := d - 1) (As := [vI 10, vI 0]) (st := []) dX12_product_107 kX12_lay (sX12_lay (d := d - 1) (by omega) hsy10010 z10012) (by omega) rfl (Nat.le_of_ble_eq_true rfl) ew_1946 ew_1948 ew_76 (ci := 12) rfl (by decide) (hsy10010.1 0 (by decide)).1 (hsy10010.1 0 (by decide)).2.1 ?_
          have hs10013 : ShM b0 (wX12_lay b0 (10 : Int32) (0 : Int32) (y10010.2)) := shX12_lay hsy10010
          obtain ⟨H10014, eH10014, E⟩ := let_some E
          refine ea_nm eH10014 ?_
          have hsH10014 : ShM b0 H10014 := by rw [eH10014]; exact hs10013
          refine ea_goto (pc := 110) (tgt := 9) dX12_product_110 rfl ?_
          exact (ea_fewer [0] rfl ((ih dep 2009 0 H10014 _ _ E hsH10014 d h0 hd).2.2.2.2.2.1 rfl))
        · have E := (if_pos c10015).symm.trans E
          refine ea_iconst (pc := 101) dX12_product_101 (v := 0) rfl ?_
          exact ea_iretO (pc := 102) dX12_product_102 rfl (ea_bn (Or.inl rfl)) E
      · have E := (if_neg c10030).symm.trans E
        refine ea_aload_n (pc := 50) dX12_product_50 rfl 0 rfl ?_
        refine ea_getI (pc := 51) dX12_product_51 ec_12 (k := 54) (Nat.le_of_ble_eq_true rfl) rfl (Or.inl ew_1399) (hsH10009.1 0 (by decide)).1 (hsH10009.1 0 (by decide)).2.1 ?_
        refine ea_iconst (pc := 54) dX12_product_54 (v := 2) rfl ?_
        refine ea_icmp_eq (pc := 55) (tgt := 64) dX12_product_55 rfl (fun c10029 => ?_) (fun c10029 => ?_)
        · have E := (if_pos c10029).symm.trans E
          refine ea_aload_n (pc := 64) dX12_product_64 rfl 0 rfl ?_
          refine ea_getI (pc := 65) dX12_product_65 ec_12 (k := 56) (Nat.le_of_ble_eq_true rfl) rfl (Or.inl ew_1401) (hsH10009.1 0 (by decide)).1 (hsH10009.1 0 (by decide)).2.1 ?_
          refine ea_if_ne (pc := 68) (tgt := 77) dX12_product_68 rfl (fun c10025 => ?_) (fun c10025 => ?_)
          · have E := (if_neg c10025).symm.trans E
            refine ea_aload_n (pc := 77) dX12_product_77 rfl 0 rfl ?_
            refine ea_bipush (pc := 78) dX12_product_78 (v := 11) rfl ?_
            refine ea_aload_n (pc := 80) dX12_product_80 rfl 0 rfl ?_
            refine ea_getI (pc := 81) dX12_product_81 ec_12 (k := 56) (Nat.le_of_ble_eq_true rfl) rfl (Or.inl ew_1401) (hsH10009.1 0 (by decide)).1 (hsH10009.1 0 (by decide)).2.1 ?_
            obtain ⟨z10016, E⟩ := gd_some E
            refine ea_callV (pc := 84) (d' := d - 1) (As := [vI 11, vI (ea_i H10009 (b0 + 0) 56)]) (st := []) dX12_product_84 kX12_lay (sX12_lay (d := d - 1) (by omega) hsH10009 z10016) (by omega) rfl (Nat.le_of_ble_eq_true rfl) ew_1946 ew_1948 ew_76 (ci := 12) rfl (by decide) (hsH10009.1 0 (by decide)).1 (hsH10009.1 0 (by decide)).2.1 ?_
            have hs10017 : ShM b0 (wX12_lay b0 (11 : Int32) ((ea_i H10009 (b0 + 0) 56) : Int32) H10009) := shX12_lay hsH10009
            obtain ⟨H10018, eH10018, E⟩ := let_some E
            refine ea_nm eH10018 ?_
            have hsH10018 : ShM b0 H10018 := by rw [eH10018]; exact hs10017
            refine ea_aload_n (pc := 87) dX12_product_87 rfl 0 rfl ?_
            obtain ⟨z10019, E⟩ := gd_some E
            refine ea_callV (pc := 88) (d' := d - 1) (As := []) (st := []) dX12_product_88 kX12_next0 (sX12_next0 (d := d - 1) (by omega) hsH10018 z10019) (by omega) rfl (Nat.le_of_ble_eq_true rfl) ew_1822 ew_1824 ew_63 (ci := 12) rfl (by decide) (hsH10018.1 0 (by decide)).1 (hsH10018.1 0 (by decide)).2.1 ?_
            have hs10020 : ShM b0 (wX12_next0 b0 H10018) := shX12_next0 hsH10018
            obtain ⟨H10021, eH10021, E⟩ := let_some E
            refine ea_nm eH10021 ?_
            have hsH10021 : ShM b0 H10021 := by rw [eH10021]; exact hs10020
            refine ea_goto (pc := 91) (tgt := 110) dX12_product_91 rfl ?_
            refine ea_goto (pc := 110) (tgt := 9) dX12_product_110 rfl ?_
            exact (ea_fewer [0] rfl ((ih dep 2009 0 H10021 _ _ E hsH10021 d h0 hd).2.2.2.2.2.1 rfl))
          · have E := (if_pos c10025).symm.trans E
            refine ea_aload_n (pc := 71) dX12_product_71 rfl 0 rfl ?_
            refine ea_iconst (pc := 72) dX12_product_72 (v := 2) rfl ?_
            refine ea_callV (pc := 73) (d' := d - 1) (As := [vI 2]) (st := []) dX12_product_73 kX12_bad (sX12_bad (d := d - 1) (by omega) hsH10009) (by omega) rfl (Nat.le_of_ble_eq_true rfl) ew_1914 ew_1916 ew_68 (ci := 12) rfl (by decide) (hsH10009.1 0 (by decide)).1 (hsH10009.1 0 (by decide)).2.1 ?_
            have hs10023 : ShM b0 (wX12_bad b0 (2 : Int32) H10009) := shX12_bad hsH10009
            obtain ⟨H10024, eH10024, E⟩ := let_some E
            refine ea_nm eH10024 ?_
            have hsH10024 : ShM b0 H10024 := by rw [eH10024]; exact hs10023
            exact ea_iretO (pc := 76) dX12_product_76 rfl (ea_bn (bo_vX12_bad _ _ _)) E
        · have E := (if_neg c10029).symm.trans E
          refine ea_aload_n (pc := 58) dX12_product_58 rfl 0 rfl ?_
          refine ea_iconst (pc := 59) dX12_product_59 (v := 1) rfl ?_
          refine ea_callV (pc := 60) (d' := d - 1) (As := [vI 1]) (st := []) dX12_product_60 kX12_bad (sX12_bad (d := d - 1) (by omega) hsH10009) (by omega) rfl (Nat.le_of_ble_eq_true rfl) ew_1914 ew_1916 ew_68 (ci := 12) rfl (by decide) (hsH10009.1 0 (by decide)).1 (hsH10009.1 0 (by decide)).2.1 ?_
          have hs10027 : ShM b0 (wX12_bad b0 (1 : Int32) H10009) := shX12_bad hsH10009
          obtain ⟨H10028, eH10028, E⟩ := let_some E
          refine ea_nm eH10028 ?_
          have hsH10028 : ShM b0 H10028 := by rw [eH10028]; exact hs10027
          exact ea_iretO (pc := 63) dX12_product_63 rfl (ea_bn (bo_vX12_bad _ _ _)) E
    refine ⟨?_, ?_⟩
    · intro el
      subst el
      have E := (if_neg (by decide)).symm.trans E
      have E := (if_neg (by decide)).symm.trans E
      have E := (if_neg (by decide)).symm.trans E
      have E := (if_neg (by decide)).symm.trans E
      have E := (if_neg (by decide)).symm.trans E
      have E := (if_neg (by decide)).symm.trans E
      have E := (if_neg (by decide)).symm.trans E
      have E := (if_neg (by decide)).symm.trans E
      have E := (if_pos rfl).symm.trans E
      refine ea_aload_n (pc := 0) dX12_unit_0 rfl 0 rfl ?_
      refine ea_getI (pc := 1) dX12_unit_1 ec_12 (k := 54) (Nat.le_of_ble_eq_true rfl) rfl (Or.inl ew_1399) (hs.1 0 (by decide)).1 (hs.1 0 (by decide)).2.1 ?_
      refine ea_bipush (pc := 4) dX12_unit_4 (v := 40) rfl ?_
      refine ea_icmp_ne (pc := 6) (tgt := 46) dX12_unit_6 rfl (fun c20019 => ?_) (fun c20019 => ?_)
      · have E := (if_neg c20019).symm.trans E
        refine ea_aload_n (pc := 46) dX12_unit_46 rfl 0 rfl ?_
        refine ea_getI (pc := 47) dX12_unit_47 ec_12 (k := 54) (Nat.le_of_ble_eq_true rfl) rfl (Or.inl ew_1399) (hs.1 0 (by decide)).1 (hs.1 0 (by decide)).2.1 ?_
        refine ea_iconst (pc := 50) dX12_unit_50 (v := 2) rfl ?_
        refine ea_icmp_eq (pc := 51) (tgt := 70) dX12_unit_51 rfl (fun c20005 => ?_) (fun c20005 => ?_)
        · have E := (if_pos c20005).symm.trans E
          exact ((ih dep 3070 0 h _ _ E hs d h0 hd).2.2.2.2.2.2.2.2.2 rfl)
        · have E := (if_neg c20005).symm.trans E
          refine ea_aload_n (pc := 54) dX12_unit_54 rfl 0 rfl ?_
          refine ea_getI (pc := 55) dX12_unit_55 ec_12 (k := 54) (Nat.le_of_ble_eq_true rfl) rfl (Or.inl ew_1399) (hs.1 0 (by decide)).1 (hs.1 0 (by decide)).2.1 ?_
          refine ea_sipush (pc := 58) dX12_unit_58 (v := 201) rfl ?_
          refine ea_icmp_ge (pc := 61) (tgt := 70) dX12_unit_61 rfl (fun c20004 => ?_) (fun c20004 => ?_)
          · have E := (if_pos c20004).symm.trans E
            exact ((ih dep 3070 0 h _ _ E hs d h0 hd).2.2.2.2.2.2.2.2.2 rfl)
          · have E := (if_neg c20004).symm.trans E
            refine ea_aload_n (pc := 64) dX12_unit_64 rfl 0 rfl ?_
            refine ea_iconst (pc := 65) dX12_unit_65 (v := 1) rfl ?_
            refine ea_callV (pc := 66) (d' := d - 1) (As := [vI 1]) (st := []) dX12_unit_66 kX12_bad (sX12_bad (d := d - 1) (by omega) hs) (by omega) rfl (Nat.le_of_ble_eq_true rfl) ew_1914 ew_1916 ew_68 (ci := 12) rfl (by decide) (hs.1 0 (by decide)).1 (hs.1 0 (by decide)).2.1 ?_
            have hs20002 : ShM b0 (wX12_bad b0 (1 : Int32) h) := shX12_bad hs
            obtain ⟨H20003, eH20003, E⟩ := let_some E
            refine ea_nm eH20003 ?_
            have hsH20003 : ShM b0 H20003 := by rw [eH20003]; exact hs20002
            exact ea_iretO (pc := 69) dX12_unit_69 rfl (ea_bn (bo_vX12_bad _ _ _)) E
      · have E := (if_pos c20019).symm.trans E
        refine ea_aload_n (pc := 9) dX12_unit_9 rfl 0 rfl ?_
        obtain ⟨z20006, E⟩ := gd_some E
        refine ea_callV (pc := 10) (d' := d - 1) (As := []) (st := []) dX12_unit_10 kX12_opens (sX12_opens (d := d - 1) (by omega) hs z20006) (by omega) rfl (Nat.le_of_ble_eq_true rfl) ew_1938 ew_1940 ew_74 (ci := 12) rfl (by decide) (hs.1 0 (by decide)).1 (hs.1 0 (by decide)).2.1 ?_
        have hs20007 : ShM b0 (wX12_opens b0 h) := shX12_opens hs
        obtain ⟨H20008, eH20008, E⟩ := let_some E
        refine ea_nm eH20008 ?_
        have hsH20008 : ShM b0 H20008 := by rw [eH20008]; exact hs20007
        refine ea_if_eq (pc := 13) (tgt := 32) dX12_unit_13 rfl (fun c20018 => ?_) (fun c20018 => ?_)
        · have E := (if_pos c20018).symm.trans E
          refine ea_iconst (pc := 32) dX12_unit_32 (v := 0) rfl ?_
          exact ea_iretO (pc := 33) dX12_unit_33 rfl (ea_bn (Or.inl rfl)) E
        · have E := (if_neg c20018).symm.trans E
          refine ea_aload_n (pc := 16) dX12_unit_16 rfl 0 rfl ?_
          obtain ⟨zd20010, E⟩ := gd_some E
          obtain ⟨y20009, Ey20009, E⟩ := bd_some E
          have hsy20009 : ShM b0 y20009.2 := zMG0 b0 f _ _ _ _ _ _ Ey20009 hsH20008
          refine ea_callV (pc := 17) (d' := d - 1) (As := []) (st := []) dX12_unit_17 kX12_sumOf (ea_enter rfl (Nat.le_of_ble_eq_true rfl) ((ih (dep - 1) 1000 0 H20008 _ _ Ey20009 hsH20008 (d - 1) H20008 (by omega)).1 rfl)) (by omega) rfl (Nat.le_of_ble_eq_true rfl) ew_1926 ew_1928 ew_71 (ci := 12) rfl (by decide) (hsH20008.1 0 (by decide)).1 (hsH20008.1 0 (by decide)).2.1 ?_
          refine ea_if_eq (pc := 20) (tgt := 32) dX12_unit_20 rfl (fun c20017 => ?_) (fun c20017 => ?_)
          · have E := (if_pos c20017).symm.trans E
            refine ea_iconst (pc := 32) dX12_unit_32 (v := 0) rfl ?_
            exact ea_iretO (pc := 33) dX12_unit_33 rfl (ea_bn (Or.inl rfl)) E
          · have E := (if_neg c20017).symm.trans E
            refine ea_aload_n (pc := 23) dX12_unit_23 rfl 0 rfl ?_
            refine ea_bipush (pc := 24) dX12_unit_24 (v := 41) rfl ?_
            obtain ⟨z20011, E⟩ := gd_some E
            refine ea_callV (pc := 26) (d' := d - 1) (As := [vI 41]) (st := []) dX12_unit_26 kX12_need (sX12_need (d := d - 1) (by omega) hsy20009 z20011) (by omega) rfl (Nat.le_of_ble_eq_true rfl) ew_1942 ew_1944 ew_75 (ci := 12) rfl (by decide) (hsy20009.1 0 (by decide)).1 (hsy20009.1 0 (by decide)).2.1 ?_
            have hs20012 : ShM b0 (wX12_need b0 (41 : Int32) (y20009.2)) := shX12_need hsy20009
            obtain ⟨H20013, eH20013, E⟩ := let_some E
            refine ea_nm eH20013 ?_
            have hsH20013 : ShM b0 H20013 := by rw [eH20013]; exact hs20012
            refine ea_if_ne (pc := 29) (tgt := 34) dX12_unit_29 rfl (fun c20016 => ?_) (fun c20016 => ?_)
            · have E := (if_neg c20016).symm.trans E
              refine ea_aload_n (pc := 34) dX12_unit_34 rfl 0 rfl ?_
              refine ea_dup (pc := 35) dX12_unit_35 rfl ?_
              refine ea_getI (pc := 36) dX12_unit_36 ec_12 (k := 60) (Nat.le_of_ble_eq_true rfl) rfl (Or.inl ew_1405) (hsH20013.1 0 (by decide)).1 (hsH20013.1 0 (by decide)).2.1 ?_
              refine ea_iconst (pc := 39) dX12_unit_39 (v := 1) rfl ?_
              refine ea_isub (pc := 40) dX12_unit_40 ?_
              refine ea_putI (pc := 41) dX12_unit_41 ec_12 (k := 60) (Nat.le_of_ble_eq_true rfl) rfl (Or.inl ⟨rfl, Or.inl ew_1405⟩) rfl rfl (hsH20013.1 0 (by decide)).1 (hsH20013.1 0 (by decide)).2.1 ?_
              have hs20014 : ShM b0 (ea_wi H20013 (b0 + 0) 60 ((ea_i H20013 (b0 + 0) 60) - (1 : Int32))) := ShM_wi hsH20013
              obtain ⟨H20015, eH20015, E⟩ := let_some E
              refine ea_nm eH20015 ?_
              have hsH20015 : ShM b0 H20015 := by rw [eH20015]; exact hs20014
              refine ea_iconst (pc := 44) dX12_unit_44 (v := 1) rfl ?_
              exact ea_iretO (pc := 45) dX12_unit_45 rfl (ea_bn (Or.inr rfl)) E
            · have E := (if_pos c20016).symm.trans E
              refine ea_iconst (pc := 32) dX12_unit_32 (v := 0) rfl ?_
              exact ea_iretO (pc := 33) dX12_unit_33 rfl (ea_bn (Or.inl rfl)) E
    intro el
    subst el
    have E := (if_neg (by decide)).symm.trans E
    have E := (if_neg (by decide)).symm.trans E
    have E := (if_neg (by decide)).symm.trans E
    have E := (if_neg (by decide)).symm.trans E
    have E := (if_neg (by decide)).symm.trans E
    have E := (if_neg (by decide)).symm.trans E
    have E := (if_neg (by decide)).symm.trans E
    have E := (if_neg (by decide)).symm.trans E
    have E := (if_neg (by decide)).symm.trans E
    have E := (if_pos rfl).symm.trans E
    refine ea_aload_n (pc := 70) dX12_unit_70 rfl 0 rfl ?_
    refine ea_aload_n (pc := 71) dX12_unit_71 rfl 0 rfl ?_
    refine ea_getI (pc := 72) dX12_unit_72 ec_12 (k := 54) (Nat.le_of_ble_eq_true rfl) rfl (Or.inl ew_1399) (hs.1 0 (by decide)).1 (hs.1 0 (by decide)).2.1 ?_
    refine ea_iconst (pc := 75) dX12_unit_75 (v := 2) rfl ?_
    refine ea_icmp_ne (pc := 76) (tgt := 83) dX12_unit_76 rfl (fun c20032 => ?_) (fun c20032 => ?_)
    · have E := (if_neg c20032).symm.trans E
      refine ea_iconst (pc := 83) dX12_unit_83 (v := 1) rfl ?_
      refine ea_aload_n (pc := 84) dX12_unit_84 rfl 0 rfl ?_
      refine ea_getI (pc := 85) dX12_unit_85 ec_12 (k := 54) (Nat.le_of_ble_eq_true rfl) rfl (Or.inl ew_1399) (hs.1 0 (by decide)).1 (hs.1 0 (by decide)).2.1 ?_
      refine ea_iadd (pc := 88) dX12_unit_88 ?_
      refine ea_sipush (pc := 89) dX12_unit_89 (v := 201) rfl ?_
      refine ea_isub (pc := 92) dX12_unit_92 ?_
      refine ea_aload_n (pc := 93) dX12_unit_93 rfl 0 rfl ?_
      refine ea_getI (pc := 94) dX12_unit_94 ec_12 (k := 56) (Nat.le_of_ble_eq_true rfl) rfl (Or.inl ew_1401) (hs.1 0 (by decide)).1 (hs.1 0 (by decide)).2.1 ?_
      obtain ⟨z20020, E⟩ := gd_some E
      refine ea_callV (pc := 97) (d' := d - 1) (As := [vI (((1 : Int32) + (ea_i h (b0 + 0) 54)) - (201 : Int32)), vI (ea_i h (b0 + 0) 56)]) (st := []) dX12_unit_97 kX12_lay (sX12_lay (d := d - 1) (by omega) hs z20020) (by omega) rfl (Nat.le_of_ble_eq_true rfl) ew_1946 ew_1948 ew_76 (ci := 12) rfl (by decide) (hs.1 0 (by decide)).1 (hs.1 0 (by decide)).2.1 ?_
      have hs20021 : ShM b0 (wX12_lay b0 ((((1 : Int32) + (ea_i h (b0 + 0) 54)) - (201 : Int32)) : Int32) ((ea_i h (b0 + 0) 56) : Int32) h) := shX12_lay hs
      obtain ⟨H20022, eH20022, E⟩ := let_some E
      refine ea_nm eH20022 ?_
      have hsH20022 : ShM b0 H20022 := by rw [eH20022]; exact hs20021
      refine ea_aload_n (pc := 100) dX12_unit_100 rfl 0 rfl ?_
      obtain ⟨z20023, E⟩ := gd_some E
      refine ea_callV (pc := 101) (d' := d - 1) (As := []) (st := []) dX12_unit_101 kX12_next0 (sX12_next0 (d := d - 1) (by omega) hsH20022 z20023) (by omega) rfl (Nat.le_of_ble_eq_true rfl) ew_1822 ew_1824 ew_63 (ci := 12) rfl (by decide) (hsH20022.1 0 (by decide)).1 (hsH20022.1 0 (by decide)).2.1 ?_
      have hs20024 : ShM b0 (wX12_next0 b0 H20022) := shX12_next0 hsH20022
      obtain ⟨H20025, eH20025, E⟩ := let_some E
      refine ea_nm eH20025 ?_
      have hsH20025 : ShM b0 H20025 := by rw [eH20025]; exact hs20024
      refine ea_iconst (pc := 104) dX12_unit_104 (v := 1) rfl ?_
      exact ea_iretO (pc := 105) dX12_unit_105 rfl (ea_bn (Or.inr rfl)) E
    · have E := (if_pos c20032).symm.trans E
      refine ea_iconst (pc := 79) dX12_unit_79 (v := 0) rfl ?_
      refine ea_goto (pc := 80) (tgt := 93) dX12_unit_80 rfl ?_
      refine ea_aload_n (pc := 93) dX12_unit_93 rfl 0 rfl ?_
      refine ea_getI (pc := 94) dX12_unit_94 ec_12 (k := 56) (Nat.le_of_ble_eq_true rfl) rfl (Or.inl ew_1401) (hs.1 0 (by decide)).1 (hs.1 0 (by decide)).2.1 ?_
      obtain ⟨z20026, E⟩ := gd_some E
      refine ea_callV (pc := 97) (d' := d - 1) (As := [vI 0, vI (ea_i h (b0 + 0) 56)]) (st := []) dX12_unit_97 kX12_lay (sX12_lay (d := d - 1) (by omega) hs z20026) (by omega) rfl (Nat.le_of_ble_eq_true rfl) ew_1946 ew_1948 ew_76 (ci := 12) rfl (by decide) (hs.1 0 (by decide)).1 (hs.1 0 (by decide)).2.1 ?_
      have hs20027 : ShM b0 (wX12_lay b0 (0 : Int32) ((ea_i h (b0 + 0) 56) : Int32) h) := shX12_lay hs
      obtain ⟨H20028, eH20028, E⟩ := let_some E
      refine ea_nm eH20028 ?_
      have hsH20028 : ShM b0 H20028 := by rw [eH20028]; exact hs20027
      refine ea_aload_n (pc := 100) dX12_unit_100 rfl 0 rfl ?_
      obtain ⟨z20029, E⟩ := gd_some E
      refine ea_callV (pc := 101) (d' := d - 1) (As := []) (st := []) dX12_unit_101 kX12_next0 (sX12_next0 (d := d - 1) (by omega) hsH20028 z20029) (by omega) rfl (Nat.le_of_ble_eq_true rfl) ew_1822 ew_1824 ew_63 (ci := 12) rfl (by decide) (hsH20028.1 0 (by decide)).1 (hsH20028.1 0 (by decide)).2.1 ?_
      have hs20030 : ShM b0 (wX12_next0 b0 H20028) := shX12_next0 hsH20028
      obtain ⟨H20031, eH20031, E⟩ := let_some E
      refine ea_nm eH20031 ?_
      have hsH20031 : ShM b0 H20031 := by rw [eH20031]; exact hs20030
      refine ea_iconst (pc := 104) dX12_unit_104 (v := 1) rfl ?_
      exact ea_iretO (pc := 105) dX12_unit_105 rfl (ea_bn (Or.inr rfl)) E
noncomputable def qX12_sumOf (b0 : Nat) (h : ea_H) : Option (Int32 × ea_H) := gMG0 b0 1000000000 40 1000 0 h
def okX12_sumOf (b0 : Nat) (h : ea_H) : Prop := ∃ x, qX12_sumOf b0 h = some x
noncomputable def vX12_sumOf (b0 : Nat) (h : ea_H) : Int32 := ((qX12_sumOf b0 h).getD (0, h)).1
noncomputable def wX12_sumOf (b0 : Nat) (h : ea_H) : ea_H := ((qX12_sumOf b0 h).getD (0, h)).2
theorem sX12_sumOf {d : Nat} {b0 : Nat} {h : ea_H} (hd : 46 ≤ d) (hs : ShM b0 h) (K : okX12_sumOf b0 h) : ea_Met mX12_sumOf d [vR (some (b0 + 0))] h (some (vI (vX12_sumOf b0 h))) (wX12_sumOf b0 h) := by
  obtain ⟨⟨x, y⟩, K⟩ := K
  unfold wX12_sumOf vX12_sumOf
  rw [K]
  unfold qX12_sumOf at K
  exact ea_enter rfl (Nat.le_of_ble_eq_true rfl) ((tMG0 b0 1000000000 40 1000 0 h x y K hs d h hd).1 rfl)
theorem shX12_sumOf {b0 : Nat} {h : ea_H} (hs : ShM b0 h) : ShM b0 (wX12_sumOf b0 h) := by
  unfold wX12_sumOf
  cases K : qX12_sumOf b0 h with
  | none => exact hs
  | some x => obtain ⟨x, y⟩ := x; unfold qX12_sumOf at K; exact zMG0 b0 _ _ _ _ _ _ _ K hs
noncomputable def qX12_product (b0 : Nat) (h : ea_H) : Option (Int32 × ea_H) := gMG0 b0 1000000000 40 2000 0 h
def okX12_product (b0 : Nat) (h : ea_H) : Prop := ∃ x, qX12_product b0 h = some x
noncomputable def vX12_product (b0 : Nat) (h : ea_H) : Int32 := ((qX12_product b0 h).getD (0, h)).1
noncomputable def wX12_product (b0 : Nat) (h : ea_H) : ea_H := ((qX12_product b0 h).getD (0, h)).2
theorem sX12_product {d : Nat} {b0 : Nat} {h : ea_H} (hd : 46 ≤ d) (hs : ShM b0 h) (K : okX12_product b0 h) : ea_Met mX12_product d [vR (some (b0 + 0))] h (some (vI (vX12_product b0 h))) (wX12_product b0 h) := by
  obtain ⟨⟨x, y⟩, K⟩ := K
  unfold wX12_product vX12_product
  rw [K]
  unfold qX12_product at K
  exact ea_enter rfl (Nat.le_of_ble_eq_true rfl) ((tMG0 b0 1000000000 40 2000 0 h x y K hs d h hd).2.2.2.2.1 rfl)
