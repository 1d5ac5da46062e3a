/-! the class, 1 -/
theorem zX1_inState_at32 {b0 : Nat} : ∀ (f lbl : Nat) (x1 : Int32) (x2 : Int32) (x3 : Int32) (h : ea_H) (r : Int32) (h' : ea_H), gX1_inState_at32 b0 f lbl x1 x2 x3 h = some (r, h') → ShC b0 h → ShC b0 h' := by
  intro f
  induction f with
  | zero => intro lbl x1 x2 x3 h r h' E; cases E
  | succ f ih =>
    intro lbl x1 x2 x3 h r h' E hs
    unfold gX1_inState_at32 at E
    by_cases el0 : lbl = 0
    · have E := (if_pos el0).symm.trans E
      exact ih 4 (x1 : Int32) (0 : Int32) (0 : Int32) h _ _ E hs
    have E := (if_neg el0).symm.trans E
    by_cases el1 : lbl = 4
    · have E := (if_pos el1).symm.trans E
      by_cases c3 : (ea_i h (b0 + 32) 0) ≤ x3
      · have E := (if_pos c3).symm.trans E
        cases E
        exact hs
      have E := (if_neg c3).symm.trans E
      obtain ⟨z1, E⟩ := gd_some E
      by_cases c2 : (ea_i h (b0 + 33) (Int32.toNatClampNeg x3)) = x1
      · have E := (if_pos c2).symm.trans E
        exact ih 4 (x1 : Int32) ((x2 + (1 : Int32)) : Int32) ((x3 + (1 : Int32)) : Int32) h _ _ E hs
      have E := (if_neg c2).symm.trans E
      exact ih 4 (x1 : Int32) (x2 : Int32) ((x3 + (1 : Int32)) : Int32) h _ _ E hs
    have E := (if_neg el1).symm.trans E
    cases E
theorem shX1_inState_at32 {b0 : Nat} {x1 : Int32} {h : ea_H} (hs : ShC b0 h) : ShC b0 (wX1_inState_at32 b0 x1 h) := by
  unfold wX1_inState_at32
  cases K : qX1_inState_at32 b0 x1 h with
  | none => exact hs
  | some x => obtain ⟨x, y⟩ := x; unfold qX1_inState_at32 at K; exact zX1_inState_at32 _ _ _ _ _ _ _ _ K hs
noncomputable def gX1_inState_at42 (b0 : Nat) : Nat → Nat → Int32 → Int32 → Int32 → ea_H → Option (Int32 × ea_H)
  | 0, _, _, _, _, _ => none
  | f + 1, lbl, x1, x2, x3, h =>
    if lbl = 0 then (gX1_inState_at42 b0 f 4 (x1 : Int32) (0 : Int32) (0 : Int32) h) else
    if lbl = 4 then (if (ea_i h (b0 + 42) 0) ≤ x3 then (some (x2, h)) else (gd (vp_in x3 120) (if (ea_i h (b0 + 43) (Int32.toNatClampNeg x3)) = x1 then (gX1_inState_at42 b0 f 4 (x1 : Int32) ((x2 + (1 : Int32)) : Int32) ((x3 + (1 : Int32)) : Int32) h) else (gX1_inState_at42 b0 f 4 (x1 : Int32) (x2 : Int32) ((x3 + (1 : Int32)) : Int32) h)))) else none
theorem tX1_inState_at42 {d : Nat} {b0 : Nat} {h0 : ea_H} (hd : 1 ≤ d) : ∀ (f lbl : Nat) (x1 : Int32) (x2 : Int32) (x3 : Int32) (h : ea_H) (r : Int32) (h' : ea_H), gX1_inState_at42 b0 f lbl x1 x2 x3 h = some (r, h') → ShC b0 h → (lbl = 0 → ea_W mX1_inState d h0 (some (vI r)) h' 0 [(0, vR (some (b0 + 42))), (1, vI x1)] [] h) ∧ (lbl = 4 → ea_W mX1_inState d h0 (some (vI r)) h' 4 [(0, vR (some (b0 + 42))), (1, vI x1), (2, vI x2), (3, vI x3)] [] h) := by
  intro f
  induction f with
  | zero => intro lbl x1 x2 x3 h r h' E; cases E
  | succ f ih =>
    intro lbl x1 x2 x3 h r h' E hs
    unfold gX1_inState_at42 at E
    refine ⟨?_, ?_⟩
    · intro el
      subst el
      have E := (if_pos rfl).symm.trans E
      refine ea_iconst (pc := 0) dX1_inState_0 (v := 0) rfl ?_
      refine ea_istore_n (pc := 1) (lv' := [(0, vR (some (b0 + 42))), (1, vI x1), (2, vI 0)]) dX1_inState_1 rfl (Nat.le_of_ble_eq_true rfl) [1, 2, 0] rfl ?_
      refine ea_iconst (pc := 2) dX1_inState_2 (v := 0) rfl ?_
      refine ea_istore_n (pc := 3) (lv' := [(0, vR (some (b0 + 42))), (1, vI x1), (2, vI 0), (3, vI 0)]) dX1_inState_3 rfl (Nat.le_of_ble_eq_true rfl) [1, 2, 3, 0] rfl ?_
      exact ((ih 4 (x1 : Int32) (0 : Int32) (0 : Int32) h _ _ E hs).2 rfl)
    intro el
    subst el
    have E := (if_neg (by decide)).symm.trans E
    have E := (if_pos rfl).symm.trans E
    refine ea_iload_n (pc := 4) dX1_inState_4 rfl 3 rfl ?_
    refine ea_aload_n (pc := 5) dX1_inState_5 rfl 0 rfl ?_
    refine ea_getI (pc := 6) dX1_inState_6 ec_1 (k := 0) (Nat.le_of_ble_eq_true rfl) rfl (Or.inl ew_359) (hs.1 42 (by decide)).1 (hs.1 42 (by decide)).2.1 ?_
    refine ea_icmp_ge (pc := 9) (tgt := 31) dX1_inState_9 rfl (fun c3 => ?_) (fun c3 => ?_)
    · have E := (if_pos c3).symm.trans E
      refine ea_iload_n (pc := 31) dX1_inState_31 rfl 2 rfl ?_
      cases E
      exact ea_ireturn (pc := 32) dX1_inState_32 rfl rfl
    · have E := (if_neg c3).symm.trans E
      refine ea_aload_n (pc := 12) dX1_inState_12 rfl 0 rfl ?_
      refine ea_getR (pc := 13) dX1_inState_13 ec_1 (k := 1) (Nat.le_of_ble_eq_true rfl) rfl (Or.inl ew_361) (hs.1 42 (by decide)).1 (hs.1 42 (by decide)).2.1 (hs.2 42 1 rfl) ?_
      refine ea_iload_n (pc := 16) dX1_inState_16 rfl 3 rfl ?_
      obtain ⟨z1, E⟩ := gd_some E
      refine ea_iald (pc := 17) dX1_inState_17 (hs.1 43 (by decide)).1 (hs.1 43 (by decide)).2.1 (ea_vpl (hs.1 43 (by decide)).2.2 z1) ?_
      refine ea_iload_n (pc := 18) dX1_inState_18 rfl 1 rfl ?_
      refine ea_icmp_ne (pc := 19) (tgt := 25) dX1_inState_19 rfl (fun c2 => ?_) (fun c2 => ?_)
      · have E := (if_neg c2).symm.trans E
        refine ea_iinc (pc := 25) (v := 1) (lv' := [(0, vR (some (b0 + 42))), (1, vI x1), (2, vI x2), (3, vI (x3 + (1 : Int32)))]) dX1_inState_25 3 rfl rfl (Nat.le_of_ble_eq_true rfl) [1, 2, 3, 0] rfl ?_
        refine ea_goto (pc := 28) (tgt := 4) dX1_inState_28 rfl ?_
        exact ((ih 4 (x1 : Int32) (x2 : Int32) ((x3 + (1 : Int32)) : Int32) h _ _ E hs).2 rfl)
      · have E := (if_pos c2).symm.trans E
        refine ea_iinc (pc := 22) (v := 1) (lv' := [(0, vR (some (b0 + 42))), (1, vI x1), (2, vI (x2 + (1 : Int32))), (3, vI x3)]) dX1_inState_22 2 rfl rfl (Nat.le_of_ble_eq_true rfl) [1, 2, 0, 3] rfl ?_
        refine ea_iinc (pc := 25) (v := 1) (lv' := [(0, vR (some (b0 + 42))), (1, vI x1), (2, vI (x2 + (1 : Int32))), (3, vI (x3 + (1 : Int32)))]) dX1_inState_25 3 rfl rfl (Nat.le_of_ble_eq_true rfl) [1, 2, 3, 0] rfl ?_
        refine ea_goto (pc := 28) (tgt := 4) dX1_inState_28 rfl ?_
        exact ((ih 4 (x1 : Int32) ((x2 + (1 : Int32)) : Int32) ((x3 + (1 : Int32)) : Int32) h _ _ E hs).2 rfl)
noncomputable def qX1_inState_at42 (b0 : Nat) (x1 : Int32) (h : ea_H) : Option (Int32 × ea_H) := gX1_inState_at42 b0 1000000000 0 x1 0 0 h
def okX1_inState_at42 (b0 : Nat) (x1 : Int32) (h : ea_H) : Prop := ∃ x, qX1_inState_at42 b0 x1 h = some x
noncomputable def vX1_inState_at42 (b0 : Nat) (x1 : Int32) (h : ea_H) : Int32 := ((qX1_inState_at42 b0 x1 h).getD (0, h)).1
noncomputable def wX1_inState_at42 (b0 : Nat) (x1 : Int32) (h : ea_H) : ea_H := ((qX1_inState_at42 b0 x1 h).getD (0, h)).2
theorem sX1_inState_at42 {d : Nat} {b0 : Nat} {x1 : Int32} {h : ea_H} (hd : 1 ≤ d) (hs : ShC b0 h) (K : okX1_inState_at42 b0 x1 h) : ea_Met mX1_inState d [vR (some (b0 + 42)), vI x1] h (some (vI (vX1_inState_at42 b0 x1 h))) (wX1_inState_at42 b0 x1 h) := by
  obtain ⟨⟨x, y⟩, K⟩ := K
  unfold wX1_inState_at42 vX1_inState_at42
  rw [K]
  unfold qX1_inState_at42 at K
  exact ea_enter rfl (Nat.le_of_ble_eq_true rfl) ((tX1_inState_at42 hd 1000000000 0 x1 0 0 h x y K hs).1 rfl)
theorem zX1_inState_at42 {b0 : Nat} : ∀ (f lbl : Nat) (x1 : Int32) (x2 : Int32) (x3 : Int32) (h : ea_H) (r : Int32) (h' : ea_H), gX1_inState_at42 b0 f lbl x1 x2 x3 h = some (r, h') → ShC b0 h → ShC b0 h' := by
  intro f
  induction f with
  | zero => intro lbl x1 x2 x3 h r h' E; cases E
  | succ f ih =>
    intro lbl x1 x2 x3 h r h' E hs
    unfold gX1_inState_at42 at E
    by_cases el0 : lbl = 0
    · have E := (if_pos el0).symm.trans E
      exact ih 4 (x1 : Int32) (0 : Int32) (0 : Int32) h _ _ E hs
    have E := (if_neg el0).symm.trans E
    by_cases el1 : lbl = 4
    · have E := (if_pos el1).symm.trans E
      by_cases c3 : (ea_i h (b0 + 42) 0) ≤ x3
      · have E := (if_pos c3).symm.trans E
        cases E
        exact hs
      have E := (if_neg c3).symm.trans E
      obtain ⟨z1, E⟩ := gd_some E
      by_cases c2 : (ea_i h (b0 + 43) (Int32.toNatClampNeg x3)) = x1
      · have E := (if_pos c2).symm.trans E
        exact ih 4 (x1 : Int32) ((x2 + (1 : Int32)) : Int32) ((x3 + (1 : Int32)) : Int32) h _ _ E hs
      have E := (if_neg c2).symm.trans E
      exact ih 4 (x1 : Int32) (x2 : Int32) ((x3 + (1 : Int32)) : Int32) h _ _ E hs
    have E := (if_neg el1).symm.trans E
    cases E
theorem shX1_inState_at42 {b0 : Nat} {x1 : Int32} {h : ea_H} (hs : ShC b0 h) : ShC b0 (wX1_inState_at42 b0 x1 h) := by
  unfold wX1_inState_at42
  cases K : qX1_inState_at42 b0 x1 h with
  | none => exact hs
  | some x => obtain ⟨x, y⟩ := x; unfold qX1_inState_at42 at K; exact zX1_inState_at42 _ _ _ _ _ _ _ _ K hs
noncomputable def gX1_aboardOf_at32 (b0 : Nat) : Nat → Nat → Int32 → Int32 → Int32 → Int32 → ea_H → Option (Int32 × ea_H)
  | 0, _, _, _, _, _, _ => none
  | f + 1, lbl, x1, x2, x3, x4, h =>
    if lbl = 0 then (gX1_aboardOf_at32 b0 f 5 (x1 : Int32) (x2 : Int32) (0 : Int32) (0 : Int32) h) else
    if lbl = 5 then (if (ea_i h (b0 + 32) 0) ≤ x4 then (some (x3, h)) else (gd ((okX1_isAboard_at32 b0 (x4 : Int32) (x1 : Int32) h)) (if (vX1_isAboard_at32 b0 (x4 : Int32) (x1 : Int32) h) = (0 : Int32) then (gX1_aboardOf_at32 b0 f 5 (x1 : Int32) (x2 : Int32) (x3 : Int32) ((x4 + (1 : Int32)) : Int32) h) else (gd (vp_in x4 120) (if (ea_i h (b0 + 37) (Int32.toNatClampNeg x4)) = x2 then (gX1_aboardOf_at32 b0 f 5 (x1 : Int32) (x2 : Int32) ((x3 + (1 : Int32)) : Int32) ((x4 + (1 : Int32)) : Int32) h) else (gX1_aboardOf_at32 b0 f 5 (x1 : Int32) (x2 : Int32) (x3 : Int32) ((x4 + (1 : Int32)) : Int32) h)))))) else none
theorem tX1_aboardOf_at32 {d : Nat} {b0 : Nat} {h0 : ea_H} (hd : 2 ≤ d) : ∀ (f lbl : Nat) (x1 : Int32) (x2 : Int32) (x3 : Int32) (x4 : Int32) (h : ea_H) (r : Int32) (h' : ea_H), gX1_aboardOf_at32 b0 f lbl x1 x2 x3 x4 h = some (r, h') → ShC b0 h → (lbl = 0 → ea_W mX1_aboardOf d h0 (some (vI r)) h' 0 [(0, vR (some (b0 + 32))), (1, vI x1), (2, vI x2)] [] h) ∧ (lbl = 5 → ea_W mX1_aboardOf d h0 (some (vI r)) h' 5 [(0, vR (some (b0 + 32))), (1, vI x1), (2, vI x2), (3, vI x3), (4, vI x4)] [] h) := by
  intro f
  induction f with
  | zero => intro lbl x1 x2 x3 x4 h r h' E; cases E
  | succ f ih =>
    intro lbl x1 x2 x3 x4 h r h' E hs
    unfold gX1_aboardOf_at32 at E
    refine ⟨?_, ?_⟩
    · intro el
      subst el
      have E := (if_pos rfl).symm.trans E
      refine ea_iconst (pc := 0) dX1_aboardOf_0 (v := 0) rfl ?_
      refine ea_istore_n (pc := 1) (lv' := [(0, vR (some (b0 + 32))), (1, vI x1), (2, vI x2), (3, vI 0)]) dX1_aboardOf_1 rfl (Nat.le_of_ble_eq_true rfl) [1, 2, 3, 0] rfl ?_
      refine ea_iconst (pc := 2) dX1_aboardOf_2 (v := 0) rfl ?_
      refine ea_istore (pc := 3) (lv' := [(0, vR (some (b0 + 32))), (1, vI x1), (2, vI x2), (3, vI 0), (4, vI 0)]) dX1_aboardOf_3 (Nat.le_of_ble_eq_true rfl) [1, 2, 3, 4, 0] rfl ?_
      exact ((ih 5 (x1 : Int32) (x2 : Int32) (0 : Int32) (0 : Int32) h _ _ E hs).2 rfl)
    intro el
    subst el
    have E := (if_neg (by decide)).symm.trans E
    have E := (if_pos rfl).symm.trans E
    refine ea_iload (pc := 5) dX1_aboardOf_5 4 rfl ?_
    refine ea_aload_n (pc := 7) dX1_aboardOf_7 rfl 0 rfl ?_
    refine ea_getI (pc := 8) dX1_aboardOf_8 ec_1 (k := 0) (Nat.le_of_ble_eq_true rfl) rfl (Or.inl ew_359) (hs.1 32 (by decide)).1 (hs.1 32 (by decide)).2.1 ?_
    refine ea_icmp_ge (pc := 11) (tgt := 44) dX1_aboardOf_11 rfl (fun c5 => ?_) (fun c5 => ?_)
    · have E := (if_pos c5).symm.trans E
      refine ea_iload_n (pc := 44) dX1_aboardOf_44 rfl 3 rfl ?_
      cases E
      exact ea_ireturn (pc := 45) dX1_aboardOf_45 rfl rfl
    · have E := (if_neg c5).symm.trans E
      refine ea_aload_n (pc := 14) dX1_aboardOf_14 rfl 0 rfl ?_
      refine ea_iload (pc := 15) dX1_aboardOf_15 4 rfl ?_
      refine ea_iload_n (pc := 17) dX1_aboardOf_17 rfl 1 rfl ?_
      obtain ⟨z1, E⟩ := gd_some E
      refine ea_callV (pc := 18) (d' := d - 1) (As := [vI x4, vI x1]) (st := []) dX1_aboardOf_18 kX1_isAboard (sX1_isAboard_at32 (d := d - 1) (by omega) hs z1) (by omega) rfl (Nat.le_of_ble_eq_true rfl) ew_704 ew_705 ew_706 (ci := 1) rfl (by decide) (hs.1 32 (by decide)).1 (hs.1 32 (by decide)).2.1 ?_
      refine ea_if_eq (pc := 21) (tgt := 38) dX1_aboardOf_21 rfl (fun c4 => ?_) (fun c4 => ?_)
      · have E := (if_pos c4).symm.trans E
        refine ea_iinc (pc := 38) (v := 1) (lv' := [(0, vR (some (b0 + 32))), (1, vI x1), (2, vI x2), (3, vI x3), (4, vI (x4 + (1 : Int32)))]) dX1_aboardOf_38 4 rfl rfl (Nat.le_of_ble_eq_true rfl) [1, 2, 3, 4, 0] rfl ?_
        refine ea_goto (pc := 41) (tgt := 5) dX1_aboardOf_41 rfl ?_
        exact ((ih 5 (x1 : Int32) (x2 : Int32) (x3 : Int32) ((x4 + (1 : Int32)) : Int32) h _ _ E hs).2 rfl)
      · have E := (if_neg c4).symm.trans E
        refine ea_aload_n (pc := 24) dX1_aboardOf_24 rfl 0 rfl ?_
        refine ea_getR (pc := 25) dX1_aboardOf_25 ec_1 (k := 5) (Nat.le_of_ble_eq_true rfl) rfl (Or.inl ew_369) (hs.1 32 (by decide)).1 (hs.1 32 (by decide)).2.1 (hs.2 32 5 rfl) ?_
        refine ea_iload (pc := 28) dX1_aboardOf_28 4 rfl ?_
        obtain ⟨z2, E⟩ := gd_some E
        refine ea_zald (pc := 30) dX1_aboardOf_30 (hs.1 37 (by decide)).1 (hs.1 37 (by decide)).2.1 (ea_vpl (hs.1 37 (by decide)).2.2 z2) ?_
        refine ea_iload_n (pc := 31) dX1_aboardOf_31 rfl 2 rfl ?_
        refine ea_icmp_ne (pc := 32) (tgt := 38) dX1_aboardOf_32 rfl (fun c3 => ?_) (fun c3 => ?_)
        · have E := (if_neg c3).symm.trans E
          refine ea_iinc (pc := 38) (v := 1) (lv' := [(0, vR (some (b0 + 32))), (1, vI x1), (2, vI x2), (3, vI x3), (4, vI (x4 + (1 : Int32)))]) dX1_aboardOf_38 4 rfl rfl (Nat.le_of_ble_eq_true rfl) [1, 2, 3, 4, 0] rfl ?_
          refine ea_goto (pc := 41) (tgt := 5) dX1_aboardOf_41 rfl ?_
          exact ((ih 5 (x1 : Int32) (x2 : Int32) (x3 : Int32) ((x4 + (1 : Int32)) : Int32) h _ _ E hs).2 rfl)
        · have E := (if_pos c3).symm.trans E
          refine ea_iinc (pc := 35) (v := 1) (lv' := [(0, vR (some (b0 + 32))), (1, vI x1), (2, vI x2), (3, vI (x3 + (1 : Int32))), (4, vI x4)]) dX1_aboardOf_35 3 rfl rfl (Nat.le_of_ble_eq_true rfl) [1, 2, 3, 0, 4] rfl ?_
          refine ea_iinc (pc := 38) (v := 1) (lv' := [(0, vR (some (b0 + 32))), (1, vI x1), (2, vI x2), (3, vI (x3 + (1 : Int32))), (4, vI (x4 + (1 : Int32)))]) dX1_aboardOf_38 4 rfl rfl (Nat.le_of_ble_eq_true rfl) [1, 2, 3, 4, 0] rfl ?_
          refine ea_goto (pc := 41) (tgt := 5) dX1_aboardOf_41 rfl ?_
          exact ((ih 5 (x1 : Int32) (x2 : Int32) ((x3 + (1 : Int32)) : Int32) ((x4 + (1 : Int32)) : Int32) h _ _ E hs).2 rfl)
noncomputable def qX1_aboardOf_at32 (b0 : Nat) (x1 : Int32) (x2 : Int32) (h : ea_H) : Option (Int32 × ea_H) := gX1_aboardOf_at32 b0 1000000000 0 x1 x2 0 0 h
def okX1_aboardOf_at32 (b0 : Nat) (x1 : Int32) (x2 : Int32) (h : ea_H) : Prop := ∃ x, qX1_aboardOf_at32 b0 x1 x2 h = some x
noncomputable def vX1_aboardOf_at32 (b0 : Nat) (x1 : Int32) (x2 : Int32) (h : ea_H) : Int32 := ((qX1_aboardOf_at32 b0 x1 x2 h).getD (0, h)).1
noncomputable def wX1_aboardOf_at32 (b0 : Nat) (x1 : Int32) (x2 : Int32) (h : ea_H) : ea_H := ((qX1_aboardOf_at32 b0 x1 x2 h).getD (0, h)).2
theorem sX1_aboardOf_at32 {d : Nat} {b0 : Nat} {x1 : Int32} {x2 : Int32} {h : ea_H} (hd : 2 ≤ d) (hs : ShC b0 h) (K : okX1_aboardOf_at32 b0 x1 x2 h) : ea_Met mX1_aboardOf d [vR (some (b0 + 32)), vI x1, vI x2] h (some (vI (vX1_aboardOf_at32 b0 x1 x2 h))) (wX1_aboardOf_at32 b0 x1 x2 h) := by
  obtain ⟨⟨x, y⟩, K⟩ := K
  unfold wX1_aboardOf_at32 vX1_aboardOf_at32
  rw [K]
  unfold qX1_aboardOf_at32 at K
  exact ea_enter rfl (Nat.le_of_ble_eq_true rfl) ((tX1_aboardOf_at32 hd 1000000000 0 x1 x2 0 0 h x y K hs).1 rfl)
theorem zX1_aboardOf_at32 {b0 : Nat} : ∀ (f lbl : Nat) (x1 : Int32) (x2 : Int32) (x3 : Int32) (x4 : Int32) (h : ea_H) (r : Int32) (h' : ea_H), gX1_aboardOf_at32 b0 f lbl x1 x2 x3 x4 h = some (r, h') → ShC b0 h → ShC b0 h' := by
  intro f
  induction f with
  | zero => intro lbl x1 x2 x3 x4 h r h' E; cases E
  | succ f ih =>
    intro lbl x1 x2 x3 x4 h r h' E hs
    unfold gX1_aboardOf_at32 at E
    by_cases el0 : lbl = 0
    · have E := (if_pos el0).symm.trans E
      exact ih 5 (x1 : Int32) (x2 : Int32) (0 : Int32) (0 : Int32) h _ _ E hs
    have E := (if_neg el0).symm.trans E
    by_cases el1 : lbl = 5
    · have E := (if_pos el1).symm.trans E
      by_cases c5 : (ea_i h (b0 + 32) 0) ≤ x4
      · have E := (if_pos c5).symm.trans E
        cases E
        exact hs
      have E := (if_neg c5).symm.trans E
      obtain ⟨z1, E⟩ := gd_some E
      by_cases c4 : (vX1_isAboard_at32 b0 (x4 : Int32) (x1 : Int32) h) = (0 : Int32)
      · have E := (if_pos c4).symm.trans E
        exact ih 5 (x1 : Int32) (x2 : Int32) (x3 : Int32) ((x4 + (1 : Int32)) : Int32) h _ _ E hs
      have E := (if_neg c4).symm.trans E
      obtain ⟨z2, E⟩ := gd_some E
      by_cases c3 : (ea_i h (b0 + 37) (Int32.toNatClampNeg x4)) = x2
      · have E := (if_pos c3).symm.trans E
        exact ih 5 (x1 : Int32) (x2 : Int32) ((x3 + (1 : Int32)) : Int32) ((x4 + (1 : Int32)) : Int32) h _ _ E hs
      have E := (if_neg c3).symm.trans E
      exact ih 5 (x1 : Int32) (x2 : Int32) (x3 : Int32) ((x4 + (1 : Int32)) : Int32) h _ _ E hs
    have E := (if_neg el1).symm.trans E
    cases E
theorem shX1_aboardOf_at32 {b0 : Nat} {x1 : Int32} {x2 : Int32} {h : ea_H} (hs : ShC b0 h) : ShC b0 (wX1_aboardOf_at32 b0 x1 x2 h) := by
  unfold wX1_aboardOf_at32
  cases K : qX1_aboardOf_at32 b0 x1 x2 h with
  | none => exact hs
  | some x => obtain ⟨x, y⟩ := x; unfold qX1_aboardOf_at32 at K; exact zX1_aboardOf_at32 _ _ _ _ _ _ _ _ _ K hs
noncomputable def gX1_aboardOf_at42 (b0 : Nat) : Nat → Nat → Int32 → Int32 → Int32 → Int32 → ea_H → Option (Int32 × ea_H)
  | 0, _, _, _, _, _, _ => none
  | f + 1, lbl, x1, x2, x3, x4, h =>
    if lbl = 0 then (gX1_aboardOf_at42 b0 f 5 (x1 : Int32) (x2 : Int32) (0 : Int32) (0 : Int32) h) else
    if lbl = 5 then (if (ea_i h (b0 + 42) 0) ≤ x4 then (some (x3, h)) else (gd ((okX1_isAboard_at42 b0 (x4 : Int32) (x1 : Int32) h)) (if (vX1_isAboard_at42 b0 (x4 : Int32) (x1 : Int32) h) = (0 : Int32) then (gX1_aboardOf_at42 b0 f 5 (x1 : Int32) (x2 : Int32) (x3 : Int32) ((x4 + (1 : Int32)) : Int32) h) else (gd (vp_in x4 120) (if (ea_i h (b0 + 47) (Int32.toNatClampNeg x4)) = x2 then (gX1_aboardOf_at42 b0 f 5 (x1 : Int32) (x2 : Int32) ((x3 + (1 : Int32)) : Int32) ((x4 + (1 : Int32)) : Int32) h) else (gX1_aboardOf_at42 b0 f 5 (x1 : Int32) (x2 : Int32) (x3 : Int32) ((x4 + (1 : Int32)) : Int32) h)))))) else none
theorem tX1_aboardOf_at42 {d : Nat} {b0 : Nat} {h0 : ea_H} (hd : 2 ≤ d) : ∀ (f lbl : Nat) (x1 : Int32) (x2 : Int32) (x3 : Int32) (x4 : Int32) (h : ea_H) (r : Int32) (h' : ea_H), gX1_aboardOf_at42 b0 f lbl x1 x2 x3 x4 h = some (r, h') → ShC b0 h → (lbl = 0 → ea_W mX1_aboardOf d h0 (some (vI r)) h' 0 [(0, vR (some (b0 + 42))), (1, vI x1), (2, vI x2)] [] h) ∧ (lbl = 5 → ea_W mX1_aboardOf d h0 (some (vI r)) h' 5 [(0, vR (some (b0 + 42))), (1, vI x1), (2, vI x2), (3, vI x3), (4, vI x4)] [] h) := by
  intro f
  induction f with
  | zero => intro lbl x1 x2 x3 x4 h r h' E; cases E
  | succ f ih =>
    intro lbl x1 x2 x3 x4 h r h' E hs
    unfold gX1_aboardOf_at42 at E
    refine ⟨?_, ?_⟩
    · intro el
      subst el
      have E := (if_pos rfl).symm.trans E
      refine ea_iconst (pc := 0) dX1_aboardOf_0 (v := 0) rfl ?_
      refine ea_istore_n (pc := 1) (lv' := [(0, vR (some (b0 + 42))), (1, vI x1), (2, vI x2), (3, vI 0)]) dX1_aboardOf_1 rfl (Nat.le_of_ble_eq_true rfl) [1, 2, 3, 0] rfl ?_
      refine ea_iconst (pc := 2) dX1_aboardOf_2 (v := 0) rfl ?_
      refine ea_istore (pc := 3) (lv' := [(0, vR (some (b0 + 42))), (1, vI x1), (2, vI x2), (3, vI 0), (4, vI 0)]) dX1_aboardOf_3 (Nat.le_of_ble_eq_true rfl) [1, 2, 3, 4, 0] rfl ?_
      exact ((ih 5 (x1 : Int32) (x2 : Int32) (0 : Int32) (0 : Int32) h _ _ E hs).2 rfl)
    intro el
    subst el
    have E := (if_neg (by decide)).symm.trans E
    have E := (if_pos rfl).symm.trans E
    refine ea_iload (pc := 5) dX1_aboardOf_5 4 rfl ?_
    refine ea_aload_n (pc := 7) dX1_aboardOf_7 rfl 0 rfl ?_
    refine ea_getI (pc := 8) dX1_aboardOf_8 ec_1 (k := 0) (Nat.le_of_ble_eq_true rfl) rfl (Or.inl ew_359) (hs.1 42 (by decide)).1 (hs.1 42 (by decide)).2.1 ?_
    refine ea_icmp_ge (pc := 11) (tgt := 44) dX1_aboardOf_11 rfl (fun c5 => ?_) (fun c5 => ?_)
    · have E := (if_pos c5).symm.trans E
      refine ea_iload_n (pc := 44) dX1_aboardOf_44 rfl 3 rfl ?_
      cases E
      exact ea_ireturn (pc := 45) dX1_aboardOf_45 rfl rfl
    · have E := (if_neg c5).symm.trans E
      refine ea_aload_n (pc := 14) dX1_aboardOf_14 rfl 0 rfl ?_
      refine ea_iload (pc := 15) dX1_aboardOf_15 4 rfl ?_
      refine ea_iload_n (pc := 17) dX1_aboardOf_17 rfl 1 rfl ?_
      obtain ⟨z1, E⟩ := gd_some E
      refine ea_callV (pc := 18) (d' := d - 1) (As := [vI x4, vI x1]) (st := []) dX1_aboardOf_18 kX1_isAboard (sX1_isAboard_at42 (d := d - 1) (by omega) hs z1) (by omega) rfl (Nat.le_of_ble_eq_true rfl) ew_704 ew_705 ew_706 (ci := 1) rfl (by decide) (hs.1 42 (by decide)).1 (hs.1 42 (by decide)).2.1 ?_
      refine ea_if_eq (pc := 21) (tgt := 38) dX1_aboardOf_21 rfl (fun c4 => ?_) (fun c4 => ?_)
      · have E := (if_pos c4).symm.trans E
        refine ea_iinc (pc := 38) (v := 1) (lv' := [(0, vR (some (b0 + 42))), (1, vI x1), (2, vI x2), (3, vI x3), (4, vI (x4 + (1 : Int32)))]) dX1_aboardOf_38 4 rfl rfl (Nat.le_of_ble_eq_true rfl) [1, 2, 3, 4, 0] rfl ?_
        refine ea_goto (pc := 41) (tgt := 5) dX1_aboardOf_41 rfl ?_
        exact ((ih 5 (x1 : Int32) (x2 : Int32) (x3 : Int32) ((x4 + (1 : Int32)) : Int32) h _ _ E hs).2 rfl)
      · have E := (if_neg c4).symm.trans E
        refine ea_aload_n (pc := 24) dX1_aboardOf_24 rfl 0 rfl ?_
        refine ea_getR (pc := 25) dX1_aboardOf_25 ec_1 (k := 5) (Nat.le_of_ble_eq_true rfl) rfl (Or.inl ew_369) (hs.1 42 (by decide)).1 (hs.1 42 (by decide)).2.1 (hs.2 42 5 rfl) ?_
        refine ea_iload (pc := 28) dX1_aboardOf_28 4 rfl ?_
        obtain ⟨z2, E⟩ := gd_some E
        refine ea_zald (pc := 30) dX1_aboardOf_30 (hs.1 47 (by decide)).1 (hs.1 47 (by decide)).2.1 (ea_vpl (hs.1 47 (by decide)).2.2 z2) ?_
        refine ea_iload_n (pc := 31) dX1_aboardOf_31 rfl 2 rfl ?_
        refine ea_icmp_ne (pc := 32) (tgt := 38) dX1_aboardOf_32 rfl (fun c3 => ?_) (fun c3 => ?_)
        · have E := (if_neg c3).symm.trans E
          refine ea_iinc (pc := 38) (v := 1) (lv' := [(0, vR (some (b0 + 42))), (1, vI x1), (2, vI x2), (3, vI x3), (4, vI (x4 + (1 : Int32)))]) dX1_aboardOf_38 4 rfl rfl (Nat.le_of_ble_eq_true rfl) [1, 2, 3, 4, 0] rfl ?_
          refine ea_goto (pc := 41) (tgt := 5) dX1_aboardOf_41 rfl ?_
          exact ((ih 5 (x1 : Int32) (x2 : Int32) (x3 : Int32) ((x4 + (1 : Int32)) : Int32) h _ _ E hs).2 rfl)
        · have E := (if_pos c3).symm.trans E
          refine ea_iinc (pc := 35) (v := 1) (lv' := [(0, vR (some (b0 + 42))), (1, vI x1), (2, vI x2), (3, vI (x3 + (1 : Int32))), (4, vI x4)]) dX1_aboardOf_35 3 rfl rfl (Nat.le_of_ble_eq_true rfl) [1, 2, 3, 0, 4] rfl ?_
          refine ea_iinc (pc := 38) (v := 1) (lv' := [(0, vR (some (b0 + 42))), (1, vI x1), (2, vI x2), (3, vI (x3 + (1 : Int32))), (4, vI (x4 + (1 : Int32)))]) dX1_aboardOf_38 4 rfl rfl (Nat.le_of_ble_eq_true rfl) [1, 2, 3, 4, 0] rfl ?_
          refine ea_goto (pc := 41) (tgt := 5) dX1_aboardOf_41 rfl ?_
          exact ((ih 5 (x1 : Int32) (x2 : Int32) ((x3 + (1 : Int32)) : Int32) ((x4 + (1 : Int32)) : Int32) h _ _ E hs).2 rfl)
noncomputable def qX1_aboardOf_at42 (b0 : Nat) (x1 : Int32) (x2 : Int32) (h : ea_H) : Option (Int32 × ea_H) := gX1_aboardOf_at42 b0 1000000000 0 x1 x2 0 0 h
def okX1_aboardOf_at42 (b0 : Nat) (x1 : Int32) (x2 : Int32) (h : ea_H) : Prop := ∃ x, qX1_aboardOf_at42 b0 x1 x2 h = some x
noncomputable def vX1_aboardOf_at42 (b0 : Nat) (x1 : Int32) (x2 : Int32) (h : ea_H) : Int32 := ((qX1_aboardOf_at42 b0 x1 x2 h).getD (0, h)).1
noncomputable def wX1_aboardOf_at42 (b0 : Nat) (x1 : Int32) (x2 : Int32) (h : ea_H) : ea_H := ((qX1_aboardOf_at42 b0 x1 x2 h).getD (0, h)).2
theorem sX1_aboardOf_at42 {d : Nat} {b0 : Nat} {x1 : Int32} {x2 : Int32} {h : ea_H} (hd : 2 ≤ d) (hs : ShC b0 h) (K : okX1_aboardOf_at42 b0 x1 x2 h) : ea_Met mX1_aboardOf d [vR (some (b0 + 42)), vI x1, vI x2] h (some (vI (vX1_aboardOf_at42 b0 x1 x2 h))) (wX1_aboardOf_at42 b0 x1 x2 h) := by
  obtain ⟨⟨x, y⟩, K⟩ := K
  unfold wX1_aboardOf_at42 vX1_aboardOf_at42
  rw [K]
  unfold qX1_aboardOf_at42 at K
  exact ea_enter rfl (Nat.le_of_ble_eq_true rfl) ((tX1_aboardOf_at42 hd 1000000000 0 x1 x2 0 0 h x y K hs).1 rfl)
theorem zX1_aboardOf_at42 {b0 : Nat} : ∀ (f lbl : Nat) (x1 : Int32) (x2 : Int32) (x3 : Int32) (x4 : Int32) (h : ea_H) (r : Int32) (h' : ea_H), gX1_aboardOf_at42 b0 f lbl x1 x2 x3 x4 h = some (r, h') → ShC b0 h → ShC b0 h' := by
  intro f
  induction f with
  | zero => intro lbl x1 x2 x3 x4 h r h' E; cases E
  | succ f ih =>
    intro lbl x1 x2 x3 x4 h r h' E hs
    unfold gX1_aboardOf_at42 at E
    by_cases el0 : lbl = 0
    · have E := (if_pos el0).symm.trans E
      exact ih 5 (x1 : Int32) (x2 : Int32) (0 : Int32) (0 : Int32) h _ _ E hs
    have E := (if_neg el0).symm.trans E
    by_cases el1 : lbl = 5
    · have E := (if_pos el1).symm.trans E
      by_cases c5 : (ea_i h (b0 + 42) 0) ≤ x4
      · have E := (if_pos c5).symm.trans E
        cases E
        exact hs
      have E := (if_neg c5).symm.trans E
      obtain ⟨z1, E⟩ := gd_some E
      by_cases c4 : (vX1_isAboard_at42 b0 (x4 : Int32) (x1 : Int32) h) = (0 : Int32)
      · have E := (if_pos c4).symm.trans E
        exact ih 5 (x1 : Int32) (x2 : Int32) (x3 : Int32) ((x4 + (1 : Int32)) : Int32) h _ _ E hs
      have E := (if_neg c4).symm.trans E
      obtain ⟨z2, E⟩ := gd_some E
      by_cases c3 : (ea_i h (b0 + 47) (Int32.toNatClampNeg x4)) = x2
      · have E := (if_pos c3).symm.trans E
        exact ih 5 (x1 : Int32) (x2 : Int32) ((x3 + (1 : Int32)) : Int32) ((x4 + (1 : Int32)) : Int32) h _ _ E hs
      have E := (if_neg c3).symm.trans E
      exact ih 5 (x1 : Int32) (x2 : Int32) (x3 : Int32) ((x4 + (1 : Int32)) : Int32) h _ _ E hs
    have E := (if_neg el1).symm.trans E
    cases E
theorem shX1_aboardOf_at42 {b0 : Nat} {x1 : Int32} {x2 : Int32} {h : ea_H} (hs : ShC b0 h) : ShC b0 (wX1_aboardOf_at42 b0 x1 x2 h) := by
  unfold wX1_aboardOf_at42
  cases K : qX1_aboardOf_at42 b0 x1 x2 h with
  | none => exact hs
  | some x => obtain ⟨x, y⟩ := x; unfold qX1_aboardOf_at42 at K; exact zX1_aboardOf_at42 _ _ _ _ _ _ _ _ _ K hs
noncomputable def gX1_sumOfMinutes_at32 (b0 : Nat) : Nat → Nat → Int32 → Int32 → ea_H → Option (Int32 × ea_H)
  | 0, _, _, _, _ => none
  | f + 1, lbl, x1, x2, h =>
    if lbl = 0 then (gX1_sumOfMinutes_at32 b0 f 4 (0 : Int32) (0 : Int32) h) else
    if lbl = 4 then (if (ea_i h (b0 + 32) 0) ≤ x2 then (some (x1, h)) else (gd (vp_in x2 120) (if (ea_i h (b0 + 33) (Int32.toNatClampNeg x2)) = (2 : Int32) then (gd (vp_in x2 120) (gX1_sumOfMinutes_at32 b0 f 4 ((x1 + (ea_i h (b0 + 39) (Int32.toNatClampNeg x2))) : Int32) ((x2 + (1 : Int32)) : Int32) h)) else (gd (vp_in x2 120) (if (ea_i h (b0 + 33) (Int32.toNatClampNeg x2)) = (0 : Int32) then (gX1_sumOfMinutes_at32 b0 f 4 ((x1 + (10080 : Int32)) : Int32) ((x2 + (1 : Int32)) : Int32) h) else (gd (vp_in x2 120) (if (ea_i h (b0 + 33) (Int32.toNatClampNeg x2)) = (1 : Int32) then (gX1_sumOfMinutes_at32 b0 f 4 ((x1 + (10080 : Int32)) : Int32) ((x2 + (1 : Int32)) : Int32) h) else (gX1_sumOfMinutes_at32 b0 f 4 (x1 : Int32) ((x2 + (1 : Int32)) : Int32) h)))))))) else none
theorem tX1_sumOfMinutes_at32 {d : Nat} {b0 : Nat} {h0 : ea_H} (hd : 1 ≤ d) : ∀ (f lbl : Nat) (x1 : Int32) (x2 : Int32) (h : ea_H) (r : Int32) (h' : ea_H), gX1_sumOfMinutes_at32 b0 f lbl x1 x2 h = some (r, h') → ShC b0 h → (lbl = 0 → ea_W mX1_sumOfMinutes d h0 (some (vI r)) h' 0 [(0, vR (some (b0 + 32)))] [] h) ∧ (lbl = 4 → ea_W mX1_sumOfMinutes d h0 (some (vI r)) h' 4 [(0, vR (some (b0 + 32))), (1, vI x1), (2, vI x2)] [] h) := by
  intro f
  induction f with
  | zero => intro lbl x1 x2 h r h' E; cases E
  | succ f ih =>
    intro lbl x1 x2 h r h' E hs
    unfold gX1_sumOfMinutes_at32 at E
    refine ⟨?_, ?_⟩
    · intro el
      subst el
      have E := (if_pos rfl).symm.trans E
      refine ea_iconst (pc := 0) dX1_sumOfMinutes_0 (v := 0) rfl ?_
      refine ea_istore_n (pc := 1) (lv' := [(0, vR (some (b0 + 32))), (1, vI 0)]) dX1_sumOfMinutes_1 rfl (Nat.le_of_ble_eq_true rfl) [1, 0] rfl ?_
      refine ea_iconst (pc := 2) dX1_sumOfMinutes_2 (v := 0) rfl ?_
      refine ea_istore_n (pc := 3) (lv' := [(0, vR (some (b0 + 32))), (1, vI 0), (2, vI 0)]) dX1_sumOfMinutes_3 rfl (Nat.le_of_ble_eq_true rfl) [1, 2, 0] rfl ?_
      exact ((ih 4 (0 : Int32) (0 : Int32) h _ _ E hs).2 rfl)
    intro el
    subst el
    have E := (if_neg (by decide)).symm.trans E
    have E := (if_pos rfl).symm.trans E
    refine ea_iload_n (pc := 4) dX1_sumOfMinutes_4 rfl 2 rfl ?_
    refine ea_aload_n (pc := 5) dX1_sumOfMinutes_5 rfl 0 rfl ?_
    refine ea_getI (pc := 6) dX1_sumOfMinutes_6 ec_1 (k := 0) (Nat.le_of_ble_eq_true rfl) rfl (Or.inl ew_359) (hs.1 32 (by decide)).1 (hs.1 32 (by decide)).2.1 ?_
    refine ea_icmp_ge (pc := 9) (tgt := 65) dX1_sumOfMinutes_9 rfl (fun c8 => ?_) (fun c8 => ?_)
    · have E := (if_pos c8).symm.trans E
      refine ea_iload_n (pc := 65) dX1_sumOfMinutes_65 rfl 1 rfl ?_
      cases E
      exact ea_ireturn (pc := 66) dX1_sumOfMinutes_66 rfl rfl
    · have E := (if_neg c8).symm.trans E
      refine ea_aload_n (pc := 12) dX1_sumOfMinutes_12 rfl 0 rfl ?_
      refine ea_getR (pc := 13) dX1_sumOfMinutes_13 ec_1 (k := 1) (Nat.le_of_ble_eq_true rfl) rfl (Or.inl ew_361) (hs.1 32 (by decide)).1 (hs.1 32 (by decide)).2.1 (hs.2 32 1 rfl) ?_
      refine ea_iload_n (pc := 16) dX1_sumOfMinutes_16 rfl 2 rfl ?_
      obtain ⟨z1, E⟩ := gd_some E
      refine ea_iald (pc := 17) dX1_sumOfMinutes_17 (hs.1 33 (by decide)).1 (hs.1 33 (by decide)).2.1 (ea_vpl (hs.1 33 (by decide)).2.2 z1) ?_
      refine ea_iconst (pc := 18) dX1_sumOfMinutes_18 (v := 2) rfl ?_
      refine ea_icmp_ne (pc := 19) (tgt := 34) dX1_sumOfMinutes_19 rfl (fun c7 => ?_) (fun c7 => ?_)
      · have E := (if_neg c7).symm.trans E
        refine ea_aload_n (pc := 34) dX1_sumOfMinutes_34 rfl 0 rfl ?_
        refine ea_getR (pc := 35) dX1_sumOfMinutes_35 ec_1 (k := 1) (Nat.le_of_ble_eq_true rfl) rfl (Or.inl ew_361) (hs.1 32 (by decide)).1 (hs.1 32 (by decide)).2.1 (hs.2 32 1 rfl) ?_
        refine ea_iload_n (pc := 38) dX1_sumOfMinutes_38 rfl 2 rfl ?_
        obtain ⟨z2, E⟩ := gd_some E
        refine ea_iald (pc := 39) dX1_sumOfMinutes_39 (hs.1 33 (by decide)).1 (hs.1 33 (by decide)).2.1 (ea_vpl (hs.1 33 (by decide)).2.2 z2) ?_
        refine ea_if_eq (pc := 40) (tgt := 53) dX1_sumOfMinutes_40 rfl (fun c5 => ?_) (fun c5 => ?_)
        · have E := (if_pos c5).symm.trans E
          refine ea_iincW (pc := 53) (v := 10080) (lv' := [(0, vR (some (b0 + 32))), (1, vI (x1 + (10080 : Int32))), (2, vI x2)]) dX1_sumOfMinutes_53 1 rfl rfl (Nat.le_of_ble_eq_true rfl) [1, 0, 2] rfl ?_
          refine ea_iinc (pc := 59) (v := 1) (lv' := [(0, vR (some (b0 + 32))), (1, vI (x1 + (10080 : Int32))), (2, vI (x2 + (1 : Int32)))]) dX1_sumOfMinutes_59 2 rfl rfl (Nat.le_of_ble_eq_true rfl) [1, 2, 0] rfl ?_
          refine ea_goto (pc := 62) (tgt := 4) dX1_sumOfMinutes_62 rfl ?_
          exact ((ih 4 ((x1 + (10080 : Int32)) : Int32) ((x2 + (1 : Int32)) : Int32) h _ _ E hs).2 rfl)
        · have E := (if_neg c5).symm.trans E
          refine ea_aload_n (pc := 43) dX1_sumOfMinutes_43 rfl 0 rfl ?_
          refine ea_getR (pc := 44) dX1_sumOfMinutes_44 ec_1 (k := 1) (Nat.le_of_ble_eq_true rfl) rfl (Or.inl ew_361) (hs.1 32 (by decide)).1 (hs.1 32 (by decide)).2.1 (hs.2 32 1 rfl) ?_
          refine ea_iload_n (pc := 47) dX1_sumOfMinutes_47 rfl 2 rfl ?_
          obtain ⟨z3, E⟩ := gd_some E
          refine ea_iald (pc := 48) dX1_sumOfMinutes_48 (hs.1 33 (by decide)).1 (hs.1 33 (by decide)).2.1 (ea_vpl (hs.1 33 (by decide)).2.2 z3) ?_
          refine ea_iconst (pc := 49) dX1_sumOfMinutes_49 (v := 1) rfl ?_
          refine ea_icmp_ne (pc := 50) (tgt := 59) dX1_sumOfMinutes_50 rfl (fun c4 => ?_) (fun c4 => ?_)
          · have E := (if_neg c4).symm.trans E
            refine ea_iinc (pc := 59) (v := 1) (lv' := [(0, vR (some (b0 + 32))), (1, vI x1), (2, vI (x2 + (1 : Int32)))]) dX1_sumOfMinutes_59 2 rfl rfl (Nat.le_of_ble_eq_true rfl) [1, 2, 0] rfl ?_
            refine ea_goto (pc := 62) (tgt := 4) dX1_sumOfMinutes_62 rfl ?_
            exact ((ih 4 (x1 : Int32) ((x2 + (1 : Int32)) : Int32) h _ _ E hs).2 rfl)
          · have E := (if_pos c4).symm.trans E
            refine ea_iincW (pc := 53) (v := 10080) (lv' := [(0, vR (some (b0 + 32))), (1, vI (x1 + (10080 : Int32))), (2, vI x2)]) dX1_sumOfMinutes_53 1 rfl rfl (Nat.le_of_ble_eq_true rfl) [1, 0, 2] rfl ?_
            refine ea_iinc (pc := 59) (v := 1) (lv' := [(0, vR (some (b0 + 32))), (1, vI (x1 + (10080 : Int32))), (2, vI (x2 + (1 : Int32)))]) dX1_sumOfMinutes_59 2 rfl rfl (Nat.le_of_ble_eq_true rfl) [1, 2, 0] rfl ?_
            refine ea_goto (pc := 62) (tgt := 4) dX1_sumOfMinutes_62 rfl ?_
            exact ((ih 4 ((x1 + (10080 : Int32)) : Int32) ((x2 + (1 : Int32)) : Int32) h _ _ E hs).2 rfl)
      · have E := (if_pos c7).symm.trans E
        refine ea_iload_n (pc := 22) dX1_sumOfMinutes_22 rfl 1 rfl ?_
        refine ea_aload_n (pc := 23) dX1_sumOfMinutes_23 rfl 0 rfl ?_
        refine ea_getR (pc := 24) dX1_sumOfMinutes_24 ec_1 (k := 7) (Nat.le_of_ble_eq_true rfl) rfl (Or.inl ew_373) (hs.1 32 (by decide)).1 (hs.1 32 (by decide)).2.1 (hs.2 32 7 rfl) ?_
        refine ea_iload_n (pc := 27) dX1_sumOfMinutes_27 rfl 2 rfl ?_
        obtain ⟨z6, E⟩ := gd_some E
        refine ea_iald (pc := 28) dX1_sumOfMinutes_28 (hs.1 39 (by decide)).1 (hs.1 39 (by decide)).2.1 (ea_vpl (hs.1 39 (by decide)).2.2 z6) ?_
        refine ea_iadd (pc := 29) dX1_sumOfMinutes_29 ?_
        refine ea_istore_n (pc := 30) (lv' := [(0, vR (some (b0 + 32))), (1, vI (x1 + (ea_i h (b0 + 39) (Int32.toNatClampNeg x2)))), (2, vI x2)]) dX1_sumOfMinutes_30 rfl (Nat.le_of_ble_eq_true rfl) [1, 0, 2] rfl ?_
        refine ea_goto (pc := 31) (tgt := 59) dX1_sumOfMinutes_31 rfl ?_
        refine ea_iinc (pc := 59) (v := 1) (lv' := [(0, vR (some (b0 + 32))), (1, vI (x1 + (ea_i h (b0 + 39) (Int32.toNatClampNeg x2)))), (2, vI (x2 + (1 : Int32)))]) dX1_sumOfMinutes_59 2 rfl rfl (Nat.le_of_ble_eq_true rfl) [1, 2, 0] rfl ?_
        refine ea_goto (pc := 62) (tgt := 4) dX1_sumOfMinutes_62 rfl ?_
        exact ((ih 4 ((x1 + (ea_i h (b0 + 39) (Int32.toNatClampNeg x2))) : Int32) ((x2 + (1 : Int32)) : Int32) h _ _ E hs).2 rfl)
noncomputable def qX1_sumOfMinutes_at32 (b0 : Nat) (h : ea_H) : Option (Int32 × ea_H) := gX1_sumOfMinutes_at32 b0 1000000000 0 0 0 h
def okX1_sumOfMinutes_at32 (b0 : Nat) (h : ea_H) : Prop := ∃ x, qX1_sumOfMinutes_at32 b0 h = some x
noncomputable def vX1_sumOfMinutes_at32 (b0 : Nat) (h : ea_H) : Int32 := ((qX1_sumOfMinutes_at32 b0 h).getD (0, h)).1
noncomputable def wX1_sumOfMinutes_at32 (b0 : Nat) (h : ea_H) : ea_H := ((qX1_sumOfMinutes_at32 b0 h).getD (0, h)).2
theorem sX1_sumOfMinutes_at32 {d : Nat} {b0 : Nat} {h : ea_H} (hd : 1 ≤ d) (hs : ShC b0 h) (K : okX1_sumOfMinutes_at32 b0 h) : ea_Met mX1_sumOfMinutes d [vR (some (b0 + 32))] h (some (vI (vX1_sumOfMinutes_at32 b0 h))) (wX1_sumOfMinutes_at32 b0 h) := by
  obtain ⟨⟨x, y⟩, K⟩ := K
  unfold wX1_sumOfMinutes_at32 vX1_sumOfMinutes_at32
  rw [K]
  unfold qX1_sumOfMinutes_at32 at K
  exact ea_enter rfl (Nat.le_of_ble_eq_true rfl) ((tX1_sumOfMinutes_at32 hd 1000000000 0 0 0 h x y K hs).1 rfl)
theorem zX1_sumOfMinutes_at32 {b0 : Nat} : ∀ (f lbl : Nat) (x1 : Int32) (x2 : Int32) (h : ea_H) (r : Int32) (h' : ea_H), gX1_sumOfMinutes_at32 b0 f lbl x1 x2 h = some (r, h') → ShC b0 h → ShC b0 h' := by
  intro f
  induction f with
  | zero => intro lbl x1 x2 h r h' E; cases E
  | succ f ih =>
    intro lbl x1 x2 h r h' E hs
    unfold gX1_sumOfMinutes_at32 at E
    by_cases el0 : lbl = 0
    · have E := (if_pos el0).symm.trans E
      exact ih 4 (0 : Int32) (0 : Int32) h _ _ E hs
    have E := (if_neg el0).symm.trans E
    by_cases el1 : lbl = 4
    · have E := (if_pos el1).symm.trans E
      by_cases c8 : (ea_i h (b0 + 32) 0) ≤ x2
      · have E := (if_pos c8).symm.trans E
        cases E
        exact hs
      have E := (if_neg c8).symm.trans E
      obtain ⟨z1, E⟩ := gd_some E
      by_cases c7 : (ea_i h (b0 + 33) (Int32.toNatClampNeg x2)) = (2 : Int32)
      · have E := (if_pos c7).symm.trans E
        obtain ⟨z6, E⟩ := gd_some E
        exact ih 4 ((x1 + (ea_i h (b0 + 39) (Int32.toNatClampNeg x2))) : Int32) ((x2 + (1 : Int32)) : Int32) h _ _ E hs
      have E := (if_neg c7).symm.trans E
      obtain ⟨z2, E⟩ := gd_some E
      by_cases c5 : (ea_i h (b0 + 33) (Int32.toNatClampNeg x2)) = (0 : Int32)
      · have E := (if_pos c5).symm.trans E
        exact ih 4 ((x1 + (10080 : Int32)) : Int32) ((x2 + (1 : Int32)) : Int32) h _ _ E hs
      have E := (if_neg c5).symm.trans E
      obtain ⟨z3, E⟩ := gd_some E
      by_cases c4 : (ea_i h (b0 + 33) (Int32.toNatClampNeg x2)) = (1 : Int32)
      · have E := (if_pos c4).symm.trans E
        exact ih 4 ((x1 + (10080 : Int32)) : Int32) ((x2 + (1 : Int32)) : Int32) h _ _ E hs
      have E := (if_neg c4).symm.trans E
      exact ih 4 (x1 : Int32) ((x2 + (1 : Int32)) : Int32) h _ _ E hs
    have E := (if_neg el1).symm.trans E
    cases E
theorem shX1_sumOfMinutes_at32 {b0 : Nat} {h : ea_H} (hs : ShC b0 h) : ShC b0 (wX1_sumOfMinutes_at32 b0 h) := by
  unfold wX1_sumOfMinutes_at32
  cases K : qX1_sumOfMinutes_at32 b0 h with
  | none => exact hs
  | some x => obtain ⟨x, y⟩ := x; unfold qX1_sumOfMinutes_at32 at K; exact zX1_sumOfMinutes_at32 _ _ _ _ _ _ _ K hs
noncomputable def gX1_sumOfMinutes_at42 (b0 : Nat) : Nat → Nat → Int32 → Int32 → ea_H → Option (Int32 × ea_H)
  | 0, _, _, _, _ => none
  | f + 1, lbl, x1, x2, h =>
    if lbl = 0 then (gX1_sumOfMinutes_at42 b0 f 4 (0 : Int32) (0 : Int32) h) else
    if lbl = 4 then (if (ea_i h (b0 + 42) 0) ≤ x2 then (some (x1, h)) else (gd (vp_in x2 120) (if (ea_i h (b0 + 43) (Int32.toNatClampNeg x2)) = (2 : Int32) then (gd (vp_in x2 120) (gX1_sumOfMinutes_at42 b0 f 4 ((x1 + (ea_i h (b0 + 49) (Int32.toNatClampNeg x2))) : Int32) ((x2 + (1 : Int32)) : Int32) h)) else (gd (vp_in x2 120) (if (ea_i h (b0 + 43) (Int32.toNatClampNeg x2)) = (0 : Int32) then (gX1_sumOfMinutes_at42 b0 f 4 ((x1 + (10080 : Int32)) : Int32) ((x2 + (1 : Int32)) : Int32) h) else (gd (vp_in x2 120) (if (ea_i h (b0 + 43) (Int32.toNatClampNeg x2)) = (1 : Int32) then (gX1_sumOfMinutes_at42 b0 f 4 ((x1 + (10080 : Int32)) : Int32) ((x2 + (1 : Int32)) : Int32) h) else (gX1_sumOfMinutes_at42 b0 f 4 (x1 : Int32) ((x2 + (1 : Int32)) : Int32) h)))))))) else none
theorem tX1_sumOfMinutes_at42 {d : Nat} {b0 : Nat} {h0 : ea_H} (hd : 1 ≤ d) : ∀ (f lbl : Nat) (x1 : Int32) (x2 : Int32) (h : ea_H) (r : Int32) (h' : ea_H), gX1_sumOfMinutes_at42 b0 f lbl x1 x2 h = some (r, h') → ShC b0 h → (lbl = 0 → ea_W mX1_sumOfMinutes d h0 (some (vI r)) h' 0 [(0, vR (some (b0 + 42)))] [] h) ∧ (lbl = 4 → ea_W mX1_sumOfMinutes d h0 (some (vI r)) h' 4 [(0, vR (some (b0 + 42))), (1, vI x1), (2, vI x2)] [] h) := by
  intro f
  induction f with
  | zero => intro lbl x1 x2 h r h' E; cases E
  | succ f ih =>
    intro lbl x1 x2 h r h' E hs
    unfold gX1_sumOfMinutes_at42 at E
    refine ⟨?_, ?_⟩
    · intro el
      subst el
      have E := (if_pos rfl).symm.trans E
      refine ea_iconst (pc := 0) dX1_sumOfMinutes_0 (v := 0) rfl ?_
      refine ea_istore_n (pc := 1) (lv' := [(0, vR (some (b0 + 42))), (1, vI 0)]) dX1_sumOfMinutes_1 rfl (Nat.le_of_ble_eq_true rfl) [1, 0] rfl ?_
      refine ea_iconst (pc := 2) dX1_sumOfMinutes_2 (v := 0) rfl ?_
      refine ea_istore_n (pc := 3) (lv' := [(0, vR (some (b0 + 42))), (1, vI 0), (2, vI 0)]) dX1_sumOfMinutes_3 rfl (Nat.le_of_ble_eq_true rfl) [1, 2, 0] rfl ?_
      exact ((ih 4 (0 : Int32) (0 : Int32) h _ _ E hs).2 rfl)
    intro el
    subst el
    have E := (if_neg (by decide)).symm.trans E
    have E := (if_pos rfl).symm.trans E
    refine ea_iload_n (pc := 4) dX1_sumOfMinutes_4 rfl 2 rfl ?_
    refine ea_aload_n (pc := 5) dX1_sumOfMinutes_5 rfl 0 rfl ?_
    refine ea_getI (pc := 6) dX1_sumOfMinutes_6 ec_1 (k := 0) (Nat.le_of_ble_eq_true rfl) rfl (Or.inl ew_359) (hs.1 42 (by decide)).1 (hs.1 42 (by decide)).2.1 ?_
    refine ea_icmp_ge (pc := 9) (tgt := 65) dX1_sumOfMinutes_9 rfl (fun c8 => ?_) (fun c8 => ?_)
    · have E := (if_pos c8).symm.trans E
      refine ea_iload_n (pc := 65) dX1_sumOfMinutes_65 rfl 1 rfl ?_
      cases E
      exact ea_ireturn (pc := 66) dX1_sumOfMinutes_66 rfl rfl
    · have E := (if_neg c8).symm.trans E
      refine ea_aload_n (pc := 12) dX1_sumOfMinutes_12 rfl 0 rfl ?_
      refine ea_getR (pc := 13) dX1_sumOfMinutes_13 ec_1 (k := 1) (Nat.le_of_ble_eq_true rfl) rfl (Or.inl ew_361) (hs.1 42 (by decide)).1 (hs.1 42 (by decide)).2.1 (hs.2 42 1 rfl) ?_
      refine ea_iload_n (pc := 16) dX1_sumOfMinutes_16 rfl 2 rfl ?_
      obtain ⟨z1, E⟩ := gd_some E
      refine ea_iald (pc := 17) dX1_sumOfMinutes_17 (hs.1 43 (by decide)).1 (hs.1 43 (by decide)).2.1 (ea_vpl (hs.1 43 (by decide)).2.2 z1) ?_
      refine ea_iconst (pc := 18) dX1_sumOfMinutes_18 (v := 2) rfl ?_
      refine ea_icmp_ne (pc := 19) (tgt := 34) dX1_sumOfMinutes_19 rfl (fun c7 => ?_) (fun c7 => ?_)
      · have E := (if_neg c7).symm.trans E
        refine ea_aload_n (pc := 34) dX1_sumOfMinutes_34 rfl 0 rfl ?_
        refine ea_getR (pc := 35) dX1_sumOfMinutes_35 ec_1 (k := 1) (Nat.le_of_ble_eq_true rfl) rfl (Or.inl ew_361) (hs.1 42 (by decide)).1 (hs.1 42 (by decide)).2.1 (hs.2 42 1 rfl) ?_
        refine ea_iload_n (pc := 38) dX1_sumOfMinutes_38 rfl 2 rfl ?_
        obtain ⟨z2, E⟩ := gd_some E
        refine ea_iald (pc := 39) dX1_sumOfMinutes_39 (hs.1 43 (by decide)).1 (hs.1 43 (by decide)).2.1 (ea_vpl (hs.1 43 (by decide)).2.2 z2) ?_
        refine ea_if_eq (pc := 40) (tgt := 53) dX1_sumOfMinutes_40 rfl (fun c5 => ?_) (fun c5 => ?_)
        · have E := (if_pos c5).symm.trans E
          refine ea_iincW (pc := 53) (v := 10080) (lv' := [(0, vR (some (b0 + 42))), (1, vI (x1 + (10080 : Int32))), (2, vI x2)]) dX1_sumOfMinutes_53 1 rfl rfl (Nat.le_of_ble_eq_true rfl) [1, 0, 2] rfl ?_
          refine ea_iinc (pc := 59) (v := 1) (lv' := [(0, vR (some (b0 + 42))), (1, vI (x1 + (10080 : Int32))), (2, vI (x2 + (1 : Int32)))]) dX1_sumOfMinutes_59 2 rfl rfl (Nat.le_of_ble_eq_true rfl) [1, 2, 0] rfl ?_
          refine ea_goto (pc := 62) (tgt := 4) dX1_sumOfMinutes_62 rfl ?_
          exact ((ih 4 ((x1 + (10080 : Int32)) : Int32) ((x2 + (1 : Int32)) : Int32) h _ _ E hs).2 rfl)
        · have E := (if_neg c5).symm.trans E
          refine ea_aload_n (pc := 43) dX1_sumOfMinutes_43 rfl 0 rfl ?_
          refine ea_getR (pc := 44) dX1_sumOfMinutes_44 ec_1 (k := 1) (Nat.le_of_ble_eq_true rfl) rfl (Or.inl ew_361) (hs.1 42 (by decide)).1 (hs.1 42 (by decide)).2.1 (hs.2 42 1 rfl) ?_
          refine ea_iload_n (pc := 47) dX1_sumOfMinutes_47 rfl 2 rfl ?_
          obtain ⟨z3, E⟩ := gd_some E
          refine ea_iald (pc := 48) dX1_sumOfMinutes_48 (hs.1 43 (by decide)).1 (hs.1 43 (by decide)).2.1 (ea_vpl (hs.1 43 (by decide)).2.2 z3) ?_
          refine ea_iconst (pc := 49) dX1_sumOfMinutes_49 (v := 1) rfl ?_
          refine ea_icmp_ne (pc := 50) (tgt := 59) dX1_sumOfMinutes_50 rfl (fun c4 => ?_) (fun c4 => ?_)
          · have E := (if_neg c4).symm.trans E
            refine ea_iinc (pc := 59) (v := 1) (lv' := [(0, vR (some (b0 + 42))), (1, vI x1), (2, vI (x2 + (1 : Int32)))]) dX1_sumOfMinutes_59 2 rfl rfl (Nat.le_of_ble_eq_true rfl) [1, 2, 0] rfl ?_
            refine ea_goto (pc := 62) (tgt := 4) dX1_sumOfMinutes_62 rfl ?_
            exact ((ih 4 (x1 : Int32) ((x2 + (1 : Int32)) : Int32) h _ _ E hs).2 rfl)
          · have E := (if_pos c4).symm.trans E
            refine ea_iincW (pc := 53) (v := 10080) (lv' := [(0, vR (some (b0 + 42))), (1, vI (x1 + (10080 : Int32))), (2, vI x2)]) dX1_sumOfMinutes_53 1 rfl rfl (Nat.le_of_ble_eq_true rfl) [1, 0, 2] rfl ?_
            refine ea_iinc (pc := 59) (v := 1) (lv' := [(0, vR (some (b0 + 42))), (1, vI (x1 + (10080 : Int32))), (2, vI (x2 + (1 : Int32)))]) dX1_sumOfMinutes_59 2 rfl rfl (Nat.le_of_ble_eq_true rfl) [1, 2, 0] rfl ?_
            refine ea_goto (pc := 62) (tgt := 4) dX1_sumOfMinutes_62 rfl ?_
            exact ((ih 4 ((x1 + (10080 : Int32)) : Int32) ((x2 + (1 : Int32)) : Int32) h _ _ E hs).2 rfl)
      · have E := (if_pos c7).symm.trans E
        refine ea_iload_n (pc := 22) dX1_sumOfMinutes_22 rfl 1 rfl ?_
        refine ea_aload_n (pc := 23) dX1_sumOfMinutes_23 rfl 0 rfl ?_
        refine ea_getR (pc := 24) dX1_sumOfMinutes_24 ec_1 (k := 7) (Nat.le_of_ble_eq_true rfl) rfl (Or.inl ew_373) (hs.1 42 (by decide)).1 (hs.1 42 (by decide)).2.1 (hs.2 42 7 rfl) ?_
        refine ea_iload_n (pc := 27) dX1_sumOfMinutes_27 rfl 2 rfl ?_
        obtain ⟨z6, E⟩ := gd_some E
        refine ea_iald (pc := 28) dX1_sumOfMinutes_28 (hs.1 49 (by decide)).1 (hs.1 49 (by decide)).2.1 (ea_vpl (hs.1 49 (by decide)).2.2 z6) ?_
        refine ea_iadd (pc := 29) dX1_sumOfMinutes_29 ?_
        refine ea_istore_n (pc := 30) (lv' := [(0, vR (some (b0 + 42))), (1, vI (x1 + (ea_i h (b0 + 49) (Int32.toNatClampNeg x2)))), (2, vI x2)]) dX1_sumOfMinutes_30 rfl (Nat.le_of_ble_eq_true rfl) [1, 0, 2] rfl ?_
        refine ea_goto (pc := 31) (tgt := 59) dX1_sumOfMinutes_31 rfl ?_
        refine ea_iinc (pc := 59) (v := 1) (lv' := [(0, vR (some (b0 + 42))), (1, vI (x1 + (ea_i h (b0 + 49) (Int32.toNatClampNeg x2)))), (2, vI (x2 + (1 : Int32)))]) dX1_sumOfMinutes_59 2 rfl rfl (Nat.le_of_ble_eq_true rfl) [1, 2, 0] rfl ?_
        refine ea_goto (pc := 62) (tgt := 4) dX1_sumOfMinutes_62 rfl ?_
        exact ((ih 4 ((x1 + (ea_i h (b0 + 49) (Int32.toNatClampNeg x2))) : Int32) ((x2 + (1 : Int32)) : Int32) h _ _ E hs).2 rfl)
noncomputable def qX1_sumOfMinutes_at42 (b0 : Nat) (h : ea_H) : Option (Int32 × ea_H) := gX1_sumOfMinutes_at42 b0 1000000000 0 0 0 h
def okX1_sumOfMinutes_at42 (b0 : Nat) (h : ea_H) : Prop := ∃ x, qX1_sumOfMinutes_at42 b0 h = some x
noncomputable def vX1_sumOfMinutes_at42 (b0 : Nat) (h : ea_H) : Int32 := ((qX1_sumOfMinutes_at42 b0 h).getD (0, h)).1
noncomputable def wX1_sumOfMinutes_at42 (b0 : Nat) (h : ea_H) : ea_H := ((qX1_sumOfMinutes_at42 b0 h).getD (0, h)).2
theorem sX1_sumOfMinutes_at42 {d : Nat} {b0 : Nat} {h : ea_H} (hd : 1 ≤ d) (hs : ShC b0 h) (K : okX1_sumOfMinutes_at42 b0 h) : ea_Met mX1_sumOfMinutes d [vR (some (b0 + 42))] h (some (vI (vX1_sumOfMinutes_at42 b0 h))) (wX1_sumOfMinutes_at42 b0 h) := by
  obtain ⟨⟨x, y⟩, K⟩ := K
  unfold wX1_sumOfMinutes_at42 vX1_sumOfMinutes_at42
  rw [K]
  unfold qX1_sumOfMinutes_at42 at K
  exact ea_enter rfl (Nat.le_of_ble_eq_true rfl) ((tX1_sumOfMinutes_at42 hd 1000000000 0 0 0 h x y K hs).1 rfl)
theorem zX1_sumOfMinutes_at42 {b0 : Nat} : ∀ (f lbl : Nat) (x1 : Int32) (x2 : Int32) (h : ea_H) (r : Int32) (h' : ea_H), gX1_sumOfMinutes_at42 b0 f lbl x1 x2 h = some (r, h') → ShC b0 h → ShC b0 h' := by
  intro f
  induction f with
  | zero => intro lbl x1 x2 h r h' E; cases E
  | succ f ih =>
    intro lbl x1 x2 h r h' E hs
    unfold gX1_sumOfMinutes_at42 at E
    by_cases el0 : lbl = 0
    · have E := (if_pos el0).symm.trans E
      exact ih 4 (0 : Int32) (0 : Int32) h _ _ E hs
    have E := (if_neg el0).symm.trans E
    by_cases el1 : lbl = 4
    · have E := (if_pos el1).symm.trans E
      by_cases c8 : (ea_i h (b0 + 42) 0) ≤ x2
      · have E := (if_pos c8).symm.trans E
        cases E
        exact hs
      have E := (if_neg c8).symm.trans E
      obtain ⟨z1, E⟩ := gd_some E
      by_cases c7 : (ea_i h (b0 + 43) (Int32.toNatClampNeg x2)) = (2 : Int32)
      · have E := (if_pos c7).symm.trans E
        obtain ⟨z6, E⟩ := gd_some E
        exact ih 4 ((x1 + (ea_i h (b0 + 49) (Int32.toNatClampNeg x2))) : Int32) ((x2 + (1 : Int32)) : Int32) h _ _ E hs
      have E := (if_neg c7).symm.trans E
      obtain ⟨z2, E⟩ := gd_some E
      by_cases c5 : (ea_i h (b0 + 43) (Int32.toNatClampNeg x2)) = (0 : Int32)
      · have E := (if_pos c5).symm.trans E
        exact ih 4 ((x1 + (10080 : Int32)) : Int32) ((x2 + (1 : Int32)) : Int32) h _ _ E hs
      have E := (if_neg c5).symm.trans E
      obtain ⟨z3, E⟩ := gd_some E
      by_cases c4 : (ea_i h (b0 + 43) (Int32.toNatClampNeg x2)) = (1 : Int32)
      · have E := (if_pos c4).symm.trans E
        exact ih 4 ((x1 + (10080 : Int32)) : Int32) ((x2 + (1 : Int32)) : Int32) h _ _ E hs
      have E := (if_neg c4).symm.trans E
      exact ih 4 (x1 : Int32) ((x2 + (1 : Int32)) : Int32) h _ _ E hs
    have E := (if_neg el1).symm.trans E
    cases E
theorem shX1_sumOfMinutes_at42 {b0 : Nat} {h : ea_H} (hs : ShC b0 h) : ShC b0 (wX1_sumOfMinutes_at42 b0 h) := by
  unfold wX1_sumOfMinutes_at42
  cases K : qX1_sumOfMinutes_at42 b0 h with
  | none => exact hs
  | some x => obtain ⟨x, y⟩ := x; unfold qX1_sumOfMinutes_at42 at K; exact zX1_sumOfMinutes_at42 _ _ _ _ _ _ _ K hs
noncomputable def vX1_stateIn_at32 (b0 : Nat) (x1 : Int32) (x2 : Int32) (h : ea_H) : Int32 := (if (ea_i h (Option.getD (ea_r h (b0 + 31) (Int32.toNatClampNeg x1)) 0) 2) = x2 then (if (ea_i h (Option.getD (ea_r h (b0 + 31) (Int32.toNatClampNeg x1)) 0) 15) = (0 : Int32) then (2 : Int32) else (3 : Int32)) else (0 : Int32))
def okX1_stateIn_at32 (b0 : Nat) (x1 : Int32) (x2 : Int32) (h : ea_H) : Prop := vp_in x1 120 ∧ ((ea_r h (b0 + 31) (Int32.toNatClampNeg x1)) = some (Option.getD (ea_r h (b0 + 31) (Int32.toNatClampNeg x1)) 0) ∧ (((Option.getD (ea_r h (b0 + 31) (Int32.toNatClampNeg x1)) 0) < ea_n h ∧ ea_c h (Option.getD (ea_r h (b0 + 31) (Int32.toNatClampNeg x1)) 0) = 4) ∧ (((ea_i h (Option.getD (ea_r h (b0 + 31) (Int32.toNatClampNeg x1)) 0) 2) = x2 → vp_in x1 120 ∧ ((ea_r h (b0 + 31) (Int32.toNatClampNeg x1)) = some (Option.getD (ea_r h (b0 + 31) (Int32.toNatClampNeg x1)) 0) ∧ (((Option.getD (ea_r h (b0 + 31) (Int32.toNatClampNeg x1)) 0) < ea_n h ∧ ea_c h (Option.getD (ea_r h (b0 + 31) (Int32.toNatClampNeg x1)) 0) = 4)))) ∧ (¬ (ea_i h (Option.getD (ea_r h (b0 + 31) (Int32.toNatClampNeg x1)) 0) 2) = x2 → True))))
theorem sX1_stateIn_at32 {d : Nat} {b0 : Nat} {x1 : Int32} {x2 : Int32} {h : ea_H} (hd : 1 ≤ d) (hs : ShC b0 h) (K : okX1_stateIn_at32 b0 x1 x2 h) : ea_Met mX1_stateIn d [vR (some (b0 + 32)), vI x1, vI x2] h (some (vI (vX1_stateIn_at32 b0 x1 x2 h))) h := by
  obtain ⟨X, EX⟩ : ∃ z, z = vX1_stateIn_at32 b0 x1 x2 h := ⟨_, rfl⟩
  rw [← EX]
  unfold vX1_stateIn_at32 at EX
  unfold okX1_stateIn_at32 at K
  refine ea_enter rfl (Nat.le_of_ble_eq_true rfl) ?_
  refine ea_aload_n (pc := 0) dX1_stateIn_0 rfl 0 rfl ?_
  refine ea_getR (pc := 1) dX1_stateIn_1 ec_1 (k := 14) (Nat.le_of_ble_eq_true rfl) rfl (Or.inl ew_380) (hs.1 32 (by decide)).1 (hs.1 32 (by decide)).2.1 (hs.2 32 14 rfl) ?_
  refine ea_iload_n (pc := 4) dX1_stateIn_4 rfl 1 rfl ?_
  obtain ⟨z1, K⟩ := K
  refine ea_aald23 (pc := 5) dX1_stateIn_5 (hs.1 31 (by decide)).1 (hs.1 31 (by decide)).2.1 (ea_vpl (hs.1 31 (by decide)).2.2 z1) rfl ?_
  obtain ⟨e2, f3, K⟩ := K
  refine ea_deref0 e2 ?_
  refine ea_getI (pc := 6) dX1_stateIn_6 ec_4 (k := 2) (Nat.le_of_ble_eq_true rfl) rfl (Or.inl ew_939) f3.1 f3.2 ?_
  refine ea_iload_n (pc := 9) dX1_stateIn_9 rfl 2 rfl ?_
  refine ea_icmp_eq (pc := 10) (tgt := 15) dX1_stateIn_10 rfl (fun c8 => ?_) (fun c8 => ?_)
  · have EX := EX.trans (if_pos c8)
    have K := K.1 c8
    refine ea_aload_n (pc := 15) dX1_stateIn_15 rfl 0 rfl ?_
    refine ea_getR (pc := 16) dX1_stateIn_16 ec_1 (k := 14) (Nat.le_of_ble_eq_true rfl) rfl (Or.inl ew_380) (hs.1 32 (by decide)).1 (hs.1 32 (by decide)).2.1 (hs.2 32 14 rfl) ?_
    refine ea_iload_n (pc := 19) dX1_stateIn_19 rfl 1 rfl ?_
    obtain ⟨z4, K⟩ := K
    refine ea_aald23 (pc := 20) dX1_stateIn_20 (hs.1 31 (by decide)).1 (hs.1 31 (by decide)).2.1 (ea_vpl (hs.1 31 (by decide)).2.2 z4) rfl ?_
    obtain ⟨e5, f6⟩ := K
    refine ea_deref0 e5 ?_
    refine ea_getI (pc := 21) dX1_stateIn_21 ec_4 (k := 15) (Nat.le_of_ble_eq_true rfl) rfl (Or.inl ew_972) f6.1 f6.2 ?_
    refine ea_if_eq (pc := 24) (tgt := 31) dX1_stateIn_24 rfl (fun c7 => ?_) (fun c7 => ?_)
    · have EX := EX.trans (if_pos c7)
      refine ea_iconst (pc := 31) dX1_stateIn_31 (v := 2) rfl ?_
      subst EX
      exact ea_ireturn (pc := 32) dX1_stateIn_32 rfl rfl
    · have EX := EX.trans (if_neg c7)
      refine ea_iconst (pc := 27) dX1_stateIn_27 (v := 3) rfl ?_
      refine ea_goto (pc := 28) (tgt := 32) dX1_stateIn_28 rfl ?_
      subst EX
      exact ea_ireturn (pc := 32) dX1_stateIn_32 rfl rfl
  · have EX := EX.trans (if_neg c8)
    refine ea_iconst (pc := 13) dX1_stateIn_13 (v := 0) rfl ?_
    subst EX
    exact ea_ireturn (pc := 14) dX1_stateIn_14 rfl rfl
noncomputable def vX1_stateIn_at42 (b0 : Nat) (x1 : Int32) (x2 : Int32) (h : ea_H) : Int32 := (if (ea_i h (Option.getD (ea_r h (b0 + 31) (Int32.toNatClampNeg x1)) 0) 2) = x2 then (if (ea_i h (Option.getD (ea_r h (b0 + 31) (Int32.toNatClampNeg x1)) 0) 15) = (0 : Int32) then (2 : Int32) else (3 : Int32)) else (0 : Int32))
def okX1_stateIn_at42 (b0 : Nat) (x1 : Int32) (x2 : Int32) (h : ea_H) : Prop := vp_in x1 120 ∧ ((ea_r h (b0 + 31) (Int32.toNatClampNeg x1)) = some (Option.getD (ea_r h (b0 + 31) (Int32.toNatClampNeg x1)) 0) ∧ (((Option.getD (ea_r h (b0 + 31) (Int32.toNatClampNeg x1)) 0) < ea_n h ∧ ea_c h (Option.getD (ea_r h (b0 + 31) (Int32.toNatClampNeg x1)) 0) = 4) ∧ (((ea_i h (Option.getD (ea_r h (b0 + 31) (Int32.toNatClampNeg x1)) 0) 2) = x2 → vp_in x1 120 ∧ ((ea_r h (b0 + 31) (Int32.toNatClampNeg x1)) = some (Option.getD (ea_r h (b0 + 31) (Int32.toNatClampNeg x1)) 0) ∧ (((Option.getD (ea_r h (b0 + 31) (Int32.toNatClampNeg x1)) 0) < ea_n h ∧ ea_c h (Option.getD (ea_r h (b0 + 31) (Int32.toNatClampNeg x1)) 0) = 4)))) ∧ (¬ (ea_i h (Option.getD (ea_r h (b0 + 31) (Int32.toNatClampNeg x1)) 0) 2) = x2 → True))))
theorem sX1_stateIn_at42 {d : Nat} {b0 : Nat} {x1 : Int32} {x2 : Int32} {h : ea_H} (hd : 1 ≤ d) (hs : ShC b0 h) (K : okX1_stateIn_at42 b0 x1 x2 h) : ea_Met mX1_stateIn d [vR (some (b0 + 42)), vI x1, vI x2] h (some (vI (vX1_stateIn_at42 b0 x1 x2 h))) h := by
  obtain ⟨X, EX⟩ : ∃ z, z = vX1_stateIn_at42 b0 x1 x2 h := ⟨_, rfl⟩
  rw [← EX]
  unfold vX1_stateIn_at42 at EX
  unfold okX1_stateIn_at42 at K
  refine ea_enter rfl (Nat.le_of_ble_eq_true rfl) ?_
  refine ea_aload_n (pc := 0) dX1_stateIn_0 rfl 0 rfl ?_
  refine ea_getR (pc := 1) dX1_stateIn_1 ec_1 (k := 14) (Nat.le_of_ble_eq_true rfl) rfl (Or.inl ew_380) (hs.1 42 (by decide)).1 (hs.1 42 (by decide)).2.1 (hs.2 42 14 rfl) ?_
  refine ea_iload_n (pc := 4) dX1_stateIn_4 rfl 1 rfl ?_
  obtain ⟨z1, K⟩ := K
  refine ea_aald23 (pc := 5) dX1_stateIn_5 (hs.1 31 (by decide)).1 (hs.1 31 (by decide)).2.1 (ea_vpl (hs.1 31 (by decide)).2.2 z1) rfl ?_
  obtain ⟨e2, f3, K⟩ := K
  refine ea_deref0 e2 ?_
  refine ea_getI (pc := 6) dX1_stateIn_6 ec_4 (k := 2) (Nat.le_of_ble_eq_true rfl) rfl (Or.inl ew_939) f3.1 f3.2 ?_
  refine ea_iload_n (pc := 9) dX1_stateIn_9 rfl 2 rfl ?_
  refine ea_icmp_eq (pc := 10) (tgt := 15) dX1_stateIn_10 rfl (fun c8 => ?_) (fun c8 => ?_)
  · have EX := EX.trans (if_pos c8)
    have K := K.1 c8
    refine ea_aload_n (pc := 15) dX1_stateIn_15 rfl 0 rfl ?_
    refine ea_getR (pc := 16) dX1_stateIn_16 ec_1 (k := 14) (Nat.le_of_ble_eq_true rfl) rfl (Or.inl ew_380) (hs.1 42 (by decide)).1 (hs.1 42 (by decide)).2.1 (hs.2 42 14 rfl) ?_
    refine ea_iload_n (pc := 19) dX1_stateIn_19 rfl 1 rfl ?_
    obtain ⟨z4, K⟩ := K
    refine ea_aald23 (pc := 20) dX1_stateIn_20 (hs.1 31 (by decide)).1 (hs.1 31 (by decide)).2.1 (ea_vpl (hs.1 31 (by decide)).2.2 z4) rfl ?_
    obtain ⟨e5, f6⟩ := K
    refine ea_deref0 e5 ?_
    refine ea_getI (pc := 21) dX1_stateIn_21 ec_4 (k := 15) (Nat.le_of_ble_eq_true rfl) rfl (Or.inl ew_972) f6.1 f6.2 ?_
    refine ea_if_eq (pc := 24) (tgt := 31) dX1_stateIn_24 rfl (fun c7 => ?_) (fun c7 => ?_)
    · have EX := EX.trans (if_pos c7)
      refine ea_iconst (pc := 31) dX1_stateIn_31 (v := 2) rfl ?_
      subst EX
      exact ea_ireturn (pc := 32) dX1_stateIn_32 rfl rfl
    · have EX := EX.trans (if_neg c7)
      refine ea_iconst (pc := 27) dX1_stateIn_27 (v := 3) rfl ?_
      refine ea_goto (pc := 28) (tgt := 32) dX1_stateIn_28 rfl ?_
      subst EX
      exact ea_ireturn (pc := 32) dX1_stateIn_32 rfl rfl
  · have EX := EX.trans (if_neg c8)
    refine ea_iconst (pc := 13) dX1_stateIn_13 (v := 0) rfl ?_
    subst EX
    exact ea_ireturn (pc := 14) dX1_stateIn_14 rfl rfl
noncomputable def wX2_init (a0 : Nat) (h : ea_H) : ea_H := (ea_wi (ea_wi h a0 1 (-60)) a0 2 60)
def okX2_init (a0 : Nat) (h : ea_H) : Prop := (a0 < ea_n h ∧ ea_c h a0 = 2) ∧ ((a0 < ea_n (ea_wi h a0 1 (-60)) ∧ ea_c (ea_wi h a0 1 (-60)) a0 = 2))
theorem shX2_init {b0 : Nat} {a0 : Nat} {h : ea_H} (hs : ShC b0 h) : ShC b0 (wX2_init a0 h) := (ShC_wi (ShC_wi hs))
theorem sX2_init {d : Nat} {a0 : Nat} {h : ea_H} (hd : 1 ≤ d) (K : okX2_init a0 h) : ea_Met mX2_init d [vR (some a0)] h none (wX2_init a0 h) := by
  obtain ⟨Y, EY⟩ : ∃ z, z = wX2_init a0 h := ⟨_, rfl⟩
  rw [← EY]
  unfold wX2_init at EY
  unfold okX2_init at K
  refine ea_enter rfl (Nat.le_of_ble_eq_true rfl) ?_
  refine ea_aload_n (pc := 0) dX2_init_0 rfl 0 rfl ?_
  refine ea_objInit (pc := 1) dX2_init_1 ew_423 ew_134 ew_135 (by omega) (Nat.le_of_ble_eq_true rfl) ?_
  refine ea_aload_n (pc := 4) dX2_init_4 rfl 0 rfl ?_
  refine ea_bipush (pc := 5) dX2_init_5 (v := (-60)) rfl ?_
  obtain ⟨f1, K⟩ := K
  refine ea_putI (pc := 7) dX2_init_7 ec_2 (k := 1) (Nat.le_of_ble_eq_true rfl) rfl (Or.inl ⟨rfl, Or.inl ew_426⟩) rfl rfl f1.1 f1.2 ?_
  refine ea_aload_n (pc := 10) dX2_init_10 rfl 0 rfl ?_
  refine ea_bipush (pc := 11) dX2_init_11 (v := 60) rfl ?_
  have f3 := K
  refine ea_putI (pc := 13) dX2_init_13 ec_2 (k := 2) (Nat.le_of_ble_eq_true rfl) rfl (Or.inl ⟨rfl, Or.inl ew_428⟩) rfl rfl f3.1 f3.2 ?_
  subst EY
  exact ea_return (pc := 16) dX2_init_16 rfl
noncomputable def vX2_shown (x0 : Int32) (x1 : Int32) (h : ea_H) : Int32 := ((x0 * ((3600 : Int32) + x1)) / (3600 : Int32))
theorem sX2_shown {d : Nat} {x0 : Int32} {x1 : Int32} {h : ea_H} (hd : 1 ≤ d) : ea_Met mX2_shown d [vI x0, vI x1] h (some (vI (vX2_shown x0 x1 h))) h := by
  obtain ⟨X, EX⟩ : ∃ z, z = vX2_shown x0 x1 h := ⟨_, rfl⟩
  rw [← EX]
  unfold vX2_shown at EX
  refine ea_enter rfl (Nat.le_of_ble_eq_true rfl) ?_
  refine ea_iload_n (pc := 0) dX2_shown_0 rfl 0 rfl ?_
  refine ea_sipush (pc := 1) dX2_shown_1 (v := 3600) rfl ?_
  refine ea_iload_n (pc := 4) dX2_shown_4 rfl 1 rfl ?_
  refine ea_iadd (pc := 5) dX2_shown_5 ?_
  refine ea_imul (pc := 6) dX2_shown_6 ?_
  refine ea_sipush (pc := 7) dX2_shown_7 (v := 3600) rfl ?_
  refine ea_idiv (pc := 10) dX2_shown_10 (by decide) ?_
  subst EX
  exact ea_ireturn (pc := 11) dX2_shown_11 rfl rfl
noncomputable def gX2_learn (b0 : Nat) (a0 : Nat) : Nat → Nat → Int32 → Int32 → Int32 → Int32 → Int32 → ea_H → Option (Int32 × ea_H)
  | 0, _, _, _, _, _, _, _ => none
  | f + 1, lbl, x1, x2, x3, x4, x5, h =>
    if lbl = 0 then (gd ((a0 < ea_n h ∧ ea_c h a0 = 2)) (gX2_learn b0 a0 f 15 (x1 : Int32) (x2 : Int32) ((-1000) : Int32) ((-1000) : Int32) ((ea_i h a0 1) : Int32) h)) else
    if lbl = 15 then (gd ((a0 < ea_n h ∧ ea_c h a0 = 2)) (if (ea_i h a0 2) < x5 then (if x3 = ((-1000) : Int32) then (some ((0 : Int32), h)) else (gd ((a0 < ea_n h ∧ ea_c h a0 = 2)) (gd ((a0 < ea_n (ea_wi h a0 1 x3) ∧ ea_c (ea_wi h a0 1 x3) a0 = 2)) (some ((1 : Int32), (ea_wi (ea_wi h a0 1 x3) a0 2 x4)))))) else (gd ((a0 < ea_n h ∧ ea_c h a0 = 2)) (gd ((a0 < ea_n h ∧ ea_c h a0 = 2)) (if (vX2_shown ((x1 - (ea_i h a0 0)) : Int32) (x5 : Int32) h) = (x2 - (ea_i h a0 0)) then (if x3 = ((-1000) : Int32) then (gX2_learn b0 a0 f 15 (x1 : Int32) (x2 : Int32) (x5 : Int32) (x5 : Int32) ((x5 + (1 : Int32)) : Int32) h) else (gX2_learn b0 a0 f 15 (x1 : Int32) (x2 : Int32) (x3 : Int32) (x5 : Int32) ((x5 + (1 : Int32)) : Int32) h)) else (gX2_learn b0 a0 f 15 (x1 : Int32) (x2 : Int32) (x3 : Int32) (x4 : Int32) ((x5 + (1 : Int32)) : Int32) h)))))) else none
theorem tX2_learn {d : Nat} {b0 : Nat} {a0 : Nat} {h0 : ea_H} (hd : 2 ≤ d) : ∀ (f lbl : Nat) (x1 : Int32) (x2 : Int32) (x3 : Int32) (x4 : Int32) (x5 : Int32) (h : ea_H) (r : Int32) (h' : ea_H), gX2_learn b0 a0 f lbl x1 x2 x3 x4 x5 h = some (r, h') → ShC b0 h → (lbl = 0 → ea_W mX2_learn d h0 (some (vI r)) h' 0 [(0, vR (some a0)), (1, vI x1), (2, vI x2)] [] h) ∧ (lbl = 15 → ea_W mX2_learn d h0 (some (vI r)) h' 15 [(0, vR (some a0)), (1, vI x1), (2, vI x2), (3, vI x3), (4, vI x4), (5, vI x5)] [] h) := by
  intro f
  induction f with
  | zero => intro lbl x1 x2 x3 x4 x5 h r h' E; cases E
  | succ f ih =>
    intro lbl x1 x2 x3 x4 x5 h r h' E hs
    unfold gX2_learn at E
    refine ⟨?_, ?_⟩
    · intro el
      subst el
      have E := (if_pos rfl).symm.trans E
      refine ea_sipush (pc := 0) dX2_learn_0 (v := (-1000)) rfl ?_
      refine ea_istore_n (pc := 3) (lv' := [(0, vR (some a0)), (1, vI x1), (2, vI x2), (3, vI (-1000))]) dX2_learn_3 rfl (Nat.le_of_ble_eq_true rfl) [1, 2, 3, 0] rfl ?_
      refine ea_sipush (pc := 4) dX2_learn_4 (v := (-1000)) rfl ?_
      refine ea_istore (pc := 7) (lv' := [(0, vR (some a0)), (1, vI x1), (2, vI x2), (3, vI (-1000)), (4, vI (-1000))]) dX2_learn_7 (Nat.le_of_ble_eq_true rfl) [1, 2, 3, 4, 0] rfl ?_
      refine ea_aload_n (pc := 9) dX2_learn_9 rfl 0 rfl ?_
      obtain ⟨f1, E⟩ := gd_some E
      refine ea_getI (pc := 10) dX2_learn_10 ec_2 (k := 1) (Nat.le_of_ble_eq_true rfl) rfl (Or.inl ew_426) f1.1 f1.2 ?_
      refine ea_istore (pc := 13) (lv' := [(0, vR (some a0)), (1, vI x1), (2, vI x2), (3, vI (-1000)), (4, vI (-1000)), (5, vI (ea_i h a0 1))]) dX2_learn_13 (Nat.le_of_ble_eq_true rfl) [1, 2, 3, 4, 5, 0] rfl ?_
      exact ((ih 15 (x1 : Int32) (x2 : Int32) ((-1000) : Int32) ((-1000) : Int32) ((ea_i h a0 1) : Int32) h _ _ E hs).2 rfl)
    intro el
    subst el
    have E := (if_neg (by decide)).symm.trans E
    have E := (if_pos rfl).symm.trans E
    refine ea_iload (pc := 15) dX2_learn_15 5 rfl ?_
    refine ea_aload_n (pc := 17) dX2_learn_17 rfl 0 rfl ?_
    obtain ⟨f2, E⟩ := gd_some E
    refine ea_getI (pc := 18) dX2_learn_18 ec_2 (k := 2) (Nat.le_of_ble_eq_true rfl) rfl (Or.inl ew_428) f2.1 f2.2 ?_
    refine ea_icmp_gt (pc := 21) (tgt := 68) dX2_learn_21 rfl (fun c13 => ?_) (fun c13 => ?_)
    · have E := (if_pos c13).symm.trans E
      refine ea_iload_n (pc := 68) dX2_learn_68 rfl 3 rfl ?_
      refine ea_sipush (pc := 69) dX2_learn_69 (v := (-1000)) rfl ?_
      refine ea_icmp_ne (pc := 72) (tgt := 77) dX2_learn_72 rfl (fun c7 => ?_) (fun c7 => ?_)
      · have E := (if_neg c7).symm.trans E
        refine ea_aload_n (pc := 77) dX2_learn_77 rfl 0 rfl ?_
        refine ea_iload_n (pc := 78) dX2_learn_78 rfl 3 rfl ?_
        obtain ⟨f3, E⟩ := gd_some E
        refine ea_putI (pc := 79) dX2_learn_79 ec_2 (k := 1) (Nat.le_of_ble_eq_true rfl) rfl (Or.inl ⟨rfl, Or.inl ew_426⟩) rfl rfl f3.1 f3.2 ?_
        have hs4 : ShC b0 (ea_wi h a0 1 x3) := ShC_wi hs
        refine ea_aload_n (pc := 82) dX2_learn_82 rfl 0 rfl ?_
        refine ea_iload (pc := 83) dX2_learn_83 4 rfl ?_
        obtain ⟨f5, E⟩ := gd_some E
        refine ea_putI (pc := 85) dX2_learn_85 ec_2 (k := 2) (Nat.le_of_ble_eq_true rfl) rfl (Or.inl ⟨rfl, Or.inl ew_428⟩) rfl rfl f5.1 f5.2 ?_
        have hs6 : ShC b0 (ea_wi (ea_wi h a0 1 x3) a0 2 x4) := ShC_wi hs4
        refine ea_iconst (pc := 88) dX2_learn_88 (v := 1) rfl ?_
        cases E
        exact ea_ireturn (pc := 89) dX2_learn_89 rfl (ea_bn (Or.inr rfl))
      · have E := (if_pos c7).symm.trans E
        refine ea_iconst (pc := 75) dX2_learn_75 (v := 0) rfl ?_
        cases E
        exact ea_ireturn (pc := 76) dX2_learn_76 rfl (ea_bn (Or.inl rfl))
    · have E := (if_neg c13).symm.trans E
      refine ea_iload_n (pc := 24) dX2_learn_24 rfl 1 rfl ?_
      refine ea_aload_n (pc := 25) dX2_learn_25 rfl 0 rfl ?_
      obtain ⟨f8, E⟩ := gd_some E
      refine ea_getI (pc := 26) dX2_learn_26 ec_2 (k := 0) (Nat.le_of_ble_eq_true rfl) rfl (Or.inl ew_424) f8.1 f8.2 ?_
      refine ea_isub (pc := 29) dX2_learn_29 ?_
      refine ea_iload (pc := 30) dX2_learn_30 5 rfl ?_
      refine ea_callS (pc := 32) (d' := d - 1) (As := [vI (x1 - (ea_i h a0 0)), vI x5]) (st := []) dX2_learn_32 kX2_shown (sX2_shown (d := d - 1) (by omega)) (by omega) rfl (Nat.le_of_ble_eq_true rfl) ew_1284 ew_1285 ?_
      refine ea_iload_n (pc := 35) dX2_learn_35 rfl 2 rfl ?_
      refine ea_aload_n (pc := 36) dX2_learn_36 rfl 0 rfl ?_
      obtain ⟨f10, E⟩ := gd_some E
      refine ea_getI (pc := 37) dX2_learn_37 ec_2 (k := 0) (Nat.le_of_ble_eq_true rfl) rfl (Or.inl ew_424) f10.1 f10.2 ?_
      refine ea_isub (pc := 40) dX2_learn_40 ?_
      refine ea_icmp_ne (pc := 41) (tgt := 62) dX2_learn_41 rfl (fun c12 => ?_) (fun c12 => ?_)
      · have E := (if_neg c12).symm.trans E
        refine ea_iinc (pc := 62) (v := 1) (lv' := [(0, vR (some a0)), (1, vI x1), (2, vI x2), (3, vI x3), (4, vI x4), (5, vI (x5 + (1 : Int32)))]) dX2_learn_62 5 rfl rfl (Nat.le_of_ble_eq_true rfl) [1, 2, 3, 4, 5, 0] rfl ?_
        refine ea_goto (pc := 65) (tgt := 15) dX2_learn_65 rfl ?_
        exact ((ih 15 (x1 : Int32) (x2 : Int32) (x3 : Int32) (x4 : Int32) ((x5 + (1 : Int32)) : Int32) h _ _ E hs).2 rfl)
      · have E := (if_pos c12).symm.trans E
        refine ea_iload_n (pc := 44) dX2_learn_44 rfl 3 rfl ?_
        refine ea_sipush (pc := 45) dX2_learn_45 (v := (-1000)) rfl ?_
        refine ea_icmp_ne (pc := 48) (tgt := 56) dX2_learn_48 rfl (fun c11 => ?_) (fun c11 => ?_)
        · have E := (if_neg c11).symm.trans E
          refine ea_iload_n (pc := 56) dX2_learn_56 rfl 3 rfl ?_
          refine ea_istore_n (pc := 57) (lv' := [(0, vR (some a0)), (1, vI x1), (2, vI x2), (3, vI x3), (5, vI x5)]) dX2_learn_57 rfl (Nat.le_of_ble_eq_true rfl) [1, 2, 3, 0, 5] rfl ?_
          refine ea_iload (pc := 58) dX2_learn_58 4 rfl ?_
          refine ea_istore (pc := 60) (lv' := [(0, vR (some a0)), (1, vI x1), (2, vI x2), (3, vI x3), (4, vI x5), (5, vI x5)]) dX2_learn_60 (Nat.le_of_ble_eq_true rfl) [1, 2, 3, 4, 0, 5] rfl ?_
          refine ea_iinc (pc := 62) (v := 1) (lv' := [(0, vR (some a0)), (1, vI x1), (2, vI x2), (3, vI x3), (4, vI x5), (5, vI (x5 + (1 : Int32)))]) dX2_learn_62 5 rfl rfl (Nat.le_of_ble_eq_true rfl) [1, 2, 3, 4, 5, 0] rfl ?_
          refine ea_goto (pc := 65) (tgt := 15) dX2_learn_65 rfl ?_
          exact ((ih 15 (x1 : Int32) (x2 : Int32) (x3 : Int32) (x5 : Int32) ((x5 + (1 : Int32)) : Int32) h _ _ E hs).2 rfl)
        · have E := (if_pos c11).symm.trans E
          refine ea_iload (pc := 51) dX2_learn_51 5 rfl ?_
          refine ea_goto (pc := 53) (tgt := 57) dX2_learn_53 rfl ?_
          refine ea_istore_n (pc := 57) (lv' := [(0, vR (some a0)), (1, vI x1), (2, vI x2), (3, vI x5), (5, vI x5)]) dX2_learn_57 rfl (Nat.le_of_ble_eq_true rfl) [1, 2, 3, 0, 5] rfl ?_
          refine ea_iload (pc := 58) dX2_learn_58 4 rfl ?_
          refine ea_istore (pc := 60) (lv' := [(0, vR (some a0)), (1, vI x1), (2, vI x2), (3, vI x5), (4, vI x5), (5, vI x5)]) dX2_learn_60 (Nat.le_of_ble_eq_true rfl) [1, 2, 3, 4, 0, 5] rfl ?_
          refine ea_iinc (pc := 62) (v := 1) (lv' := [(0, vR (some a0)), (1, vI x1), (2, vI x2), (3, vI x5), (4, vI x5), (5, vI (x5 + (1 : Int32)))]) dX2_learn_62 5 rfl rfl (Nat.le_of_ble_eq_true rfl) [1, 2, 3, 4, 5, 0] rfl ?_
          refine ea_goto (pc := 65) (tgt := 15) dX2_learn_65 rfl ?_
          exact ((ih 15 (x1 : Int32) (x2 : Int32) (x5 : Int32) (x5 : Int32) ((x5 + (1 : Int32)) : Int32) h _ _ E hs).2 rfl)
noncomputable def qX2_learn (b0 : Nat) (a0 : Nat) (x1 : Int32) (x2 : Int32) (h : ea_H) : Option (Int32 × ea_H) := gX2_learn b0 a0 1000000000 0 x1 x2 0 0 0 h
def okX2_learn (b0 : Nat) (a0 : Nat) (x1 : Int32) (x2 : Int32) (h : ea_H) : Prop := ∃ x, qX2_learn b0 a0 x1 x2 h = some x
noncomputable def vX2_learn (b0 : Nat) (a0 : Nat) (x1 : Int32) (x2 : Int32) (h : ea_H) : Int32 := ((qX2_learn b0 a0 x1 x2 h).getD (0, h)).1
noncomputable def wX2_learn (b0 : Nat) (a0 : Nat) (x1 : Int32) (x2 : Int32) (h : ea_H) : ea_H := ((qX2_learn b0 a0 x1 x2 h).getD (0, h)).2
theorem sX2_learn {d : Nat} {b0 : Nat} {a0 : Nat} {x1 : Int32} {x2 : Int32} {h : ea_H} (hd : 2 ≤ d) (hs : ShC b0 h) (K : okX2_learn b0 a0 x1 x2 h) : ea_Met mX2_learn d [vR (some a0), vI x1, vI x2] h (some (vI (vX2_learn b0 a0 x1 x2 h))) (wX2_learn b0 a0 x1 x2 h) := by
  obtain ⟨⟨x, y⟩, K⟩ := K
  unfold wX2_learn vX2_learn
  rw [K]
  unfold qX2_learn at K
  exact ea_enter rfl (Nat.le_of_ble_eq_true rfl) ((tX2_learn hd 1000000000 0 x1 x2 0 0 0 h x y K hs).1 rfl)
theorem zX2_learn {b0 : Nat} {a0 : Nat} : ∀ (f lbl : Nat) (x1 : Int32) (x2 : Int32) (x3 : Int32) (x4 : Int32) (x5 : Int32) (h : ea_H) (r : Int32) (h' : ea_H), gX2_learn b0 a0 f lbl x1 x2 x3 x4 x5 h = some (r, h') → ShC b0 h → ShC b0 h' := by
  intro f
  induction f with
  | zero => intro lbl x1 x2 x3 x4 x5 h r h' E; cases E
  | succ f ih =>
    intro lbl x1 x2 x3 x4 x5 h r h' E hs
    unfold gX2_learn at E
    by_cases el0 : lbl = 0
    · have E := (if_pos el0).symm.trans E
      obtain ⟨f1, E⟩ := gd_some E
      exact ih 15 (x1 : Int32) (x2 : Int32) ((-1000) : Int32) ((-1000) : Int32) ((ea_i h a0 1) : Int32) h _ _ E hs
    have E := (if_neg el0).symm.trans E
    by_cases el1 : lbl = 15
    · have E := (if_pos el1).symm.trans E
      obtain ⟨f2, E⟩ := gd_some E
      by_cases c13 : (ea_i h a0 2) < x5
      · have E := (if_pos c13).symm.trans E
        by_cases c7 : x3 = ((-1000) : Int32)
        · have E := (if_pos c7).symm.trans E
          cases E
          exact hs
        have E := (if_neg c7).symm.trans E
        obtain ⟨f3, E⟩ := gd_some E
        obtain ⟨f5, E⟩ := gd_some E
        cases E
        exact (ShC_wi (ShC_wi hs))
      have E := (if_neg c13).symm.trans E
      obtain ⟨f8, E⟩ := gd_some E
      obtain ⟨f10, E⟩ := gd_some E
      by_cases c12 : (vX2_shown ((x1 - (ea_i h a0 0)) : Int32) (x5 : Int32) h) = (x2 - (ea_i h a0 0))
      · have E := (if_pos c12).symm.trans E
        by_cases c11 : x3 = ((-1000) : Int32)
        · have E := (if_pos c11).symm.trans E
          exact ih 15 (x1 : Int32) (x2 : Int32) (x5 : Int32) (x5 : Int32) ((x5 + (1 : Int32)) : Int32) h _ _ E hs
        have E := (if_neg c11).symm.trans E
        exact ih 15 (x1 : Int32) (x2 : Int32) (x3 : Int32) (x5 : Int32) ((x5 + (1 : Int32)) : Int32) h _ _ E hs
      have E := (if_neg c12).symm.trans E
      exact ih 15 (x1 : Int32) (x2 : Int32) (x3 : Int32) (x4 : Int32) ((x5 + (1 : Int32)) : Int32) h _ _ E hs
    have E := (if_neg el1).symm.trans E
    cases E
theorem shX2_learn {b0 : Nat} {a0 : Nat} {x1 : Int32} {x2 : Int32} {h : ea_H} (hs : ShC b0 h) : ShC b0 (wX2_learn b0 a0 x1 x2 h) := by
  unfold wX2_learn
  cases K : qX2_learn b0 a0 x1 x2 h with
  | none => exact hs
  | some x => obtain ⟨x, y⟩ := x; unfold qX2_learn at K; exact zX2_learn _ _ _ _ _ _ _ _ _ _ K hs
noncomputable def gX2_mayShow (b0 : Nat) (a0 : Nat) : Nat → Nat → Int32 → Int32 → Int32 → ea_H → Option (Int32 × ea_H)
  | 0, _, _, _, _, _ => none
  | f + 1, lbl, x1, x2, x3, h =>
    if lbl = 0 then (gd ((a0 < ea_n h ∧ ea_c h a0 = 2)) (if x2 < (vX2_shown (x1 : Int32) ((ea_i h a0 1) : Int32) h) then (some ((0 : Int32), h)) else (gd ((a0 < ea_n h ∧ ea_c h a0 = 2)) (if x2 ≤ (vX2_shown (x1 : Int32) ((ea_i h a0 2) : Int32) h) then (gd ((a0 < ea_n h ∧ ea_c h a0 = 2)) (gX2_mayShow b0 a0 f 31 (x1 : Int32) (x2 : Int32) ((ea_i h a0 1) : Int32) h)) else (some ((0 : Int32), h)))))) else
    if lbl = 31 then (gd ((a0 < ea_n h ∧ ea_c h a0 = 2)) (if (ea_i h a0 2) < x3 then (some ((0 : Int32), h)) else (if (vX2_shown (x1 : Int32) (x3 : Int32) h) = x2 then (some ((1 : Int32), h)) else (gX2_mayShow b0 a0 f 31 (x1 : Int32) (x2 : Int32) ((x3 + (1 : Int32)) : Int32) h)))) else none
theorem tX2_mayShow {d : Nat} {b0 : Nat} {a0 : Nat} {h0 : ea_H} (hd : 2 ≤ d) : ∀ (f lbl : Nat) (x1 : Int32) (x2 : Int32) (x3 : Int32) (h : ea_H) (r : Int32) (h' : ea_H), gX2_mayShow b0 a0 f lbl x1 x2 x3 h = some (r, h') → ShC b0 h → (lbl = 0 → ea_W mX2_mayShow d h0 (some (vI r)) h' 0 [(0, vR (some a0)), (1, vI x1), (2, vI x2)] [] h) ∧ (lbl = 31 → ea_W mX2_mayShow d h0 (some (vI r)) h' 31 [(0, vR (some a0)), (1, vI x1), (2, vI x2), (3, vI x3)] [] h) := by
  intro f
  induction f with
  | zero => intro lbl x1 x2 x3 h r h' E; cases E
  | succ f ih =>
    intro lbl x1 x2 x3 h r h' E hs
    unfold gX2_mayShow at E
    refine ⟨?_, ?_⟩
    · intro el
      subst el
      have E := (if_pos rfl).symm.trans E
      refine ea_iload_n (pc := 0) dX2_mayShow_0 rfl 1 rfl ?_
      refine ea_aload_n (pc := 1) dX2_mayShow_1 rfl 0 rfl ?_
      obtain ⟨f1, E⟩ := gd_some E
      refine ea_getI (pc := 2) dX2_mayShow_2 ec_2 (k := 1) (Nat.le_of_ble_eq_true rfl) rfl (Or.inl ew_426) f1.1 f1.2 ?_
      refine ea_callS (pc := 5) (d' := d - 1) (As := [vI x1, vI (ea_i h a0 1)]) (st := []) dX2_mayShow_5 kX2_shown (sX2_shown (d := d - 1) (by omega)) (by omega) rfl (Nat.le_of_ble_eq_true rfl) ew_1284 ew_1285 ?_
      refine ea_iload_n (pc := 8) dX2_mayShow_8 rfl 2 rfl ?_
      refine ea_icmp_gt (pc := 9) (tgt := 24) dX2_mayShow_9 rfl (fun c7 => ?_) (fun c7 => ?_)
      · have E := (if_pos c7).symm.trans E
        refine ea_iconst (pc := 24) dX2_mayShow_24 (v := 0) rfl ?_
        cases E
        exact ea_ireturn (pc := 25) dX2_mayShow_25 rfl (ea_bn (Or.inl rfl))
      · have E := (if_neg c7).symm.trans E
        refine ea_iload_n (pc := 12) dX2_mayShow_12 rfl 1 rfl ?_
        refine ea_aload_n (pc := 13) dX2_mayShow_13 rfl 0 rfl ?_
        obtain ⟨f3, E⟩ := gd_some E
        refine ea_getI (pc := 14) dX2_mayShow_14 ec_2 (k := 2) (Nat.le_of_ble_eq_true rfl) rfl (Or.inl ew_428) f3.1 f3.2 ?_
        refine ea_callS (pc := 17) (d' := d - 1) (As := [vI x1, vI (ea_i h a0 2)]) (st := []) dX2_mayShow_17 kX2_shown (sX2_shown (d := d - 1) (by omega)) (by omega) rfl (Nat.le_of_ble_eq_true rfl) ew_1284 ew_1285 ?_
        refine ea_iload_n (pc := 20) dX2_mayShow_20 rfl 2 rfl ?_
        refine ea_icmp_ge (pc := 21) (tgt := 26) dX2_mayShow_21 rfl (fun c6 => ?_) (fun c6 => ?_)
        · have E := (if_pos c6).symm.trans E
          refine ea_aload_n (pc := 26) dX2_mayShow_26 rfl 0 rfl ?_
          obtain ⟨f5, E⟩ := gd_some E
          refine ea_getI (pc := 27) dX2_mayShow_27 ec_2 (k := 1) (Nat.le_of_ble_eq_true rfl) rfl (Or.inl ew_426) f5.1 f5.2 ?_
          refine ea_istore_n (pc := 30) (lv' := [(0, vR (some a0)), (1, vI x1), (2, vI x2), (3, vI (ea_i h a0 1))]) dX2_mayShow_30 rfl (Nat.le_of_ble_eq_true rfl) [1, 2, 3, 0] rfl ?_
          exact ((ih 31 (x1 : Int32) (x2 : Int32) ((ea_i h a0 1) : Int32) h _ _ E hs).2 rfl)
        · have E := (if_neg c6).symm.trans E
          refine ea_iconst (pc := 24) dX2_mayShow_24 (v := 0) rfl ?_
          cases E
          exact ea_ireturn (pc := 25) dX2_mayShow_25 rfl (ea_bn (Or.inl rfl))
    intro el
    subst el
    have E := (if_neg (by decide)).symm.trans E
    have E := (if_pos rfl).symm.trans E
    refine ea_iload_n (pc := 31) dX2_mayShow_31 rfl 3 rfl ?_
    refine ea_aload_n (pc := 32) dX2_mayShow_32 rfl 0 rfl ?_
    obtain ⟨f8, E⟩ := gd_some E
    refine ea_getI (pc := 33) dX2_mayShow_33 ec_2 (k := 2) (Nat.le_of_ble_eq_true rfl) rfl (Or.inl ew_428) f8.1 f8.2 ?_
    refine ea_icmp_gt (pc := 36) (tgt := 56) dX2_mayShow_36 rfl (fun c11 => ?_) (fun c11 => ?_)
    · have E := (if_pos c11).symm.trans E
      refine ea_iconst (pc := 56) dX2_mayShow_56 (v := 0) rfl ?_
      cases E
      exact ea_ireturn (pc := 57) dX2_mayShow_57 rfl (ea_bn (Or.inl rfl))
    · have E := (if_neg c11).symm.trans E
      refine ea_iload_n (pc := 39) dX2_mayShow_39 rfl 1 rfl ?_
      refine ea_iload_n (pc := 40) dX2_mayShow_40 rfl 3 rfl ?_
      refine ea_callS (pc := 41) (d' := d - 1) (As := [vI x1, vI x3]) (st := []) dX2_mayShow_41 kX2_shown (sX2_shown (d := d - 1) (by omega)) (by omega) rfl (Nat.le_of_ble_eq_true rfl) ew_1284 ew_1285 ?_
      refine ea_iload_n (pc := 44) dX2_mayShow_44 rfl 2 rfl ?_
      refine ea_icmp_ne (pc := 45) (tgt := 50) dX2_mayShow_45 rfl (fun c10 => ?_) (fun c10 => ?_)
      · have E := (if_neg c10).symm.trans E
        refine ea_iinc (pc := 50) (v := 1) (lv' := [(0, vR (some a0)), (1, vI x1), (2, vI x2), (3, vI (x3 + (1 : Int32)))]) dX2_mayShow_50 3 rfl rfl (Nat.le_of_ble_eq_true rfl) [1, 2, 3, 0] rfl ?_
        refine ea_goto (pc := 53) (tgt := 31) dX2_mayShow_53 rfl ?_
        exact ((ih 31 (x1 : Int32) (x2 : Int32) ((x3 + (1 : Int32)) : Int32) h _ _ E hs).2 rfl)
      · have E := (if_pos c10).symm.trans E
        refine ea_iconst (pc := 48) dX2_mayShow_48 (v := 1) rfl ?_
        cases E
        exact ea_ireturn (pc := 49) dX2_mayShow_49 rfl (ea_bn (Or.inr rfl))
noncomputable def qX2_mayShow (b0 : Nat) (a0 : Nat) (x1 : Int32) (x2 : Int32) (h : ea_H) : Option (Int32 × ea_H) := gX2_mayShow b0 a0 1000000000 0 x1 x2 0 h
def okX2_mayShow (b0 : Nat) (a0 : Nat) (x1 : Int32) (x2 : Int32) (h : ea_H) : Prop := ∃ x, qX2_mayShow b0 a0 x1 x2 h = some x
noncomputable def vX2_mayShow (b0 : Nat) (a0 : Nat) (x1 : Int32) (x2 : Int32) (h : ea_H) : Int32 := ((qX2_mayShow b0 a0 x1 x2 h).getD (0, h)).1
noncomputable def wX2_mayShow (b0 : Nat) (a0 : Nat) (x1 : Int32) (x2 : Int32) (h : ea_H) : ea_H := ((qX2_mayShow b0 a0 x1 x2 h).getD (0, h)).2
theorem sX2_mayShow {d : Nat} {b0 : Nat} {a0 : Nat} {x1 : Int32} {x2 : Int32} {h : ea_H} (hd : 2 ≤ d) (hs : ShC b0 h) (K : okX2_mayShow b0 a0 x1 x2 h) : ea_Met mX2_mayShow d [vR (some a0), vI x1, vI x2] h (some (vI (vX2_mayShow b0 a0 x1 x2 h))) (wX2_mayShow b0 a0 x1 x2 h) := by
  obtain ⟨⟨x, y⟩, K⟩ := K
  unfold wX2_mayShow vX2_mayShow
  rw [K]
  unfold qX2_mayShow at K
  exact ea_enter rfl (Nat.le_of_ble_eq_true rfl) ((tX2_mayShow hd 1000000000 0 x1 x2 0 h x y K hs).1 rfl)
theorem zX2_mayShow {b0 : Nat} {a0 : Nat} : ∀ (f lbl : Nat) (x1 : Int32) (x2 : Int32) (x3 : Int32) (h : ea_H) (r : Int32) (h' : ea_H), gX2_mayShow b0 a0 f lbl x1 x2 x3 h = some (r, h') → ShC b0 h → ShC b0 h' := by
  intro f
  induction f with
  | zero => intro lbl x1 x2 x3 h r h' E; cases E
  | succ f ih =>
    intro lbl x1 x2 x3 h r h' E hs
    unfold gX2_mayShow at E
    by_cases el0 : lbl = 0
    · have E := (if_pos el0).symm.trans E
      obtain ⟨f1, E⟩ := gd_some E
      by_cases c7 : x2 < (vX2_shown (x1 : Int32) ((ea_i h a0 1) : Int32) h)
      · have E := (if_pos c7).symm.trans E
        cases E
        exact hs
      have E := (if_neg c7).symm.trans E
      obtain ⟨f3, E⟩ := gd_some E
      by_cases c6 : x2 ≤ (vX2_shown (x1 : Int32) ((ea_i h a0 2) : Int32) h)
      · have E := (if_pos c6).symm.trans E
        obtain ⟨f5, E⟩ := gd_some E
        exact ih 31 (x1 : Int32) (x2 : Int32) ((ea_i h a0 1) : Int32) h _ _ E hs
      have E := (if_neg c6).symm.trans E
      cases E
      exact hs
    have E := (if_neg el0).symm.trans E
    by_cases el1 : lbl = 31
    · have E := (if_pos el1).symm.trans E
      obtain ⟨f8, E⟩ := gd_some E
      by_cases c11 : (ea_i h a0 2) < x3
      · have E := (if_pos c11).symm.trans E
        cases E
        exact hs
      have E := (if_neg c11).symm.trans E
      by_cases c10 : (vX2_shown (x1 : Int32) (x3 : Int32) h) = x2
      · have E := (if_pos c10).symm.trans E
        cases E
        exact hs
      have E := (if_neg c10).symm.trans E
      exact ih 31 (x1 : Int32) (x2 : Int32) ((x3 + (1 : Int32)) : Int32) h _ _ E hs
    have E := (if_neg el1).symm.trans E
    cases E
theorem shX2_mayShow {b0 : Nat} {a0 : Nat} {x1 : Int32} {x2 : Int32} {h : ea_H} (hs : ShC b0 h) : ShC b0 (wX2_mayShow b0 a0 x1 x2 h) := by
  unfold wX2_mayShow
  cases K : qX2_mayShow b0 a0 x1 x2 h with
  | none => exact hs
  | some x => obtain ⟨x, y⟩ := x; unfold qX2_mayShow at K; exact zX2_mayShow _ _ _ _ _ _ _ _ K hs
noncomputable def gX2_least (b0 : Nat) (a0 : Nat) : Nat → Nat → Int32 → Int32 → ea_H → Option (Int32 × ea_H)
  | 0, _, _, _, _ => none
  | f + 1, lbl, x1, x2, h =>
    if lbl = 0 then (gd ((a0 < ea_n h ∧ ea_c h a0 = 2)) (gX2_least b0 a0 f 5 (x1 : Int32) ((ea_i h a0 0) : Int32) h)) else
    if lbl = 5 then (if (10079 : Int32) < x2 then (some (((-1) : Int32), h)) else (gd ((a0 < ea_n h ∧ ea_c h a0 = 2)) (gd ((a0 < ea_n h ∧ ea_c h a0 = 2)) (gd ((a0 < ea_n h ∧ ea_c h a0 = 2)) (gd ((okX2_mayShow b0 a0 ((x2 - (ea_i h a0 0)) : Int32) ((x1 - (ea_i h a0 0)) : Int32) h)) (if (vX2_mayShow b0 a0 ((x2 - (ea_i h a0 0)) : Int32) ((x1 - (ea_i h a0 0)) : Int32) h) = (0 : Int32) then (gX2_least b0 a0 f 5 (x1 : Int32) ((x2 + (1 : Int32)) : Int32) (wX2_mayShow b0 a0 ((x2 - (ea_i h a0 0)) : Int32) ((x1 - (ea_i h a0 0)) : Int32) h)) else (some (x2, (wX2_mayShow b0 a0 ((x2 - (ea_i h a0 0)) : Int32) ((x1 - (ea_i h a0 0)) : Int32) h))))))))) else none
theorem tX2_least {d : Nat} {b0 : Nat} {a0 : Nat} {h0 : ea_H} (hd : 3 ≤ d) : ∀ (f lbl : Nat) (x1 : Int32) (x2 : Int32) (h : ea_H) (r : Int32) (h' : ea_H), gX2_least b0 a0 f lbl x1 x2 h = some (r, h') → ShC b0 h → (lbl = 0 → ea_W mX2_least d h0 (some (vI r)) h' 0 [(0, vR (some a0)), (1, vI x1)] [] h) ∧ (lbl = 5 → ea_W mX2_least d h0 (some (vI r)) h' 5 [(0, vR (some a0)), (1, vI x1), (2, vI x2)] [] h) := by
  intro f
  induction f with
  | zero => intro lbl x1 x2 h r h' E; cases E
  | succ f ih =>
    intro lbl x1 x2 h r h' E hs
    unfold gX2_least at E
    refine ⟨?_, ?_⟩
    · intro el
      subst el
      have E := (if_pos rfl).symm.trans E
      refine ea_aload_n (pc := 0) dX2_least_0 rfl 0 rfl ?_
      obtain ⟨f1, E⟩ := gd_some E
      refine ea_getI (pc := 1) dX2_least_1 ec_2 (k := 0) (Nat.le_of_ble_eq_true rfl) rfl (Or.inl ew_424) f1.1 f1.2 ?_
      refine ea_istore_n (pc := 4) (lv' := [(0, vR (some a0)), (1, vI x1), (2, vI (ea_i h a0 0))]) dX2_least_4 rfl (Nat.le_of_ble_eq_true rfl) [1, 2, 0] rfl ?_
      exact ((ih 5 (x1 : Int32) ((ea_i h a0 0) : Int32) h _ _ E hs).2 rfl)
    intro el
    subst el
    have E := (if_neg (by decide)).symm.trans E
    have E := (if_pos rfl).symm.trans E
    refine ea_iload_n (pc := 5) dX2_least_5 rfl 2 rfl ?_
    refine ea_sipush (pc := 6) dX2_least_6 (v := 10079) rfl ?_
    refine ea_icmp_gt (pc := 9) (tgt := 39) dX2_least_9 rfl (fun c8 => ?_) (fun c8 => ?_)
    · have E := (if_pos c8).symm.trans E
      refine ea_iconst (pc := 39) dX2_least_39 (v := (-1)) rfl ?_
      cases E
      exact ea_ireturn (pc := 40) dX2_least_40 rfl rfl
    · have E := (if_neg c8).symm.trans E
      refine ea_aload_n (pc := 12) dX2_least_12 rfl 0 rfl ?_
      refine ea_iload_n (pc := 13) dX2_least_13 rfl 2 rfl ?_
      refine ea_aload_n (pc := 14) dX2_least_14 rfl 0 rfl ?_
      obtain ⟨f2, E⟩ := gd_some E
      refine ea_getI (pc := 15) dX2_least_15 ec_2 (k := 0) (Nat.le_of_ble_eq_true rfl) rfl (Or.inl ew_424) f2.1 f2.2 ?_
      refine ea_isub (pc := 18) dX2_least_18 ?_
      refine ea_iload_n (pc := 19) dX2_least_19 rfl 1 rfl ?_
      refine ea_aload_n (pc := 20) dX2_least_20 rfl 0 rfl ?_
      obtain ⟨f3, E⟩ := gd_some E
      refine ea_getI (pc := 21) dX2_least_21 ec_2 (k := 0) (Nat.le_of_ble_eq_true rfl) rfl (Or.inl ew_424) f3.1 f3.2 ?_
      refine ea_isub (pc := 24) dX2_least_24 ?_
      obtain ⟨f4, E⟩ := gd_some E
      obtain ⟨z5, E⟩ := gd_some E
      refine ea_callV (pc := 25) (d' := d - 1) (As := [vI (x2 - (ea_i h a0 0)), vI (x1 - (ea_i h a0 0))]) (st := []) dX2_least_25 kX2_mayShow (sX2_mayShow (d := d - 1) (by omega) hs z5) (by omega) rfl (Nat.le_of_ble_eq_true rfl) ew_1299 ew_1301 ew_44 (ci := 2) rfl (by decide) f4.1 f4.2 ?_
      have hs6 : ShC b0 (wX2_mayShow b0 a0 ((x2 - (ea_i h a0 0)) : Int32) ((x1 - (ea_i h a0 0)) : Int32) h) := shX2_mayShow hs
      refine ea_if_eq (pc := 28) (tgt := 33) dX2_least_28 rfl (fun c7 => ?_) (fun c7 => ?_)
      · have E := (if_pos c7).symm.trans E
        refine ea_iinc (pc := 33) (v := 1) (lv' := [(0, vR (some a0)), (1, vI x1), (2, vI (x2 + (1 : Int32)))]) dX2_least_33 2 rfl rfl (Nat.le_of_ble_eq_true rfl) [1, 2, 0] rfl ?_
        refine ea_goto (pc := 36) (tgt := 5) dX2_least_36 rfl ?_
        exact ((ih 5 (x1 : Int32) ((x2 + (1 : Int32)) : Int32) (wX2_mayShow b0 a0 ((x2 - (ea_i h a0 0)) : Int32) ((x1 - (ea_i h a0 0)) : Int32) h) _ _ E hs6).2 rfl)
      · have E := (if_neg c7).symm.trans E
        refine ea_iload_n (pc := 31) dX2_least_31 rfl 2 rfl ?_
        cases E
        exact ea_ireturn (pc := 32) dX2_least_32 rfl rfl
noncomputable def qX2_least (b0 : Nat) (a0 : Nat) (x1 : Int32) (h : ea_H) : Option (Int32 × ea_H) := gX2_least b0 a0 1000000000 0 x1 0 h
def okX2_least (b0 : Nat) (a0 : Nat) (x1 : Int32) (h : ea_H) : Prop := ∃ x, qX2_least b0 a0 x1 h = some x
noncomputable def vX2_least (b0 : Nat) (a0 : Nat) (x1 : Int32) (h : ea_H) : Int32 := ((qX2_least b0 a0 x1 h).getD (0, h)).1
noncomputable def wX2_least (b0 : Nat) (a0 : Nat) (x1 : Int32) (h : ea_H) : ea_H := ((qX2_least b0 a0 x1 h).getD (0, h)).2
theorem sX2_least {d : Nat} {b0 : Nat} {a0 : Nat} {x1 : Int32} {h : ea_H} (hd : 3 ≤ d) (hs : ShC b0 h) (K : okX2_least b0 a0 x1 h) : ea_Met mX2_least d [vR (some a0), vI x1] h (some (vI (vX2_least b0 a0 x1 h))) (wX2_least b0 a0 x1 h) := by
  obtain ⟨⟨x, y⟩, K⟩ := K
  unfold wX2_least vX2_least
  rw [K]
  unfold qX2_least at K
  exact ea_enter rfl (Nat.le_of_ble_eq_true rfl) ((tX2_least hd 1000000000 0 x1 0 h x y K hs).1 rfl)
theorem zX2_least {b0 : Nat} {a0 : Nat} : ∀ (f lbl : Nat) (x1 : Int32) (x2 : Int32) (h : ea_H) (r : Int32) (h' : ea_H), gX2_least b0 a0 f lbl x1 x2 h = some (r, h') → ShC b0 h → ShC b0 h' := by
  intro f
  induction f with
  | zero => intro lbl x1 x2 h r h' E; cases E
  | succ f ih =>
    intro lbl x1 x2 h r h' E hs
    unfold gX2_least at E
    by_cases el0 : lbl = 0
    · have E := (if_pos el0).symm.trans E
      obtain ⟨f1, E⟩ := gd_some E
      exact ih 5 (x1 : Int32) ((ea_i h a0 0) : Int32) h _ _ E hs
    have E := (if_neg el0).symm.trans E
    by_cases el1 : lbl = 5
    · have E := (if_pos el1).symm.trans E
      by_cases c8 : (10079 : Int32) < x2
      · have E := (if_pos c8).symm.trans E
        cases E
        exact hs
      have E := (if_neg c8).symm.trans E
      obtain ⟨f2, E⟩ := gd_some E
      obtain ⟨f3, E⟩ := gd_some E
      obtain ⟨f4, E⟩ := gd_some E
      obtain ⟨z5, E⟩ := gd_some E
      by_cases c7 : (vX2_mayShow b0 a0 ((x2 - (ea_i h a0 0)) : Int32) ((x1 - (ea_i h a0 0)) : Int32) h) = (0 : Int32)
      · have E := (if_pos c7).symm.trans E
        exact ih 5 (x1 : Int32) ((x2 + (1 : Int32)) : Int32) (wX2_mayShow b0 a0 ((x2 - (ea_i h a0 0)) : Int32) ((x1 - (ea_i h a0 0)) : Int32) h) _ _ E (shX2_mayShow hs)
      have E := (if_neg c7).symm.trans E
      cases E
      exact (shX2_mayShow hs)
    have E := (if_neg el1).symm.trans E
    cases E
theorem shX2_least {b0 : Nat} {a0 : Nat} {x1 : Int32} {h : ea_H} (hs : ShC b0 h) : ShC b0 (wX2_least b0 a0 x1 h) := by
  unfold wX2_least
  cases K : qX2_least b0 a0 x1 h with
  | none => exact hs
  | some x => obtain ⟨x, y⟩ := x; unfold qX2_least at K; exact zX2_least _ _ _ _ _ _ _ K hs
noncomputable def gX2_greatest (b0 : Nat) (a0 : Nat) : Nat → Nat → Int32 → Int32 → ea_H → Option (Int32 × ea_H)
  | 0, _, _, _, _ => none
  | f + 1, lbl, x1, x2, h =>
    if lbl = 0 then (gX2_greatest b0 a0 f 4 (x1 : Int32) (10079 : Int32) h) else
    if lbl = 4 then (gd ((a0 < ea_n h ∧ ea_c h a0 = 2)) (if x2 < (ea_i h a0 0) then (some (((-1) : Int32), h)) else (gd ((a0 < ea_n h ∧ ea_c h a0 = 2)) (gd ((a0 < ea_n h ∧ ea_c h a0 = 2)) (gd ((a0 < ea_n h ∧ ea_c h a0 = 2)) (gd ((okX2_mayShow b0 a0 ((x2 - (ea_i h a0 0)) : Int32) ((x1 - (ea_i h a0 0)) : Int32) h)) (if (vX2_mayShow b0 a0 ((x2 - (ea_i h a0 0)) : Int32) ((x1 - (ea_i h a0 0)) : Int32) h) = (0 : Int32) then (gX2_greatest b0 a0 f 4 (x1 : Int32) ((x2 + ((-1) : Int32)) : Int32) (wX2_mayShow b0 a0 ((x2 - (ea_i h a0 0)) : Int32) ((x1 - (ea_i h a0 0)) : Int32) h)) else (some (x2, (wX2_mayShow b0 a0 ((x2 - (ea_i h a0 0)) : Int32) ((x1 - (ea_i h a0 0)) : Int32) h)))))))))) else none
theorem tX2_greatest {d : Nat} {b0 : Nat} {a0 : Nat} {h0 : ea_H} (hd : 3 ≤ d) : ∀ (f lbl : Nat) (x1 : Int32) (x2 : Int32) (h : ea_H) (r : Int32) (h' : ea_H), gX2_greatest b0 a0 f lbl x1 x2 h = some (r, h') → ShC b0 h → (lbl = 0 → ea_W mX2_greatest d h0 (some (vI r)) h' 0 [(0, vR (some a0)), (1, vI x1)] [] h) ∧ (lbl = 4 → ea_W mX2_greatest d h0 (some (vI r)) h' 4 [(0, vR (some a0)), (1, vI x1), (2, vI x2)] [] h) := by
  intro f
  induction f with
  | zero => intro lbl x1 x2 h r h' E; cases E
  | succ f ih =>
    intro lbl x1 x2 h r h' E hs
    unfold gX2_greatest at E
    refine ⟨?_, ?_⟩
    · intro el
      subst el
      have E := (if_pos rfl).symm.trans E
      refine ea_sipush (pc := 0) dX2_greatest_0 (v := 10079) rfl ?_
      refine ea_istore_n (pc := 3) (lv' := [(0, vR (some a0)), (1, vI x1), (2, vI 10079)]) dX2_greatest_3 rfl (Nat.le_of_ble_eq_true rfl) [1, 2, 0] rfl ?_
      exact ((ih 4 (x1 : Int32) (10079 : Int32) h _ _ E hs).2 rfl)
    intro el
    subst el
    have E := (if_neg (by decide)).symm.trans E
    have E := (if_pos rfl).symm.trans E
    refine ea_iload_n (pc := 4) dX2_greatest_4 rfl 2 rfl ?_
    refine ea_aload_n (pc := 5) dX2_greatest_5 rfl 0 rfl ?_
    obtain ⟨f1, E⟩ := gd_some E
    refine ea_getI (pc := 6) dX2_greatest_6 ec_2 (k := 0) (Nat.le_of_ble_eq_true rfl) rfl (Or.inl ew_424) f1.1 f1.2 ?_
    refine ea_icmp_lt (pc := 9) (tgt := 39) dX2_greatest_9 rfl (fun c8 => ?_) (fun c8 => ?_)
    · have E := (if_pos c8).symm.trans E
      refine ea_iconst (pc := 39) dX2_greatest_39 (v := (-1)) rfl ?_
      cases E
      exact ea_ireturn (pc := 40) dX2_greatest_40 rfl rfl
    · have E := (if_neg c8).symm.trans E
      refine ea_aload_n (pc := 12) dX2_greatest_12 rfl 0 rfl ?_
      refine ea_iload_n (pc := 13) dX2_greatest_13 rfl 2 rfl ?_
      refine ea_aload_n (pc := 14) dX2_greatest_14 rfl 0 rfl ?_
      obtain ⟨f2, E⟩ := gd_some E
      refine ea_getI (pc := 15) dX2_greatest_15 ec_2 (k := 0) (Nat.le_of_ble_eq_true rfl) rfl (Or.inl ew_424) f2.1 f2.2 ?_
      refine ea_isub (pc := 18) dX2_greatest_18 ?_
      refine ea_iload_n (pc := 19) dX2_greatest_19 rfl 1 rfl ?_
      refine ea_aload_n (pc := 20) dX2_greatest_20 rfl 0 rfl ?_
      obtain ⟨f3, E⟩ := gd_some E
      refine ea_getI (pc := 21) dX2_greatest_21 ec_2 (k := 0) (Nat.le_of_ble_eq_true rfl) rfl (Or.inl ew_424) f3.1 f3.2 ?_
      refine ea_isub (pc := 24) dX2_greatest_24 ?_
      obtain ⟨f4, E⟩ := gd_some E
      obtain ⟨z5, E⟩ := gd_some E
      refine ea_callV (pc := 25) (d' := d - 1) (As := [vI (x2 - (ea_i h a0 0)), vI (x1 - (ea_i h a0 0))]) (st := []) dX2_greatest_25 kX2_mayShow (sX2_mayShow (d := d - 1) (by omega) hs z5) (by omega) rfl (Nat.le_of_ble_eq_true rfl) ew_1299 ew_1301 ew_44 (ci := 2) rfl (by decide) f4.1 f4.2 ?_
      have hs6 : ShC b0 (wX2_mayShow b0 a0 ((x2 - (ea_i h a0 0)) : Int32) ((x1 - (ea_i h a0 0)) : Int32) h) := shX2_mayShow hs
      refine ea_if_eq (pc := 28) (tgt := 33) dX2_greatest_28 rfl (fun c7 => ?_) (fun c7 => ?_)
      · have E := (if_pos c7).symm.trans E
        refine ea_iinc (pc := 33) (v := (-1)) (lv' := [(0, vR (some a0)), (1, vI x1), (2, vI (x2 + ((-1) : Int32)))]) dX2_greatest_33 2 rfl rfl (Nat.le_of_ble_eq_true rfl) [1, 2, 0] rfl ?_
        refine ea_goto (pc := 36) (tgt := 4) dX2_greatest_36 rfl ?_
        exact ((ih 4 (x1 : Int32) ((x2 + ((-1) : Int32)) : Int32) (wX2_mayShow b0 a0 ((x2 - (ea_i h a0 0)) : Int32) ((x1 - (ea_i h a0 0)) : Int32) h) _ _ E hs6).2 rfl)
      · have E := (if_neg c7).symm.trans E
        refine ea_iload_n (pc := 31) dX2_greatest_31 rfl 2 rfl ?_
        cases E
        exact ea_ireturn (pc := 32) dX2_greatest_32 rfl rfl
noncomputable def qX2_greatest (b0 : Nat) (a0 : Nat) (x1 : Int32) (h : ea_H) : Option (Int32 × ea_H) := gX2_greatest b0 a0 1000000000 0 x1 0 h
def okX2_greatest (b0 : Nat) (a0 : Nat) (x1 : Int32) (h : ea_H) : Prop := ∃ x, qX2_greatest b0 a0 x1 h = some x
noncomputable def vX2_greatest (b0 : Nat) (a0 : Nat) (x1 : Int32) (h : ea_H) : Int32 := ((qX2_greatest b0 a0 x1 h).getD (0, h)).1
noncomputable def wX2_greatest (b0 : Nat) (a0 : Nat) (x1 : Int32) (h : ea_H) : ea_H := ((qX2_greatest b0 a0 x1 h).getD (0, h)).2
theorem sX2_greatest {d : Nat} {b0 : Nat} {a0 : Nat} {x1 : Int32} {h : ea_H} (hd : 3 ≤ d) (hs : ShC b0 h) (K : okX2_greatest b0 a0 x1 h) : ea_Met mX2_greatest d [vR (some a0), vI x1] h (some (vI (vX2_greatest b0 a0 x1 h))) (wX2_greatest b0 a0 x1 h) := by
  obtain ⟨⟨x, y⟩, K⟩ := K
  unfold wX2_greatest vX2_greatest
  rw [K]
  unfold qX2_greatest at K
  exact ea_enter rfl (Nat.le_of_ble_eq_true rfl) ((tX2_greatest hd 1000000000 0 x1 0 h x y K hs).1 rfl)
theorem zX2_greatest {b0 : Nat} {a0 : Nat} : ∀ (f lbl : Nat) (x1 : Int32) (x2 : Int32) (h : ea_H) (r : Int32) (h' : ea_H), gX2_greatest b0 a0 f lbl x1 x2 h = some (r, h') → ShC b0 h → ShC b0 h' := by
  intro f
  induction f with
  | zero => intro lbl x1 x2 h r h' E; cases E
  | succ f ih =>
    intro lbl x1 x2 h r h' E hs
    unfold gX2_greatest at E
    by_cases el0 : lbl = 0
    · have E := (if_pos el0).symm.trans E
      exact ih 4 (x1 : Int32) (10079 : Int32) h _ _ E hs
    have E := (if_neg el0).symm.trans E
    by_cases el1 : lbl = 4
    · have E := (if_pos el1).symm.trans E
      obtain ⟨f1, E⟩ := gd_some E
      by_cases c8 : x2 < (ea_i h a0 0)
      · have E := (if_pos c8).symm.trans E
        cases E
        exact hs
      have E := (if_neg c8).symm.trans E
      obtain ⟨f2, E⟩ := gd_some E
      obtain ⟨f3, E⟩ := gd_some E
      obtain ⟨f4, E⟩ := gd_some E
      obtain ⟨z5, E⟩ := gd_some E
      by_cases c7 : (vX2_mayShow b0 a0 ((x2 - (ea_i h a0 0)) : Int32) ((x1 - (ea_i h a0 0)) : Int32) h) = (0 : Int32)
      · have E := (if_pos c7).symm.trans E
        exact ih 4 (x1 : Int32) ((x2 + ((-1) : Int32)) : Int32) (wX2_mayShow b0 a0 ((x2 - (ea_i h a0 0)) : Int32) ((x1 - (ea_i h a0 0)) : Int32) h) _ _ E (shX2_mayShow hs)
      have E := (if_neg c7).symm.trans E
      cases E
      exact (shX2_mayShow hs)
    have E := (if_neg el1).symm.trans E
    cases E
theorem shX2_greatest {b0 : Nat} {a0 : Nat} {x1 : Int32} {h : ea_H} (hs : ShC b0 h) : ShC b0 (wX2_greatest b0 a0 x1 h) := by
  unfold wX2_greatest
  cases K : qX2_greatest b0 a0 x1 h with
  | none => exact hs
  | some x => obtain ⟨x, y⟩ := x; unfold qX2_greatest at K; exact zX2_greatest _ _ _ _ _ _ _ K hs
noncomputable def wX3_init (a0 : Nat) (h : ea_H) : ea_H := (ea_wr (ea_new (ea_wr (ea_new (ea_wr (ea_new (ea_wr (ea_new h 20 8 8) a0 1 (some (ea_n h))) 20 8 8) a0 2 (some (ea_n (ea_wr (ea_new h 20 8 8) a0 1 (some (ea_n h)))))) 20 8 8) a0 3 (some (ea_n (ea_wr (ea_new (ea_wr (ea_new h 20 8 8) a0 1 (some (ea_n h))) 20 8 8) a0 2 (some (ea_n (ea_wr (ea_new h 20 8 8) a0 1 (some (ea_n h))))))))) 20 8 8) a0 4 (some (ea_n (ea_wr (ea_new (ea_wr (ea_new (ea_wr (ea_new h 20 8 8) a0 1 (some (ea_n h))) 20 8 8) a0 2 (some (ea_n (ea_wr (ea_new h 20 8 8) a0 1 (some (ea_n h)))))) 20 8 8) a0 3 (some (ea_n (ea_wr (ea_new (ea_wr (ea_new h 20 8 8) a0 1 (some (ea_n h))) 20 8 8) a0 2 (some (ea_n (ea_wr (ea_new h 20 8 8) a0 1 (some (ea_n h))))))))))))
def okX3_init (a0 : Nat) (h : ea_H) : Prop := (a0 < ea_n (ea_new h 20 8 8) ∧ ea_c (ea_new h 20 8 8) a0 = 3) ∧ ((a0 < ea_n (ea_new (ea_wr (ea_new h 20 8 8) a0 1 (some (ea_n h))) 20 8 8) ∧ ea_c (ea_new (ea_wr (ea_new h 20 8 8) a0 1 (some (ea_n h))) 20 8 8) a0 = 3) ∧ ((a0 < ea_n (ea_new (ea_wr (ea_new (ea_wr (ea_new h 20 8 8) a0 1 (some (ea_n h))) 20 8 8) a0 2 (some (ea_n (ea_wr (ea_new h 20 8 8) a0 1 (some (ea_n h)))))) 20 8 8) ∧ ea_c (ea_new (ea_wr (ea_new (ea_wr (ea_new h 20 8 8) a0 1 (some (ea_n h))) 20 8 8) a0 2 (some (ea_n (ea_wr (ea_new h 20 8 8) a0 1 (some (ea_n h)))))) 20 8 8) a0 = 3) ∧ ((a0 < ea_n (ea_new (ea_wr (ea_new (ea_wr (ea_new (ea_wr (ea_new h 20 8 8) a0 1 (some (ea_n h))) 20 8 8) a0 2 (some (ea_n (ea_wr (ea_new h 20 8 8) a0 1 (some (ea_n h)))))) 20 8 8) a0 3 (some (ea_n (ea_wr (ea_new (ea_wr (ea_new h 20 8 8) a0 1 (some (ea_n h))) 20 8 8) a0 2 (some (ea_n (ea_wr (ea_new h 20 8 8) a0 1 (some (ea_n h))))))))) 20 8 8) ∧ ea_c (ea_new (ea_wr (ea_new (ea_wr (ea_new (ea_wr (ea_new h 20 8 8) a0 1 (some (ea_n h))) 20 8 8) a0 2 (some (ea_n (ea_wr (ea_new h 20 8 8) a0 1 (some (ea_n h)))))) 20 8 8) a0 3 (some (ea_n (ea_wr (ea_new (ea_wr (ea_new h 20 8 8) a0 1 (some (ea_n h))) 20 8 8) a0 2 (some (ea_n (ea_wr (ea_new h 20 8 8) a0 1 (some (ea_n h))))))))) 20 8 8) a0 = 3))))
theorem sX3_init {d : Nat} {a0 : Nat} {h : ea_H} (hd : 1 ≤ d) (K : okX3_init a0 h) : ea_Met mX3_init d [vR (some a0)] h none (wX3_init a0 h) := by
  obtain ⟨Y, EY⟩ : ∃ z, z = wX3_init a0 h := ⟨_, rfl⟩
  rw [← EY]
  unfold wX3_init at EY
  unfold okX3_init at K
  refine ea_enter rfl (Nat.le_of_ble_eq_true rfl) ?_
  refine ea_aload_n (pc := 0) dX3_init_0 rfl 0 rfl ?_
  refine ea_objInit (pc := 1) dX3_init_1 ew_260 ew_134 ew_135 (by omega) (Nat.le_of_ble_eq_true rfl) ?_
  refine ea_aload_n (pc := 4) dX3_init_4 rfl 0 rfl ?_
  refine ea_bipush (pc := 5) dX3_init_5 (v := 8) rfl ?_
  refine ea_newI (pc := 7) (N := 8) dX3_init_7 ew_170 (by decide) rfl (Nat.le_of_ble_eq_true rfl) ?_
  obtain ⟨f2, K⟩ := K
  refine ea_putR (pc := 9) dX3_init_9 ec_3 (k := 1) (Nat.le_of_ble_eq_true rfl) rfl (Or.inr ⟨rfl, rfl, rfl, ew_263⟩) f2.1 f2.2 ?_
  refine ea_aload_n (pc := 12) dX3_init_12 rfl 0 rfl ?_
  refine ea_bipush (pc := 13) dX3_init_13 (v := 8) rfl ?_
  refine ea_newI (pc := 15) (N := 8) dX3_init_15 ew_170 (by decide) rfl (Nat.le_of_ble_eq_true rfl) ?_
  obtain ⟨f5, K⟩ := K
  refine ea_putR (pc := 17) dX3_init_17 ec_3 (k := 2) (Nat.le_of_ble_eq_true rfl) rfl (Or.inr ⟨rfl, rfl, rfl, ew_265⟩) f5.1 f5.2 ?_
  refine ea_aload_n (pc := 20) dX3_init_20 rfl 0 rfl ?_
  refine ea_bipush (pc := 21) dX3_init_21 (v := 8) rfl ?_
  refine ea_newI (pc := 23) (N := 8) dX3_init_23 ew_170 (by decide) rfl (Nat.le_of_ble_eq_true rfl) ?_
  obtain ⟨f8, K⟩ := K
  refine ea_putR (pc := 25) dX3_init_25 ec_3 (k := 3) (Nat.le_of_ble_eq_true rfl) rfl (Or.inr ⟨rfl, rfl, rfl, ew_266⟩) f8.1 f8.2 ?_
  refine ea_aload_n (pc := 28) dX3_init_28 rfl 0 rfl ?_
  refine ea_bipush (pc := 29) dX3_init_29 (v := 8) rfl ?_
  refine ea_newI (pc := 31) (N := 8) dX3_init_31 ew_170 (by decide) rfl (Nat.le_of_ble_eq_true rfl) ?_
  have f11 := K
  refine ea_putR (pc := 33) dX3_init_33 ec_3 (k := 4) (Nat.le_of_ble_eq_true rfl) rfl (Or.inr ⟨rfl, rfl, rfl, ew_267⟩) f11.1 f11.2 ?_
  subst EY
  exact ea_return (pc := 36) dX3_init_36 rfl
noncomputable def vX3_add (b0 : Nat) (x1 : Int32) (x2 : Int32) (h : ea_H) : Int32 := (if (ea_i h (b0 + 16) 0) < (8 : Int32) then ((ea_i (ea_wi (ea_wi (ea_wi (ea_wi h (b0 + 18) (Int32.toNatClampNeg (ea_i h (b0 + 16) 0)) x1) (b0 + 19) (Int32.toNatClampNeg (ea_i (ea_wi h (b0 + 18) (Int32.toNatClampNeg (ea_i h (b0 + 16) 0)) x1) (b0 + 16) 0)) x2) (b0 + 17) (Int32.toNatClampNeg (ea_i (ea_wi (ea_wi h (b0 + 18) (Int32.toNatClampNeg (ea_i h (b0 + 16) 0)) x1) (b0 + 19) (Int32.toNatClampNeg (ea_i (ea_wi h (b0 + 18) (Int32.toNatClampNeg (ea_i h (b0 + 16) 0)) x1) (b0 + 16) 0)) x2) (b0 + 16) 0)) (-1)) (b0 + 16) 0 ((ea_i (ea_wi (ea_wi (ea_wi h (b0 + 18) (Int32.toNatClampNeg (ea_i h (b0 + 16) 0)) x1) (b0 + 19) (Int32.toNatClampNeg (ea_i (ea_wi h (b0 + 18) (Int32.toNatClampNeg (ea_i h (b0 + 16) 0)) x1) (b0 + 16) 0)) x2) (b0 + 17) (Int32.toNatClampNeg (ea_i (ea_wi (ea_wi h (b0 + 18) (Int32.toNatClampNeg (ea_i h (b0 + 16) 0)) x1) (b0 + 19) (Int32.toNatClampNeg (ea_i (ea_wi h (b0 + 18) (Int32.toNatClampNeg (ea_i h (b0 + 16) 0)) x1) (b0 + 16) 0)) x2) (b0 + 16) 0)) (-1)) (b0 + 16) 0) + (1 : Int32))) (b0 + 16) 0) - (1 : Int32)) else ((-1) : Int32))
noncomputable def wX3_add (b0 : Nat) (x1 : Int32) (x2 : Int32) (h : ea_H) : ea_H := (if (ea_i h (b0 + 16) 0) < (8 : Int32) then (ea_wi (ea_wi (ea_wi (ea_wi h (b0 + 18) (Int32.toNatClampNeg (ea_i h (b0 + 16) 0)) x1) (b0 + 19) (Int32.toNatClampNeg (ea_i (ea_wi h (b0 + 18) (Int32.toNatClampNeg (ea_i h (b0 + 16) 0)) x1) (b0 + 16) 0)) x2) (b0 + 17) (Int32.toNatClampNeg (ea_i (ea_wi (ea_wi h (b0 + 18) (Int32.toNatClampNeg (ea_i h (b0 + 16) 0)) x1) (b0 + 19) (Int32.toNatClampNeg (ea_i (ea_wi h (b0 + 18) (Int32.toNatClampNeg (ea_i h (b0 + 16) 0)) x1) (b0 + 16) 0)) x2) (b0 + 16) 0)) (-1)) (b0 + 16) 0 ((ea_i (ea_wi (ea_wi (ea_wi h (b0 + 18) (Int32.toNatClampNeg (ea_i h (b0 + 16) 0)) x1) (b0 + 19) (Int32.toNatClampNeg (ea_i (ea_wi h (b0 + 18) (Int32.toNatClampNeg (ea_i h (b0 + 16) 0)) x1) (b0 + 16) 0)) x2) (b0 + 17) (Int32.toNatClampNeg (ea_i (ea_wi (ea_wi h (b0 + 18) (Int32.toNatClampNeg (ea_i h (b0 + 16) 0)) x1) (b0 + 19) (Int32.toNatClampNeg (ea_i (ea_wi h (b0 + 18) (Int32.toNatClampNeg (ea_i h (b0 + 16) 0)) x1) (b0 + 16) 0)) x2) (b0 + 16) 0)) (-1)) (b0 + 16) 0) + (1 : Int32))) else h)
def okX3_add (b0 : Nat) (x1 : Int32) (x2 : Int32) (h : ea_H) : Prop := ((ea_i h (b0 + 16) 0) < (8 : Int32) → vp_in (ea_i h (b0 + 16) 0) 8 ∧ (vp_in (ea_i (ea_wi h (b0 + 18) (Int32.toNatClampNeg (ea_i h (b0 + 16) 0)) x1) (b0 + 16) 0) 8 ∧ (vp_in (ea_i (ea_wi (ea_wi h (b0 + 18) (Int32.toNatClampNeg (ea_i h (b0 + 16) 0)) x1) (b0 + 19) (Int32.toNatClampNeg (ea_i (ea_wi h (b0 + 18) (Int32.toNatClampNeg (ea_i h (b0 + 16) 0)) x1) (b0 + 16) 0)) x2) (b0 + 16) 0) 8))) ∧ (¬ (ea_i h (b0 + 16) 0) < (8 : Int32) → True)
theorem shX3_add {b0 : Nat} {x1 : Int32} {x2 : Int32} {h : ea_H} (hs : ShC b0 h) : ShC b0 (wX3_add b0 x1 x2 h) := (ShC_it (ShC_wi (ShC_wi (ShC_wi (ShC_wi hs)))) hs)
theorem sX3_add {d : Nat} {b0 : Nat} {x1 : Int32} {x2 : Int32} {h : ea_H} (hd : 1 ≤ d) (hs : ShC b0 h) (K : okX3_add b0 x1 x2 h) : ea_Met mX3_add d [vR (some (b0 + 16)), vI x1, vI x2] h (some (vI (vX3_add b0 x1 x2 h))) (wX3_add b0 x1 x2 h) := by
  obtain ⟨X, EX⟩ : ∃ z, z = vX3_add b0 x1 x2 h := ⟨_, rfl⟩
  rw [← EX]
  unfold vX3_add at EX
  obtain ⟨Y, EY⟩ : ∃ z, z = wX3_add b0 x1 x2 h := ⟨_, rfl⟩
  rw [← EY]
  unfold wX3_add at EY
  unfold okX3_add at K
  refine ea_enter rfl (Nat.le_of_ble_eq_true rfl) ?_
  refine ea_aload_n (pc := 0) dX3_add_0 rfl 0 rfl ?_
  refine ea_getI (pc := 1) dX3_add_1 ec_3 (k := 0) (Nat.le_of_ble_eq_true rfl) rfl (Or.inl ew_261) (hs.1 16 (by decide)).1 (hs.1 16 (by decide)).2.1 ?_
  refine ea_bipush (pc := 4) dX3_add_4 (v := 8) rfl ?_
  refine ea_icmp_lt (pc := 6) (tgt := 11) dX3_add_6 rfl (fun c8 => ?_) (fun c8 => ?_)
  · have EX := EX.trans (if_pos c8)
    have EY := EY.trans (if_pos c8)
    have K := K.1 c8
    refine ea_aload_n (pc := 11) dX3_add_11 rfl 0 rfl ?_
    refine ea_getR (pc := 12) dX3_add_12 ec_3 (k := 2) (Nat.le_of_ble_eq_true rfl) rfl (Or.inl ew_265) (hs.1 16 (by decide)).1 (hs.1 16 (by decide)).2.1 (hs.2 16 2 rfl) ?_
    refine ea_aload_n (pc := 15) dX3_add_15 rfl 0 rfl ?_
    refine ea_getI (pc := 16) dX3_add_16 ec_3 (k := 0) (Nat.le_of_ble_eq_true rfl) rfl (Or.inl ew_261) (hs.1 16 (by decide)).1 (hs.1 16 (by decide)).2.1 ?_
    refine ea_iload_n (pc := 19) dX3_add_19 rfl 1 rfl ?_
    obtain ⟨z1, K⟩ := K
    refine ea_iast (pc := 20) dX3_add_20 (hs.1 18 (by decide)).1 (hs.1 18 (by decide)).2.1 (ea_vpl (hs.1 18 (by decide)).2.2 z1) ?_
    have hs2 : ShC b0 (ea_wi h (b0 + 18) (Int32.toNatClampNeg (ea_i h (b0 + 16) 0)) x1) := ShC_wi hs
    refine ea_aload_n (pc := 21) dX3_add_21 rfl 0 rfl ?_
    refine ea_getR (pc := 22) dX3_add_22 ec_3 (k := 3) (Nat.le_of_ble_eq_true rfl) rfl (Or.inl ew_266) (hs2.1 16 (by decide)).1 (hs2.1 16 (by decide)).2.1 (hs2.2 16 3 rfl) ?_
    refine ea_aload_n (pc := 25) dX3_add_25 rfl 0 rfl ?_
    refine ea_getI (pc := 26) dX3_add_26 ec_3 (k := 0) (Nat.le_of_ble_eq_true rfl) rfl (Or.inl ew_261) (hs2.1 16 (by decide)).1 (hs2.1 16 (by decide)).2.1 ?_
    refine ea_iload_n (pc := 29) dX3_add_29 rfl 2 rfl ?_
    obtain ⟨z3, K⟩ := K
    refine ea_iast (pc := 30) dX3_add_30 (hs2.1 19 (by decide)).1 (hs2.1 19 (by decide)).2.1 (ea_vpl (hs2.1 19 (by decide)).2.2 z3) ?_
    have hs4 : ShC b0 (ea_wi (ea_wi h (b0 + 18) (Int32.toNatClampNeg (ea_i h (b0 + 16) 0)) x1) (b0 + 19) (Int32.toNatClampNeg (ea_i (ea_wi h (b0 + 18) (Int32.toNatClampNeg (ea_i h (b0 + 16) 0)) x1) (b0 + 16) 0)) x2) := ShC_wi hs2
    refine ea_aload_n (pc := 31) dX3_add_31 rfl 0 rfl ?_
    refine ea_getR (pc := 32) dX3_add_32 ec_3 (k := 1) (Nat.le_of_ble_eq_true rfl) rfl (Or.inl ew_263) (hs4.1 16 (by decide)).1 (hs4.1 16 (by decide)).2.1 (hs4.2 16 1 rfl) ?_
    refine ea_aload_n (pc := 35) dX3_add_35 rfl 0 rfl ?_
    refine ea_getI (pc := 36) dX3_add_36 ec_3 (k := 0) (Nat.le_of_ble_eq_true rfl) rfl (Or.inl ew_261) (hs4.1 16 (by decide)).1 (hs4.1 16 (by decide)).2.1 ?_
    refine ea_iconst (pc := 39) dX3_add_39 (v := (-1)) rfl ?_
    have z5 := K
    refine ea_iast (pc := 40) dX3_add_40 (hs4.1 17 (by decide)).1 (hs4.1 17 (by decide)).2.1 (ea_vpl (hs4.1 17 (by decide)).2.2 z5) ?_
    have hs6 : ShC b0 (ea_wi (ea_wi (ea_wi h (b0 + 18) (Int32.toNatClampNeg (ea_i h (b0 + 16) 0)) x1) (b0 + 19) (Int32.toNatClampNeg (ea_i (ea_wi h (b0 + 18) (Int32.toNatClampNeg (ea_i h (b0 + 16) 0)) x1) (b0 + 16) 0)) x2) (b0 + 17) (Int32.toNatClampNeg (ea_i (ea_wi (ea_wi h (b0 + 18) (Int32.toNatClampNeg (ea_i h (b0 + 16) 0)) x1) (b0 + 19) (Int32.toNatClampNeg (ea_i (ea_wi h (b0 + 18) (Int32.toNatClampNeg (ea_i h (b0 + 16) 0)) x1) (b0 + 16) 0)) x2) (b0 + 16) 0)) (-1)) := ShC_wi hs4
    refine ea_aload_n (pc := 41) dX3_add_41 rfl 0 rfl ?_
    refine ea_dup (pc := 42) dX3_add_42 rfl ?_
    refine ea_getI (pc := 43) dX3_add_43 ec_3 (k := 0) (Nat.le_of_ble_eq_true rfl) rfl (Or.inl ew_261) (hs6.1 16 (by decide)).1 (hs6.1 16 (by decide)).2.1 ?_
    refine ea_iconst (pc := 46) dX3_add_46 (v := 1) rfl ?_
    refine ea_iadd (pc := 47) dX3_add_47 ?_
    refine ea_putI (pc := 48) dX3_add_48 ec_3 (k := 0) (Nat.le_of_ble_eq_true rfl) rfl (Or.inl ⟨rfl, Or.inl ew_261⟩) rfl rfl (hs6.1 16 (by decide)).1 (hs6.1 16 (by decide)).2.1 ?_
    have hs7 : ShC b0 (ea_wi (ea_wi (ea_wi (ea_wi h (b0 + 18) (Int32.toNatClampNeg (ea_i h (b0 + 16) 0)) x1) (b0 + 19) (Int32.toNatClampNeg (ea_i (ea_wi h (b0 + 18) (Int32.toNatClampNeg (ea_i h (b0 + 16) 0)) x1) (b0 + 16) 0)) x2) (b0 + 17) (Int32.toNatClampNeg (ea_i (ea_wi (ea_wi h (b0 + 18) (Int32.toNatClampNeg (ea_i h (b0 + 16) 0)) x1) (b0 + 19) (Int32.toNatClampNeg (ea_i (ea_wi h (b0 + 18) (Int32.toNatClampNeg (ea_i h (b0 + 16) 0)) x1) (b0 + 16) 0)) x2) (b0 + 16) 0)) (-1)) (b0 + 16) 0 ((ea_i (ea_wi (ea_wi (ea_wi h (b0 + 18) (Int32.toNatClampNeg (ea_i h (b0 + 16) 0)) x1) (b0 + 19) (Int32.toNatClampNeg (ea_i (ea_wi h (b0 + 18) (Int32.toNatClampNeg (ea_i h (b0 + 16) 0)) x1) (b0 + 16) 0)) x2) (b0 + 17) (Int32.toNatClampNeg (ea_i (ea_wi (ea_wi h (b0 + 18) (Int32.toNatClampNeg (ea_i h (b0 + 16) 0)) x1) (b0 + 19) (Int32.toNatClampNeg (ea_i (ea_wi h (b0 + 18) (Int32.toNatClampNeg (ea_i h (b0 + 16) 0)) x1) (b0 + 16) 0)) x2) (b0 + 16) 0)) (-1)) (b0 + 16) 0) + (1 : Int32))) := ShC_wi hs6
    refine ea_aload_n (pc := 51) dX3_add_51 rfl 0 rfl ?_
    refine ea_getI (pc := 52) dX3_add_52 ec_3 (k := 0) (Nat.le_of_ble_eq_true rfl) rfl (Or.inl ew_261) (hs7.1 16 (by decide)).1 (hs7.1 16 (by decide)).2.1 ?_
    refine ea_iconst (pc := 55) dX3_add_55 (v := 1) rfl ?_
    refine ea_isub (pc := 56) dX3_add_56 ?_
    subst EX
    subst EY
    exact ea_ireturn (pc := 57) dX3_add_57 rfl rfl
  · have EX := EX.trans (if_neg c8)
    have EY := EY.trans (if_neg c8)
    refine ea_iconst (pc := 9) dX3_add_9 (v := (-1)) rfl ?_
    subst EX
    subst EY
    exact ea_ireturn (pc := 10) dX3_add_10 rfl rfl
noncomputable def gX3_sitsIn (b0 : Nat) : Nat → Nat → Int32 → Int32 → ea_H → Option (Int32 × ea_H)
  | 0, _, _, _, _ => none
  | f + 1, lbl, x1, x2, h =>
    if lbl = 0 then (gX3_sitsIn b0 f 2 (x1 : Int32) (0 : Int32) h) else
    if lbl = 2 then (if (ea_i h (b0 + 16) 0) ≤ x2 then (some ((0 : Int32), h)) else (gd (vp_in x2 8) (if (ea_i h (b0 + 17) (Int32.toNatClampNeg x2)) = x1 then (some ((1 : Int32), h)) else (gX3_sitsIn b0 f 2 (x1 : Int32) ((x2 + (1 : Int32)) : Int32) h)))) else none
theorem tX3_sitsIn {d : Nat} {b0 : Nat} {h0 : ea_H} (hd : 1 ≤ d) : ∀ (f lbl : Nat) (x1 : Int32) (x2 : Int32) (h : ea_H) (r : Int32) (h' : ea_H), gX3_sitsIn b0 f lbl x1 x2 h = some (r, h') → ShC b0 h → (lbl = 0 → ea_W mX3_sitsIn d h0 (some (vI r)) h' 0 [(0, vR (some (b0 + 16))), (1, vI x1)] [] h) ∧ (lbl = 2 → ea_W mX3_sitsIn d h0 (some (vI r)) h' 2 [(0, vR (some (b0 + 16))), (1, vI x1), (2, vI x2)] [] h) := by
  intro f
  induction f with
  | zero => intro lbl x1 x2 h r h' E; cases E
  | succ f ih =>
    intro lbl x1 x2 h r h' E hs
    unfold gX3_sitsIn at E
    refine ⟨?_, ?_⟩
    · intro el
      subst el
      have E := (if_pos rfl).symm.trans E
      refine ea_iconst (pc := 0) dX3_sitsIn_0 (v := 0) rfl ?_
      refine ea_istore_n (pc := 1) (lv' := [(0, vR (some (b0 + 16))), (1, vI x1), (2, vI 0)]) dX3_sitsIn_1 rfl (Nat.le_of_ble_eq_true rfl) [1, 2, 0] rfl ?_
      exact ((ih 2 (x1 : Int32) (0 : Int32) h _ _ E hs).2 rfl)
    intro el
    subst el
    have E := (if_neg (by decide)).symm.trans E
    have E := (if_pos rfl).symm.trans E
    refine ea_iload_n (pc := 2) dX3_sitsIn_2 rfl 2 rfl ?_
    refine ea_aload_n (pc := 3) dX3_sitsIn_3 rfl 0 rfl ?_
    refine ea_getI (pc := 4) dX3_sitsIn_4 ec_3 (k := 0) (Nat.le_of_ble_eq_true rfl) rfl (Or.inl ew_261) (hs.1 16 (by decide)).1 (hs.1 16 (by decide)).2.1 ?_
    refine ea_icmp_ge (pc := 7) (tgt := 28) dX3_sitsIn_7 rfl (fun c3 => ?_) (fun c3 => ?_)
    · have E := (if_pos c3).symm.trans E
      refine ea_iconst (pc := 28) dX3_sitsIn_28 (v := 0) rfl ?_
      cases E
      exact ea_ireturn (pc := 29) dX3_sitsIn_29 rfl (ea_bn (Or.inl rfl))
    · have E := (if_neg c3).symm.trans E
      refine ea_aload_n (pc := 10) dX3_sitsIn_10 rfl 0 rfl ?_
      refine ea_getR (pc := 11) dX3_sitsIn_11 ec_3 (k := 1) (Nat.le_of_ble_eq_true rfl) rfl (Or.inl ew_263) (hs.1 16 (by decide)).1 (hs.1 16 (by decide)).2.1 (hs.2 16 1 rfl) ?_
      refine ea_iload_n (pc := 14) dX3_sitsIn_14 rfl 2 rfl ?_
      obtain ⟨z1, E⟩ := gd_some E
      refine ea_iald (pc := 15) dX3_sitsIn_15 (hs.1 17 (by decide)).1 (hs.1 17 (by decide)).2.1 (ea_vpl (hs.1 17 (by decide)).2.2 z1) ?_
      refine ea_iload_n (pc := 16) dX3_sitsIn_16 rfl 1 rfl ?_
      refine ea_icmp_ne (pc := 17) (tgt := 22) dX3_sitsIn_17 rfl (fun c2 => ?_) (fun c2 => ?_)
      · have E := (if_neg c2).symm.trans E
        refine ea_iinc (pc := 22) (v := 1) (lv' := [(0, vR (some (b0 + 16))), (1, vI x1), (2, vI (x2 + (1 : Int32)))]) dX3_sitsIn_22 2 rfl rfl (Nat.le_of_ble_eq_true rfl) [1, 2, 0] rfl ?_
        refine ea_goto (pc := 25) (tgt := 2) dX3_sitsIn_25 rfl ?_
        exact ((ih 2 (x1 : Int32) ((x2 + (1 : Int32)) : Int32) h _ _ E hs).2 rfl)
      · have E := (if_pos c2).symm.trans E
        refine ea_iconst (pc := 20) dX3_sitsIn_20 (v := 1) rfl ?_
        cases E
        exact ea_ireturn (pc := 21) dX3_sitsIn_21 rfl (ea_bn (Or.inr rfl))
noncomputable def qX3_sitsIn (b0 : Nat) (x1 : Int32) (h : ea_H) : Option (Int32 × ea_H) := gX3_sitsIn b0 1000000000 0 x1 0 h
def okX3_sitsIn (b0 : Nat) (x1 : Int32) (h : ea_H) : Prop := ∃ x, qX3_sitsIn b0 x1 h = some x
noncomputable def vX3_sitsIn (b0 : Nat) (x1 : Int32) (h : ea_H) : Int32 := ((qX3_sitsIn b0 x1 h).getD (0, h)).1
noncomputable def wX3_sitsIn (b0 : Nat) (x1 : Int32) (h : ea_H) : ea_H := ((qX3_sitsIn b0 x1 h).getD (0, h)).2
theorem sX3_sitsIn {d : Nat} {b0 : Nat} {x1 : Int32} {h : ea_H} (hd : 1 ≤ d) (hs : ShC b0 h) (K : okX3_sitsIn b0 x1 h) : ea_Met mX3_sitsIn d [vR (some (b0 + 16)), vI x1] h (some (vI (vX3_sitsIn b0 x1 h))) (wX3_sitsIn b0 x1 h) := by
  obtain ⟨⟨x, y⟩, K⟩ := K
  unfold wX3_sitsIn vX3_sitsIn
  rw [K]
  unfold qX3_sitsIn at K
  exact ea_enter rfl (Nat.le_of_ble_eq_true rfl) ((tX3_sitsIn hd 1000000000 0 x1 0 h x y K hs).1 rfl)
theorem zX3_sitsIn {b0 : Nat} : ∀ (f lbl : Nat) (x1 : Int32) (x2 : Int32) (h : ea_H) (r : Int32) (h' : ea_H), gX3_sitsIn b0 f lbl x1 x2 h = some (r, h') → ShC b0 h → ShC b0 h' := by
  intro f
  induction f with
  | zero => intro lbl x1 x2 h r h' E; cases E
  | succ f ih =>
    intro lbl x1 x2 h r h' E hs
    unfold gX3_sitsIn at E
    by_cases el0 : lbl = 0
    · have E := (if_pos el0).symm.trans E
      exact ih 2 (x1 : Int32) (0 : Int32) h _ _ E hs
    have E := (if_neg el0).symm.trans E
    by_cases el1 : lbl = 2
    · have E := (if_pos el1).symm.trans E
      by_cases c3 : (ea_i h (b0 + 16) 0) ≤ x2
      · have E := (if_pos c3).symm.trans E
        cases E
        exact hs
      have E := (if_neg c3).symm.trans E
      obtain ⟨z1, E⟩ := gd_some E
      by_cases c2 : (ea_i h (b0 + 17) (Int32.toNatClampNeg x2)) = x1
      · have E := (if_pos c2).symm.trans E
        cases E
        exact hs
      have E := (if_neg c2).symm.trans E
      exact ih 2 (x1 : Int32) ((x2 + (1 : Int32)) : Int32) h _ _ E hs
    have E := (if_neg el1).symm.trans E
    cases E
theorem shX3_sitsIn {b0 : Nat} {x1 : Int32} {h : ea_H} (hs : ShC b0 h) : ShC b0 (wX3_sitsIn b0 x1 h) := by
  unfold wX3_sitsIn
  cases K : qX3_sitsIn b0 x1 h with
  | none => exact hs
  | some x => obtain ⟨x, y⟩ := x; unfold qX3_sitsIn at K; exact zX3_sitsIn _ _ _ _ _ _ _ K hs
noncomputable def gX3_begin (b0 : Nat) : Nat → Nat → Int32 → Int32 → ea_H → Option (Unit × ea_H)
  | 0, _, _, _, _ => none
  | f + 1, lbl, x1, x2, h =>
    if lbl = 0 then (gX3_begin b0 f 2 (x1 : Int32) (0 : Int32) h) else
    if lbl = 2 then (if (ea_i h (b0 + 16) 0) ≤ x2 then (some ((), h)) else (gd (vp_in x2 8) (gd (vp_in x2 8) (gX3_begin b0 f 2 (x1 : Int32) ((x2 + (1 : Int32)) : Int32) (ea_wi h (b0 + 20) (Int32.toNatClampNeg x2) ((ea_i h (b0 + 18) (Int32.toNatClampNeg x2)) * x1)))))) else none
theorem tX3_begin {d : Nat} {b0 : Nat} {h0 : ea_H} (hd : 1 ≤ d) : ∀ (f lbl : Nat) (x1 : Int32) (x2 : Int32) (h : ea_H) (r : Unit) (h' : ea_H), gX3_begin b0 f lbl x1 x2 h = some (r, h') → ShC b0 h → (lbl = 0 → ea_W mX3_begin d h0 none h' 0 [(0, vR (some (b0 + 16))), (1, vI x1)] [] h) ∧ (lbl = 2 → ea_W mX3_begin d h0 none h' 2 [(0, vR (some (b0 + 16))), (1, vI x1), (2, vI x2)] [] h) := by
  intro f
  induction f with
  | zero => intro lbl x1 x2 h r h' E; cases E
  | succ f ih =>
    intro lbl x1 x2 h r h' E hs
    unfold gX3_begin at E
    refine ⟨?_, ?_⟩
    · intro el
      subst el
      have E := (if_pos rfl).symm.trans E
      refine ea_iconst (pc := 0) dX3_begin_0 (v := 0) rfl ?_
      refine ea_istore_n (pc := 1) (lv' := [(0, vR (some (b0 + 16))), (1, vI x1), (2, vI 0)]) dX3_begin_1 rfl (Nat.le_of_ble_eq_true rfl) [1, 2, 0] rfl ?_
      exact ((ih 2 (x1 : Int32) (0 : Int32) h _ _ E hs).2 rfl)
    intro el
    subst el
    have E := (if_neg (by decide)).symm.trans E
    have E := (if_pos rfl).symm.trans E
    refine ea_iload_n (pc := 2) dX3_begin_2 rfl 2 rfl ?_
    refine ea_aload_n (pc := 3) dX3_begin_3 rfl 0 rfl ?_
    refine ea_getI (pc := 4) dX3_begin_4 ec_3 (k := 0) (Nat.le_of_ble_eq_true rfl) rfl (Or.inl ew_261) (hs.1 16 (by decide)).1 (hs.1 16 (by decide)).2.1 ?_
    refine ea_icmp_ge (pc := 7) (tgt := 30) dX3_begin_7 rfl (fun c4 => ?_) (fun c4 => ?_)
    · have E := (if_pos c4).symm.trans E
      cases E
      exact ea_return (pc := 30) dX3_begin_30 rfl
    · have E := (if_neg c4).symm.trans E
      refine ea_aload_n (pc := 10) dX3_begin_10 rfl 0 rfl ?_
      refine ea_getR (pc := 11) dX3_begin_11 ec_3 (k := 4) (Nat.le_of_ble_eq_true rfl) rfl (Or.inl ew_267) (hs.1 16 (by decide)).1 (hs.1 16 (by decide)).2.1 (hs.2 16 4 rfl) ?_
      refine ea_iload_n (pc := 14) dX3_begin_14 rfl 2 rfl ?_
      refine ea_aload_n (pc := 15) dX3_begin_15 rfl 0 rfl ?_
      refine ea_getR (pc := 16) dX3_begin_16 ec_3 (k := 2) (Nat.le_of_ble_eq_true rfl) rfl (Or.inl ew_265) (hs.1 16 (by decide)).1 (hs.1 16 (by decide)).2.1 (hs.2 16 2 rfl) ?_
      refine ea_iload_n (pc := 19) dX3_begin_19 rfl 2 rfl ?_
      obtain ⟨z1, E⟩ := gd_some E
      refine ea_iald (pc := 20) dX3_begin_20 (hs.1 18 (by decide)).1 (hs.1 18 (by decide)).2.1 (ea_vpl (hs.1 18 (by decide)).2.2 z1) ?_
      refine ea_iload_n (pc := 21) dX3_begin_21 rfl 1 rfl ?_
      refine ea_imul (pc := 22) dX3_begin_22 ?_
      obtain ⟨z2, E⟩ := gd_some E
      refine ea_iast (pc := 23) dX3_begin_23 (hs.1 20 (by decide)).1 (hs.1 20 (by decide)).2.1 (ea_vpl (hs.1 20 (by decide)).2.2 z2) ?_
      have hs3 : ShC b0 (ea_wi h (b0 + 20) (Int32.toNatClampNeg x2) ((ea_i h (b0 + 18) (Int32.toNatClampNeg x2)) * x1)) := ShC_wi hs
      refine ea_iinc (pc := 24) (v := 1) (lv' := [(0, vR (some (b0 + 16))), (1, vI x1), (2, vI (x2 + (1 : Int32)))]) dX3_begin_24 2 rfl rfl (Nat.le_of_ble_eq_true rfl) [1, 2, 0] rfl ?_
      refine ea_goto (pc := 27) (tgt := 2) dX3_begin_27 rfl ?_
      exact ((ih 2 (x1 : Int32) ((x2 + (1 : Int32)) : Int32) (ea_wi h (b0 + 20) (Int32.toNatClampNeg x2) ((ea_i h (b0 + 18) (Int32.toNatClampNeg x2)) * x1)) _ _ E hs3).2 rfl)
noncomputable def qX3_begin (b0 : Nat) (x1 : Int32) (h : ea_H) : Option (Unit × ea_H) := gX3_begin b0 1000000000 0 x1 0 h
def okX3_begin (b0 : Nat) (x1 : Int32) (h : ea_H) : Prop := ∃ x, qX3_begin b0 x1 h = some x
noncomputable def wX3_begin (b0 : Nat) (x1 : Int32) (h : ea_H) : ea_H := ((qX3_begin b0 x1 h).getD ((), h)).2
theorem sX3_begin {d : Nat} {b0 : Nat} {x1 : Int32} {h : ea_H} (hd : 1 ≤ d) (hs : ShC b0 h) (K : okX3_begin b0 x1 h) : ea_Met mX3_begin d [vR (some (b0 + 16)), vI x1] h none (wX3_begin b0 x1 h) := by
  obtain ⟨⟨x, y⟩, K⟩ := K
  unfold wX3_begin
  rw [K]
  unfold qX3_begin at K
  exact ea_enter rfl (Nat.le_of_ble_eq_true rfl) ((tX3_begin hd 1000000000 0 x1 0 h x y K hs).1 rfl)
theorem zX3_begin {b0 : Nat} : ∀ (f lbl : Nat) (x1 : Int32) (x2 : Int32) (h : ea_H) (r : Unit) (h' : ea_H), gX3_begin b0 f lbl x1 x2 h = some (r, h') → ShC b0 h → ShC b0 h' := by
  intro f
  induction f with
  | zero => intro lbl x1 x2 h r h' E; cases E
  | succ f ih =>
    intro lbl x1 x2 h r h' E hs
    unfold gX3_begin at E
    by_cases el0 : lbl = 0
    · have E := (if_pos el0).symm.trans E
      exact ih 2 (x1 : Int32) (0 : Int32) h _ _ E hs
    have E := (if_neg el0).symm.trans E
    by_cases el1 : lbl = 2
    · have E := (if_pos el1).symm.trans E
      by_cases c4 : (ea_i h (b0 + 16) 0) ≤ x2
      · have E := (if_pos c4).symm.trans E
        cases E
        exact hs
      have E := (if_neg c4).symm.trans E
      obtain ⟨z1, E⟩ := gd_some E
      obtain ⟨z2, E⟩ := gd_some E
      exact ih 2 (x1 : Int32) ((x2 + (1 : Int32)) : Int32) (ea_wi h (b0 + 20) (Int32.toNatClampNeg x2) ((ea_i h (b0 + 18) (Int32.toNatClampNeg x2)) * x1)) _ _ E (ShC_wi hs)
    have E := (if_neg el1).symm.trans E
    cases E
theorem shX3_begin {b0 : Nat} {x1 : Int32} {h : ea_H} (hs : ShC b0 h) : ShC b0 (wX3_begin b0 x1 h) := by
  unfold wX3_begin
  cases K : qX3_begin b0 x1 h with
  | none => exact hs
  | some x => obtain ⟨x, y⟩ := x; unfold qX3_begin at K; exact zX3_begin _ _ _ _ _ _ _ K hs
noncomputable def gX3_sortsOne (b0 : Nat) : Nat → Nat → Int32 → Int32 → Int32 → ea_H → Option (Int32 × ea_H)
  | 0, _, _, _, _, _ => none
  | f + 1, lbl, x1, x2, x3, h =>
    if lbl = 0 then (gX3_sortsOne b0 f 2 (x1 : Int32) (x2 : Int32) (0 : Int32) h) else
    if lbl = 2 then (if (ea_i h (b0 + 16) 0) ≤ x3 then (some ((0 : Int32), h)) else (gd (vp_in x3 8) (if (ea_i h (b0 + 17) (Int32.toNatClampNeg x3)) = x1 then (gd (vp_in x3 8) (if (ea_i h (b0 + 20) (Int32.toNatClampNeg x3)) ≤ (0 : Int32) then (gX3_sortsOne b0 f 2 (x1 : Int32) (x2 : Int32) ((x3 + (1 : Int32)) : Int32) h) else (gd (vp_in x3 8) (if (((ea_i h (b0 + 19) (Int32.toNatClampNeg x3)) >>> (x2 &&& 31)) &&& (1 : Int32)) = (1 : Int32) then (gd (vp_in x3 8) (gd (vp_in x3 8) (some ((1 : Int32), (ea_wi h (b0 + 20) (Int32.toNatClampNeg x3) ((ea_i h (b0 + 20) (Int32.toNatClampNeg x3)) - (1 : Int32))))))) else (gX3_sortsOne b0 f 2 (x1 : Int32) (x2 : Int32) ((x3 + (1 : Int32)) : Int32) h))))) else (gX3_sortsOne b0 f 2 (x1 : Int32) (x2 : Int32) ((x3 + (1 : Int32)) : Int32) h)))) else none
theorem tX3_sortsOne {d : Nat} {b0 : Nat} {h0 : ea_H} (hd : 1 ≤ d) : ∀ (f lbl : Nat) (x1 : Int32) (x2 : Int32) (x3 : Int32) (h : ea_H) (r : Int32) (h' : ea_H), gX3_sortsOne b0 f lbl x1 x2 x3 h = some (r, h') → ShC b0 h → (lbl = 0 → ea_W mX3_sortsOne d h0 (some (vI r)) h' 0 [(0, vR (some (b0 + 16))), (1, vI x1), (2, vI x2)] [] h) ∧ (lbl = 2 → ea_W mX3_sortsOne d h0 (some (vI r)) h' 2 [(0, vR (some (b0 + 16))), (1, vI x1), (2, vI x2), (3, vI x3)] [] h) := by
  intro f
  induction f with
  | zero => intro lbl x1 x2 x3 h r h' E; cases E
  | succ f ih =>
    intro lbl x1 x2 x3 h r h' E hs
    unfold gX3_sortsOne at E
    refine ⟨?_, ?_⟩
    · intro el
      subst el
      have E := (if_pos rfl).symm.trans E
      refine ea_iconst (pc := 0) dX3_sortsOne_0 (v := 0) rfl ?_
      refine ea_istore_n (pc := 1) (lv' := [(0, vR (some (b0 + 16))), (1, vI x1), (2, vI x2), (3, vI 0)]) dX3_sortsOne_1 rfl (Nat.le_of_ble_eq_true rfl) [1, 2, 3, 0] rfl ?_
      exact ((ih 2 (x1 : Int32) (x2 : Int32) (0 : Int32) h _ _ E hs).2 rfl)
    intro el
    subst el
    have E := (if_neg (by decide)).symm.trans E
    have E := (if_pos rfl).symm.trans E
    refine ea_iload_n (pc := 2) dX3_sortsOne_2 rfl 3 rfl ?_
    refine ea_aload_n (pc := 3) dX3_sortsOne_3 rfl 0 rfl ?_
    refine ea_getI (pc := 4) dX3_sortsOne_4 ec_3 (k := 0) (Nat.le_of_ble_eq_true rfl) rfl (Or.inl ew_261) (hs.1 16 (by decide)).1 (hs.1 16 (by decide)).2.1 ?_
    refine ea_icmp_ge (pc := 7) (tgt := 61) dX3_sortsOne_7 rfl (fun c10 => ?_) (fun c10 => ?_)
    · have E := (if_pos c10).symm.trans E
      refine ea_iconst (pc := 61) dX3_sortsOne_61 (v := 0) rfl ?_
      cases E
      exact ea_ireturn (pc := 62) dX3_sortsOne_62 rfl (ea_bn (Or.inl rfl))
    · have E := (if_neg c10).symm.trans E
      refine ea_aload_n (pc := 10) dX3_sortsOne_10 rfl 0 rfl ?_
      refine ea_getR (pc := 11) dX3_sortsOne_11 ec_3 (k := 1) (Nat.le_of_ble_eq_true rfl) rfl (Or.inl ew_263) (hs.1 16 (by decide)).1 (hs.1 16 (by decide)).2.1 (hs.2 16 1 rfl) ?_
      refine ea_iload_n (pc := 14) dX3_sortsOne_14 rfl 3 rfl ?_
      obtain ⟨z1, E⟩ := gd_some E
      refine ea_iald (pc := 15) dX3_sortsOne_15 (hs.1 17 (by decide)).1 (hs.1 17 (by decide)).2.1 (ea_vpl (hs.1 17 (by decide)).2.2 z1) ?_
      refine ea_iload_n (pc := 16) dX3_sortsOne_16 rfl 1 rfl ?_
      refine ea_icmp_ne (pc := 17) (tgt := 55) dX3_sortsOne_17 rfl (fun c9 => ?_) (fun c9 => ?_)
      · have E := (if_neg c9).symm.trans E
        refine ea_iinc (pc := 55) (v := 1) (lv' := [(0, vR (some (b0 + 16))), (1, vI x1), (2, vI x2), (3, vI (x3 + (1 : Int32)))]) dX3_sortsOne_55 3 rfl rfl (Nat.le_of_ble_eq_true rfl) [1, 2, 3, 0] rfl ?_
        refine ea_goto (pc := 58) (tgt := 2) dX3_sortsOne_58 rfl ?_
        exact ((ih 2 (x1 : Int32) (x2 : Int32) ((x3 + (1 : Int32)) : Int32) h _ _ E hs).2 rfl)
      · have E := (if_pos c9).symm.trans E
        refine ea_aload_n (pc := 20) dX3_sortsOne_20 rfl 0 rfl ?_
        refine ea_getR (pc := 21) dX3_sortsOne_21 ec_3 (k := 4) (Nat.le_of_ble_eq_true rfl) rfl (Or.inl ew_267) (hs.1 16 (by decide)).1 (hs.1 16 (by decide)).2.1 (hs.2 16 4 rfl) ?_
        refine ea_iload_n (pc := 24) dX3_sortsOne_24 rfl 3 rfl ?_
        obtain ⟨z2, E⟩ := gd_some E
        refine ea_iald (pc := 25) dX3_sortsOne_25 (hs.1 20 (by decide)).1 (hs.1 20 (by decide)).2.1 (ea_vpl (hs.1 20 (by decide)).2.2 z2) ?_
        refine ea_if_le (pc := 26) (tgt := 55) dX3_sortsOne_26 rfl (fun c8 => ?_) (fun c8 => ?_)
        · have E := (if_pos c8).symm.trans E
          refine ea_iinc (pc := 55) (v := 1) (lv' := [(0, vR (some (b0 + 16))), (1, vI x1), (2, vI x2), (3, vI (x3 + (1 : Int32)))]) dX3_sortsOne_55 3 rfl rfl (Nat.le_of_ble_eq_true rfl) [1, 2, 3, 0] rfl ?_
          refine ea_goto (pc := 58) (tgt := 2) dX3_sortsOne_58 rfl ?_
          exact ((ih 2 (x1 : Int32) (x2 : Int32) ((x3 + (1 : Int32)) : Int32) h _ _ E hs).2 rfl)
        · have E := (if_neg c8).symm.trans E
          refine ea_aload_n (pc := 29) dX3_sortsOne_29 rfl 0 rfl ?_
          refine ea_getR (pc := 30) dX3_sortsOne_30 ec_3 (k := 3) (Nat.le_of_ble_eq_true rfl) rfl (Or.inl ew_266) (hs.1 16 (by decide)).1 (hs.1 16 (by decide)).2.1 (hs.2 16 3 rfl) ?_
          refine ea_iload_n (pc := 33) dX3_sortsOne_33 rfl 3 rfl ?_
          obtain ⟨z3, E⟩ := gd_some E
          refine ea_iald (pc := 34) dX3_sortsOne_34 (hs.1 19 (by decide)).1 (hs.1 19 (by decide)).2.1 (ea_vpl (hs.1 19 (by decide)).2.2 z3) ?_
          refine ea_iload_n (pc := 35) dX3_sortsOne_35 rfl 2 rfl ?_
          refine ea_ishr (pc := 36) dX3_sortsOne_36 ?_
          refine ea_iconst (pc := 37) dX3_sortsOne_37 (v := 1) rfl ?_
          refine ea_iand (pc := 38) dX3_sortsOne_38 ?_
          refine ea_iconst (pc := 39) dX3_sortsOne_39 (v := 1) rfl ?_
          refine ea_icmp_ne (pc := 40) (tgt := 55) dX3_sortsOne_40 rfl (fun c7 => ?_) (fun c7 => ?_)
          · have E := (if_neg c7).symm.trans E
            refine ea_iinc (pc := 55) (v := 1) (lv' := [(0, vR (some (b0 + 16))), (1, vI x1), (2, vI x2), (3, vI (x3 + (1 : Int32)))]) dX3_sortsOne_55 3 rfl rfl (Nat.le_of_ble_eq_true rfl) [1, 2, 3, 0] rfl ?_
            refine ea_goto (pc := 58) (tgt := 2) dX3_sortsOne_58 rfl ?_
            exact ((ih 2 (x1 : Int32) (x2 : Int32) ((x3 + (1 : Int32)) : Int32) h _ _ E hs).2 rfl)
          · have E := (if_pos c7).symm.trans E
            refine ea_aload_n (pc := 43) dX3_sortsOne_43 rfl 0 rfl ?_
            refine ea_getR (pc := 44) dX3_sortsOne_44 ec_3 (k := 4) (Nat.le_of_ble_eq_true rfl) rfl (Or.inl ew_267) (hs.1 16 (by decide)).1 (hs.1 16 (by decide)).2.1 (hs.2 16 4 rfl) ?_
            refine ea_iload_n (pc := 47) dX3_sortsOne_47 rfl 3 rfl ?_
            refine ea_dup2 (pc := 48) dX3_sortsOne_48 rfl rfl ?_
            obtain ⟨z4, E⟩ := gd_some E
            refine ea_iald (pc := 49) dX3_sortsOne_49 (hs.1 20 (by decide)).1 (hs.1 20 (by decide)).2.1 (ea_vpl (hs.1 20 (by decide)).2.2 z4) ?_
            refine ea_iconst (pc := 50) dX3_sortsOne_50 (v := 1) rfl ?_
            refine ea_isub (pc := 51) dX3_sortsOne_51 ?_
            obtain ⟨z5, E⟩ := gd_some E
            refine ea_iast (pc := 52) dX3_sortsOne_52 (hs.1 20 (by decide)).1 (hs.1 20 (by decide)).2.1 (ea_vpl (hs.1 20 (by decide)).2.2 z5) ?_
            have hs6 : ShC b0 (ea_wi h (b0 + 20) (Int32.toNatClampNeg x3) ((ea_i h (b0 + 20) (Int32.toNatClampNeg x3)) - (1 : Int32))) := ShC_wi hs
            refine ea_iconst (pc := 53) dX3_sortsOne_53 (v := 1) rfl ?_
            cases E
            exact ea_ireturn (pc := 54) dX3_sortsOne_54 rfl (ea_bn (Or.inr rfl))
noncomputable def qX3_sortsOne (b0 : Nat) (x1 : Int32) (x2 : Int32) (h : ea_H) : Option (Int32 × ea_H) := gX3_sortsOne b0 1000000000 0 x1 x2 0 h
def okX3_sortsOne (b0 : Nat) (x1 : Int32) (x2 : Int32) (h : ea_H) : Prop := ∃ x, qX3_sortsOne b0 x1 x2 h = some x
noncomputable def vX3_sortsOne (b0 : Nat) (x1 : Int32) (x2 : Int32) (h : ea_H) : Int32 := ((qX3_sortsOne b0 x1 x2 h).getD (0, h)).1
noncomputable def wX3_sortsOne (b0 : Nat) (x1 : Int32) (x2 : Int32) (h : ea_H) : ea_H := ((qX3_sortsOne b0 x1 x2 h).getD (0, h)).2
theorem sX3_sortsOne {d : Nat} {b0 : Nat} {x1 : Int32} {x2 : Int32} {h : ea_H} (hd : 1 ≤ d) (hs : ShC b0 h) (K : okX3_sortsOne b0 x1 x2 h) : ea_Met mX3_sortsOne d [vR (some (b0 + 16)), vI x1, vI x2] h (some (vI (vX3_sortsOne b0 x1 x2 h))) (wX3_sortsOne b0 x1 x2 h) := by
  obtain ⟨⟨x, y⟩, K⟩ := K
  unfold wX3_sortsOne vX3_sortsOne
  rw [K]
  unfold qX3_sortsOne at K
  exact ea_enter rfl (Nat.le_of_ble_eq_true rfl) ((tX3_sortsOne hd 1000000000 0 x1 x2 0 h x y K hs).1 rfl)
theorem zX3_sortsOne {b0 : Nat} : ∀ (f lbl : Nat) (x1 : Int32) (x2 : Int32) (x3 : Int32) (h : ea_H) (r : Int32) (h' : ea_H), gX3_sortsOne b0 f lbl x1 x2 x3 h = some (r, h') → ShC b0 h → ShC b0 h' := by
  intro f
  induction f with
  | zero => intro lbl x1 x2 x3 h r h' E; cases E
  | succ f ih =>
    intro lbl x1 x2 x3 h r h' E hs
    unfold gX3_sortsOne at E
    by_cases el0 : lbl = 0
    · have E := (if_pos el0).symm.trans E
      exact ih 2 (x1 : Int32) (x2 : Int32) (0 : Int32) h _ _ E hs
    have E := (if_neg el0).symm.trans E
    by_cases el1 : lbl = 2
    · have E := (if_pos el1).symm.trans E
      by_cases c10 : (ea_i h (b0 + 16) 0) ≤ x3
      · have E := (if_pos c10).symm.trans E
        cases E
        exact hs
      have E := (if_neg c10).symm.trans E
      obtain ⟨z1, E⟩ := gd_some E
      by_cases c9 : (ea_i h (b0 + 17) (Int32.toNatClampNeg x3)) = x1
      · have E := (if_pos c9).symm.trans E
        obtain ⟨z2, E⟩ := gd_some E
        by_cases c8 : (ea_i h (b0 + 20) (Int32.toNatClampNeg x3)) ≤ (0 : Int32)
        · have E := (if_pos c8).symm.trans E
          exact ih 2 (x1 : Int32) (x2 : Int32) ((x3 + (1 : Int32)) : Int32) h _ _ E hs
        have E := (if_neg c8).symm.trans E
        obtain ⟨z3, E⟩ := gd_some E
        by_cases c7 : (((ea_i h (b0 + 19) (Int32.toNatClampNeg x3)) >>> (x2 &&& 31)) &&& (1 : Int32)) = (1 : Int32)
        · have E := (if_pos c7).symm.trans E
          obtain ⟨z4, E⟩ := gd_some E
          obtain ⟨z5, E⟩ := gd_some E
          cases E
          exact (ShC_wi hs)
        have E := (if_neg c7).symm.trans E
        exact ih 2 (x1 : Int32) (x2 : Int32) ((x3 + (1 : Int32)) : Int32) h _ _ E hs
      have E := (if_neg c9).symm.trans E
      exact ih 2 (x1 : Int32) (x2 : Int32) ((x3 + (1 : Int32)) : Int32) h _ _ E hs
    have E := (if_neg el1).symm.trans E
    cases E
theorem shX3_sortsOne {b0 : Nat} {x1 : Int32} {x2 : Int32} {h : ea_H} (hs : ShC b0 h) : ShC b0 (wX3_sortsOne b0 x1 x2 h) := by
  unfold wX3_sortsOne
  cases K : qX3_sortsOne b0 x1 x2 h with
  | none => exact hs
  | some x => obtain ⟨x, y⟩ := x; unfold qX3_sortsOne at K; exact zX3_sortsOne _ _ _ _ _ _ _ _ K hs
noncomputable def wX4_init (b0 : Nat) (a0 : Nat) (x1 : Int32) (x2 : Int32) (x3 : Int32) (x4 : Int32) (x5 : Int32) (x6 : Int32) (h : ea_H) : ea_H := (ea_wi (ea_wi (ea_wi (ea_wi (ea_wi (ea_wi (ShC_wd b0 (ea_new (ea_wi (ea_wi (ea_wi h a0 11 (-1)) a0 12 (-1)) a0 14 3) 20 4 4) a0 17 (some (ea_n (ea_wi (ea_wi (ea_wi h a0 11 (-1)) a0 12 (-1)) a0 14 3)))) a0 0 x1) a0 1 x2) a0 2 x3) a0 3 x4) a0 4 x5) a0 5 x6)
def okX4_init (b0 : Nat) (a0 : Nat) (x1 : Int32) (x2 : Int32) (x3 : Int32) (x4 : Int32) (x5 : Int32) (x6 : Int32) (h : ea_H) : Prop := (a0 < ea_n h ∧ ea_c h a0 = 4) ∧ ((a0 < ea_n (ea_wi h a0 11 (-1)) ∧ ea_c (ea_wi h a0 11 (-1)) a0 = 4) ∧ ((a0 < ea_n (ea_wi (ea_wi h a0 11 (-1)) a0 12 (-1)) ∧ ea_c (ea_wi (ea_wi h a0 11 (-1)) a0 12 (-1)) a0 = 4) ∧ ((a0 < ea_n (ea_new (ea_wi (ea_wi (ea_wi h a0 11 (-1)) a0 12 (-1)) a0 14 3) 20 4 4) ∧ ea_c (ea_new (ea_wi (ea_wi (ea_wi h a0 11 (-1)) a0 12 (-1)) a0 14 3) 20 4 4) a0 = 4) ∧ (ShC_far b0 a0 ∧ ((a0 < ea_n (ShC_wd b0 (ea_new (ea_wi (ea_wi (ea_wi h a0 11 (-1)) a0 12 (-1)) a0 14 3) 20 4 4) a0 17 (some (ea_n (ea_wi (ea_wi (ea_wi h a0 11 (-1)) a0 12 (-1)) a0 14 3)))) ∧ ea_c (ShC_wd b0 (ea_new (ea_wi (ea_wi (ea_wi h a0 11 (-1)) a0 12 (-1)) a0 14 3) 20 4 4) a0 17 (some (ea_n (ea_wi (ea_wi (ea_wi h a0 11 (-1)) a0 12 (-1)) a0 14 3)))) a0 = 4) ∧ ((a0 < ea_n (ea_wi (ShC_wd b0 (ea_new (ea_wi (ea_wi (ea_wi h a0 11 (-1)) a0 12 (-1)) a0 14 3) 20 4 4) a0 17 (some (ea_n (ea_wi (ea_wi (ea_wi h a0 11 (-1)) a0 12 (-1)) a0 14 3)))) a0 0 x1) ∧ ea_c (ea_wi (ShC_wd b0 (ea_new (ea_wi (ea_wi (ea_wi h a0 11 (-1)) a0 12 (-1)) a0 14 3) 20 4 4) a0 17 (some (ea_n (ea_wi (ea_wi (ea_wi h a0 11 (-1)) a0 12 (-1)) a0 14 3)))) a0 0 x1) a0 = 4) ∧ ((a0 < ea_n (ea_wi (ea_wi (ShC_wd b0 (ea_new (ea_wi (ea_wi (ea_wi h a0 11 (-1)) a0 12 (-1)) a0 14 3) 20 4 4) a0 17 (some (ea_n (ea_wi (ea_wi (ea_wi h a0 11 (-1)) a0 12 (-1)) a0 14 3)))) a0 0 x1) a0 1 x2) ∧ ea_c (ea_wi (ea_wi (ShC_wd b0 (ea_new (ea_wi (ea_wi (ea_wi h a0 11 (-1)) a0 12 (-1)) a0 14 3) 20 4 4) a0 17 (some (ea_n (ea_wi (ea_wi (ea_wi h a0 11 (-1)) a0 12 (-1)) a0 14 3)))) a0 0 x1) a0 1 x2) a0 = 4) ∧ ((a0 < ea_n (ea_wi (ea_wi (ea_wi (ShC_wd b0 (ea_new (ea_wi (ea_wi (ea_wi h a0 11 (-1)) a0 12 (-1)) a0 14 3) 20 4 4) a0 17 (some (ea_n (ea_wi (ea_wi (ea_wi h a0 11 (-1)) a0 12 (-1)) a0 14 3)))) a0 0 x1) a0 1 x2) a0 2 x3) ∧ ea_c (ea_wi (ea_wi (ea_wi (ShC_wd b0 (ea_new (ea_wi (ea_wi (ea_wi h a0 11 (-1)) a0 12 (-1)) a0 14 3) 20 4 4) a0 17 (some (ea_n (ea_wi (ea_wi (ea_wi h a0 11 (-1)) a0 12 (-1)) a0 14 3)))) a0 0 x1) a0 1 x2) a0 2 x3) a0 = 4) ∧ ((a0 < ea_n (ea_wi (ea_wi (ea_wi (ea_wi (ShC_wd b0 (ea_new (ea_wi (ea_wi (ea_wi h a0 11 (-1)) a0 12 (-1)) a0 14 3) 20 4 4) a0 17 (some (ea_n (ea_wi (ea_wi (ea_wi h a0 11 (-1)) a0 12 (-1)) a0 14 3)))) a0 0 x1) a0 1 x2) a0 2 x3) a0 3 x4) ∧ ea_c (ea_wi (ea_wi (ea_wi (ea_wi (ShC_wd b0 (ea_new (ea_wi (ea_wi (ea_wi h a0 11 (-1)) a0 12 (-1)) a0 14 3) 20 4 4) a0 17 (some (ea_n (ea_wi (ea_wi (ea_wi h a0 11 (-1)) a0 12 (-1)) a0 14 3)))) a0 0 x1) a0 1 x2) a0 2 x3) a0 3 x4) a0 = 4) ∧ ((a0 < ea_n (ea_wi (ea_wi (ea_wi (ea_wi (ea_wi (ShC_wd b0 (ea_new (ea_wi (ea_wi (ea_wi h a0 11 (-1)) a0 12 (-1)) a0 14 3) 20 4 4) a0 17 (some (ea_n (ea_wi (ea_wi (ea_wi h a0 11 (-1)) a0 12 (-1)) a0 14 3)))) a0 0 x1) a0 1 x2) a0 2 x3) a0 3 x4) a0 4 x5) ∧ ea_c (ea_wi (ea_wi (ea_wi (ea_wi (ea_wi (ShC_wd b0 (ea_new (ea_wi (ea_wi (ea_wi h a0 11 (-1)) a0 12 (-1)) a0 14 3) 20 4 4) a0 17 (some (ea_n (ea_wi (ea_wi (ea_wi h a0 11 (-1)) a0 12 (-1)) a0 14 3)))) a0 0 x1) a0 1 x2) a0 2 x3) a0 3 x4) a0 4 x5) a0 = 4)))))))))))
theorem shX4_init {b0 : Nat} {a0 : Nat} {x1 : Int32} {x2 : Int32} {x3 : Int32} {x4 : Int32} {x5 : Int32} {x6 : Int32} {h : ea_H} (hs : ShC b0 h) : ShC b0 (wX4_init b0 a0 x1 x2 x3 x4 x5 x6 h) := (ShC_wi (ShC_wi (ShC_wi (ShC_wi (ShC_wi (ShC_wi (ShC_wd_sh (ShC_new (ShC_wi (ShC_wi (ShC_wi hs)))))))))))
theorem sX4_init {d : Nat} {b0 : Nat} {a0 : Nat} {x1 : Int32} {x2 : Int32} {x3 : Int32} {x4 : Int32} {x5 : Int32} {x6 : Int32} {h : ea_H} (hd : 1 ≤ d) (hs : ShC b0 h) (K : okX4_init b0 a0 x1 x2 x3 x4 x5 x6 h) : ea_Met mX4_init d [vR (some a0), vI x1, vI x2, vI x3, vI x4, vI x5, vI x6] h none (wX4_init b0 a0 x1 x2 x3 x4 x5 x6 h) := by
  obtain ⟨Y, EY⟩ : ∃ z, z = wX4_init b0 a0 x1 x2 x3 x4 x5 x6 h := ⟨_, rfl⟩
  rw [← EY]
  unfold wX4_init at EY
  unfold okX4_init at K
  refine ea_enter rfl (Nat.le_of_ble_eq_true rfl) ?_
  refine ea_aload_n (pc := 0) dX4_init_0 rfl 0 rfl ?_
  refine ea_objInit (pc := 1) dX4_init_1 ew_932 ew_134 ew_135 (by omega) (Nat.le_of_ble_eq_true rfl) ?_
  refine ea_aload_n (pc := 4) dX4_init_4 rfl 0 rfl ?_
  refine ea_iconst (pc := 5) dX4_init_5 (v := (-1)) rfl ?_
  obtain ⟨f1, K⟩ := K
  refine ea_putI (pc := 6) dX4_init_6 ec_4 (k := 11) (Nat.le_of_ble_eq_true rfl) rfl (Or.inl ⟨rfl, Or.inl ew_961⟩) rfl rfl f1.1 f1.2 ?_
  have hs2 : ShC b0 (ea_wi h a0 11 (-1)) := ShC_wi hs
  refine ea_aload_n (pc := 9) dX4_init_9 rfl 0 rfl ?_
  refine ea_iconst (pc := 10) dX4_init_10 (v := (-1)) rfl ?_
  obtain ⟨f3, K⟩ := K
  refine ea_putI (pc := 11) dX4_init_11 ec_4 (k := 12) (Nat.le_of_ble_eq_true rfl) rfl (Or.inl ⟨rfl, Or.inl ew_964⟩) rfl rfl f3.1 f3.2 ?_
  have hs4 : ShC b0 (ea_wi (ea_wi h a0 11 (-1)) a0 12 (-1)) := ShC_wi hs2
  refine ea_aload_n (pc := 14) dX4_init_14 rfl 0 rfl ?_
  refine ea_iconst (pc := 15) dX4_init_15 (v := 3) rfl ?_
  obtain ⟨f5, K⟩ := K
  refine ea_putI (pc := 16) dX4_init_16 ec_4 (k := 14) (Nat.le_of_ble_eq_true rfl) rfl (Or.inl ⟨rfl, Or.inl ew_969⟩) rfl rfl f5.1 f5.2 ?_
  have hs6 : ShC b0 (ea_wi (ea_wi (ea_wi h a0 11 (-1)) a0 12 (-1)) a0 14 3) := ShC_wi hs4
  refine ea_aload_n (pc := 19) dX4_init_19 rfl 0 rfl ?_
  refine ea_iconst (pc := 20) dX4_init_20 (v := 4) rfl ?_
  refine ea_newI (pc := 21) (N := 4) dX4_init_21 ew_170 (by decide) rfl (Nat.le_of_ble_eq_true rfl) ?_
  have hs7 : ShC b0 (ea_new (ea_wi (ea_wi (ea_wi h a0 11 (-1)) a0 12 (-1)) a0 14 3) 20 4 4) := ShC_new hs6
  obtain ⟨f8, zf10, K⟩ := K
  refine ea_putR (pc := 23) dX4_init_23 ec_4 (k := 17) (Nat.le_of_ble_eq_true rfl) rfl (Or.inl ⟨rfl, Or.inl ew_976⟩) f8.1 f8.2 ?_
  refine ea_nm (ShC_wdeq zf10) ?_
  have hs9 : ShC b0 (ShC_wd b0 (ea_new (ea_wi (ea_wi (ea_wi h a0 11 (-1)) a0 12 (-1)) a0 14 3) 20 4 4) a0 17 (some (ea_n (ea_wi (ea_wi (ea_wi h a0 11 (-1)) a0 12 (-1)) a0 14 3)))) := ShC_wd_sh hs7
  refine ea_aload_n (pc := 26) dX4_init_26 rfl 0 rfl ?_
  refine ea_iload_n (pc := 27) dX4_init_27 rfl 1 rfl ?_
  obtain ⟨f11, K⟩ := K
  refine ea_putI (pc := 28) dX4_init_28 ec_4 (k := 0) (Nat.le_of_ble_eq_true rfl) rfl (Or.inr ⟨rfl, rfl, rfl, ew_933⟩) rfl rfl f11.1 f11.2 ?_
  have hs12 : ShC b0 (ea_wi (ShC_wd b0 (ea_new (ea_wi (ea_wi (ea_wi h a0 11 (-1)) a0 12 (-1)) a0 14 3) 20 4 4) a0 17 (some (ea_n (ea_wi (ea_wi (ea_wi h a0 11 (-1)) a0 12 (-1)) a0 14 3)))) a0 0 x1) := ShC_wi hs9
  refine ea_aload_n (pc := 31) dX4_init_31 rfl 0 rfl ?_
  refine ea_iload_n (pc := 32) dX4_init_32 rfl 2 rfl ?_
  obtain ⟨f13, K⟩ := K
  refine ea_putI (pc := 33) dX4_init_33 ec_4 (k := 1) (Nat.le_of_ble_eq_true rfl) rfl (Or.inr ⟨rfl, rfl, rfl, ew_936⟩) rfl rfl f13.1 f13.2 ?_
  have hs14 : ShC b0 (ea_wi (ea_wi (ShC_wd b0 (ea_new (ea_wi (ea_wi (ea_wi h a0 11 (-1)) a0 12 (-1)) a0 14 3) 20 4 4) a0 17 (some (ea_n (ea_wi (ea_wi (ea_wi h a0 11 (-1)) a0 12 (-1)) a0 14 3)))) a0 0 x1) a0 1 x2) := ShC_wi hs12
  refine ea_aload_n (pc := 36) dX4_init_36 rfl 0 rfl ?_
  refine ea_iload_n (pc := 37) dX4_init_37 rfl 3 rfl ?_
  obtain ⟨f15, K⟩ := K
  refine ea_putI (pc := 38) dX4_init_38 ec_4 (k := 2) (Nat.le_of_ble_eq_true rfl) rfl (Or.inr ⟨rfl, rfl, rfl, ew_938⟩) rfl rfl f15.1 f15.2 ?_
  have hs16 : ShC b0 (ea_wi (ea_wi (ea_wi (ShC_wd b0 (ea_new (ea_wi (ea_wi (ea_wi h a0 11 (-1)) a0 12 (-1)) a0 14 3) 20 4 4) a0 17 (some (ea_n (ea_wi (ea_wi (ea_wi h a0 11 (-1)) a0 12 (-1)) a0 14 3)))) a0 0 x1) a0 1 x2) a0 2 x3) := ShC_wi hs14
  refine ea_aload_n (pc := 41) dX4_init_41 rfl 0 rfl ?_
  refine ea_iload (pc := 42) dX4_init_42 4 rfl ?_
  obtain ⟨f17, K⟩ := K
  refine ea_putI (pc := 44) dX4_init_44 ec_4 (k := 3) (Nat.le_of_ble_eq_true rfl) rfl (Or.inr ⟨rfl, rfl, rfl, ew_941⟩) rfl rfl f17.1 f17.2 ?_
  have hs18 : ShC b0 (ea_wi (ea_wi (ea_wi (ea_wi (ShC_wd b0 (ea_new (ea_wi (ea_wi (ea_wi h a0 11 (-1)) a0 12 (-1)) a0 14 3) 20 4 4) a0 17 (some (ea_n (ea_wi (ea_wi (ea_wi h a0 11 (-1)) a0 12 (-1)) a0 14 3)))) a0 0 x1) a0 1 x2) a0 2 x3) a0 3 x4) := ShC_wi hs16
  refine ea_aload_n (pc := 47) dX4_init_47 rfl 0 rfl ?_
  refine ea_iload (pc := 48) dX4_init_48 5 rfl ?_
  obtain ⟨f19, K⟩ := K
  refine ea_putI (pc := 50) dX4_init_50 ec_4 (k := 4) (Nat.le_of_ble_eq_true rfl) rfl (Or.inr ⟨rfl, rfl, rfl, ew_944⟩) rfl rfl f19.1 f19.2 ?_
  have hs20 : ShC b0 (ea_wi (ea_wi (ea_wi (ea_wi (ea_wi (ShC_wd b0 (ea_new (ea_wi (ea_wi (ea_wi h a0 11 (-1)) a0 12 (-1)) a0 14 3) 20 4 4) a0 17 (some (ea_n (ea_wi (ea_wi (ea_wi h a0 11 (-1)) a0 12 (-1)) a0 14 3)))) a0 0 x1) a0 1 x2) a0 2 x3) a0 3 x4) a0 4 x5) := ShC_wi hs18
  refine ea_aload_n (pc := 53) dX4_init_53 rfl 0 rfl ?_
  refine ea_iload (pc := 54) dX4_init_54 6 rfl ?_
  have f21 := K
  refine ea_putI (pc := 56) dX4_init_56 ec_4 (k := 5) (Nat.le_of_ble_eq_true rfl) rfl (Or.inr ⟨rfl, rfl, rfl, ew_947⟩) rfl rfl f21.1 f21.2 ?_
  have hs22 : ShC b0 (ea_wi (ea_wi (ea_wi (ea_wi (ea_wi (ea_wi (ShC_wd b0 (ea_new (ea_wi (ea_wi (ea_wi h a0 11 (-1)) a0 12 (-1)) a0 14 3) 20 4 4) a0 17 (some (ea_n (ea_wi (ea_wi (ea_wi h a0 11 (-1)) a0 12 (-1)) a0 14 3)))) a0 0 x1) a0 1 x2) a0 2 x3) a0 3 x4) a0 4 x5) a0 5 x6) := ShC_wi hs20
  subst EY
  exact ea_return (pc := 59) dX4_init_59 rfl
noncomputable def vX4_dayOf (b0 : Nat) (a0 : Nat) (h : ea_H) : Int32 := ((ea_i h a0 6) / (1440 : Int32))
def okX4_dayOf (b0 : Nat) (a0 : Nat) (h : ea_H) : Prop := (a0 < ea_n h ∧ ea_c h a0 = 4)
theorem sX4_dayOf {d : Nat} {b0 : Nat} {a0 : Nat} {h : ea_H} (hd : 1 ≤ d) (hs : ShC b0 h) (K : okX4_dayOf b0 a0 h) : ea_Met mX4_dayOf d [vR (some a0)] h (some (vI (vX4_dayOf b0 a0 h))) h := by
  obtain ⟨X, EX⟩ : ∃ z, z = vX4_dayOf b0 a0 h := ⟨_, rfl⟩
  rw [← EX]
  unfold vX4_dayOf at EX
  unfold okX4_dayOf at K
  refine ea_enter rfl (Nat.le_of_ble_eq_true rfl) ?_
  refine ea_aload_n (pc := 0) dX4_dayOf_0 rfl 0 rfl ?_
  have f1 := K
  refine ea_getI (pc := 1) dX4_dayOf_1 ec_4 (k := 6) (Nat.le_of_ble_eq_true rfl) rfl (Or.inl ew_949) f1.1 f1.2 ?_
  refine ea_sipush (pc := 4) dX4_dayOf_4 (v := 1440) rfl ?_
  refine ea_idiv (pc := 7) dX4_dayOf_7 (by decide) ?_
  subst EX
  exact ea_ireturn (pc := 8) dX4_dayOf_8 rfl rfl
noncomputable def vX4_owed (b0 : Nat) (a0 : Nat) (h : ea_H) : Int32 := (if (ea_i h a0 0) = (0 : Int32) then (ea_i h a0 10) else (if (ea_i h a0 0) = (3 : Int32) then (ea_i h a0 10) else (0 : Int32)))
def okX4_owed (b0 : Nat) (a0 : Nat) (h : ea_H) : Prop := (a0 < ea_n h ∧ ea_c h a0 = 4) ∧ (((ea_i h a0 0) = (0 : Int32) → (a0 < ea_n h ∧ ea_c h a0 = 4)) ∧ (¬ (ea_i h a0 0) = (0 : Int32) → (a0 < ea_n h ∧ ea_c h a0 = 4) ∧ (((ea_i h a0 0) = (3 : Int32) → (a0 < ea_n h ∧ ea_c h a0 = 4)) ∧ (¬ (ea_i h a0 0) = (3 : Int32) → True))))
theorem sX4_owed {d : Nat} {b0 : Nat} {a0 : Nat} {h : ea_H} (hd : 1 ≤ d) (hs : ShC b0 h) (K : okX4_owed b0 a0 h) : ea_Met mX4_owed d [vR (some a0)] h (some (vI (vX4_owed b0 a0 h))) h := by
  obtain ⟨X, EX⟩ : ∃ z, z = vX4_owed b0 a0 h := ⟨_, rfl⟩
  rw [← EX]
  unfold vX4_owed at EX
  unfold okX4_owed at K
  refine ea_enter rfl (Nat.le_of_ble_eq_true rfl) ?_
  refine ea_aload_n (pc := 0) dX4_owed_0 rfl 0 rfl ?_
  obtain ⟨f1, K⟩ := K
  refine ea_getI (pc := 1) dX4_owed_1 ec_4 (k := 0) (Nat.le_of_ble_eq_true rfl) rfl (Or.inl ew_933) f1.1 f1.2 ?_
  refine ea_if_eq (pc := 4) (tgt := 15) dX4_owed_4 rfl (fun c6 => ?_) (fun c6 => ?_)
  · have EX := EX.trans (if_pos c6)
    have K := K.1 c6
    refine ea_aload_n (pc := 15) dX4_owed_15 rfl 0 rfl ?_
    have f2 := K
    refine ea_getI (pc := 16) dX4_owed_16 ec_4 (k := 10) (Nat.le_of_ble_eq_true rfl) rfl (Or.inl ew_958) f2.1 f2.2 ?_
    refine ea_goto (pc := 19) (tgt := 23) dX4_owed_19 rfl ?_
    subst EX
    exact ea_ireturn (pc := 23) dX4_owed_23 rfl rfl
  · have EX := EX.trans (if_neg c6)
    have K := K.2 c6
    refine ea_aload_n (pc := 7) dX4_owed_7 rfl 0 rfl ?_
    obtain ⟨f3, K⟩ := K
    refine ea_getI (pc := 8) dX4_owed_8 ec_4 (k := 0) (Nat.le_of_ble_eq_true rfl) rfl (Or.inl ew_933) f3.1 f3.2 ?_
    refine ea_iconst (pc := 11) dX4_owed_11 (v := 3) rfl ?_
    refine ea_icmp_ne (pc := 12) (tgt := 22) dX4_owed_12 rfl (fun c5 => ?_) (fun c5 => ?_)
    · have EX := EX.trans (if_neg c5)
      refine ea_iconst (pc := 22) dX4_owed_22 (v := 0) rfl ?_
      subst EX
      exact ea_ireturn (pc := 23) dX4_owed_23 rfl rfl
    · have EX := EX.trans (if_pos c5)
      have K := K.1 c5
      refine ea_aload_n (pc := 15) dX4_owed_15 rfl 0 rfl ?_
      have f4 := K
      refine ea_getI (pc := 16) dX4_owed_16 ec_4 (k := 10) (Nat.le_of_ble_eq_true rfl) rfl (Or.inl ew_958) f4.1 f4.2 ?_
      refine ea_goto (pc := 19) (tgt := 23) dX4_owed_19 rfl ?_
      subst EX
      exact ea_ireturn (pc := 23) dX4_owed_23 rfl rfl
noncomputable def vX4_rowMinute (b0 : Nat) (a0 : Nat) (x1 : Int32) (h : ea_H) : Int32 := ((ea_i h (Option.getD (ea_r h a0 17) 0) (Int32.toNatClampNeg x1)) >>> ((10 : Int32) &&& 31))
def okX4_rowMinute (b0 : Nat) (a0 : Nat) (x1 : Int32) (h : ea_H) : Prop := (a0 < ea_n h ∧ ea_c h a0 = 4) ∧ ((ea_r h a0 17) = some (Option.getD (ea_r h a0 17) 0) ∧ (((Option.getD (ea_r h a0 17) 0) < ea_n h ∧ ea_c h (Option.getD (ea_r h a0 17) 0) = 20) ∧ (vp_in x1 (ea_l h (Option.getD (ea_r h a0 17) 0)))))
theorem sX4_rowMinute {d : Nat} {b0 : Nat} {a0 : Nat} {x1 : Int32} {h : ea_H} (hd : 1 ≤ d) (hs : ShC b0 h) (K : okX4_rowMinute b0 a0 x1 h) : ea_Met mX4_rowMinute d [vR (some a0), vI x1] h (some (vI (vX4_rowMinute b0 a0 x1 h))) h := by
  obtain ⟨X, EX⟩ : ∃ z, z = vX4_rowMinute b0 a0 x1 h := ⟨_, rfl⟩
  rw [← EX]
  unfold vX4_rowMinute at EX
  unfold okX4_rowMinute at K
  refine ea_enter rfl (Nat.le_of_ble_eq_true rfl) ?_
  refine ea_aload_n (pc := 0) dX4_rowMinute_0 rfl 0 rfl ?_
  obtain ⟨f1, K⟩ := K
  refine ea_getR (pc := 1) dX4_rowMinute_1 ec_4 (k := 17) (Nat.le_of_ble_eq_true rfl) rfl (Or.inl ew_976) f1.1 f1.2 rfl ?_
  refine ea_iload_n (pc := 4) dX4_rowMinute_4 rfl 1 rfl ?_
  obtain ⟨e2, f3, z4⟩ := K
  refine ea_deref1 e2 ?_
  refine ea_iald (pc := 5) dX4_rowMinute_5 f3.1 f3.2 z4 ?_
  refine ea_bipush (pc := 6) dX4_rowMinute_6 (v := 10) rfl ?_
  refine ea_ishr (pc := 8) dX4_rowMinute_8 ?_
  subst EX
  exact ea_ireturn (pc := 9) dX4_rowMinute_9 rfl rfl
noncomputable def vX4_rowState (b0 : Nat) (a0 : Nat) (x1 : Int32) (h : ea_H) : Int32 := (((ea_i h (Option.getD (ea_r h a0 17) 0) (Int32.toNatClampNeg x1)) >>> ((7 : Int32) &&& 31)) &&& (7 : Int32))
def okX4_rowState (b0 : Nat) (a0 : Nat) (x1 : Int32) (h : ea_H) : Prop := (a0 < ea_n h ∧ ea_c h a0 = 4) ∧ ((ea_r h a0 17) = some (Option.getD (ea_r h a0 17) 0) ∧ (((Option.getD (ea_r h a0 17) 0) < ea_n h ∧ ea_c h (Option.getD (ea_r h a0 17) 0) = 20) ∧ (vp_in x1 (ea_l h (Option.getD (ea_r h a0 17) 0)))))
theorem sX4_rowState {d : Nat} {b0 : Nat} {a0 : Nat} {x1 : Int32} {h : ea_H} (hd : 1 ≤ d) (hs : ShC b0 h) (K : okX4_rowState b0 a0 x1 h) : ea_Met mX4_rowState d [vR (some a0), vI x1] h (some (vI (vX4_rowState b0 a0 x1 h))) h := by
  obtain ⟨X, EX⟩ : ∃ z, z = vX4_rowState b0 a0 x1 h := ⟨_, rfl⟩
  rw [← EX]
  unfold vX4_rowState at EX
  unfold okX4_rowState at K
  refine ea_enter rfl (Nat.le_of_ble_eq_true rfl) ?_
  refine ea_aload_n (pc := 0) dX4_rowState_0 rfl 0 rfl ?_
  obtain ⟨f1, K⟩ := K
  refine ea_getR (pc := 1) dX4_rowState_1 ec_4 (k := 17) (Nat.le_of_ble_eq_true rfl) rfl (Or.inl ew_976) f1.1 f1.2 rfl ?_
  refine ea_iload_n (pc := 4) dX4_rowState_4 rfl 1 rfl ?_
  obtain ⟨e2, f3, z4⟩ := K
  refine ea_deref1 e2 ?_
  refine ea_iald (pc := 5) dX4_rowState_5 f3.1 f3.2 z4 ?_
  refine ea_bipush (pc := 6) dX4_rowState_6 (v := 7) rfl ?_
  refine ea_ishr (pc := 8) dX4_rowState_8 ?_
  refine ea_bipush (pc := 9) dX4_rowState_9 (v := 7) rfl ?_
  refine ea_iand (pc := 11) dX4_rowState_11 ?_
  subst EX
  exact ea_ireturn (pc := 12) dX4_rowState_12 rfl rfl
noncomputable def vX4_rowPlace (b0 : Nat) (a0 : Nat) (x1 : Int32) (h : ea_H) : Int32 := ((ea_i h (Option.getD (ea_r h a0 17) 0) (Int32.toNatClampNeg x1)) &&& (127 : Int32))
def okX4_rowPlace (b0 : Nat) (a0 : Nat) (x1 : Int32) (h : ea_H) : Prop := (a0 < ea_n h ∧ ea_c h a0 = 4) ∧ ((ea_r h a0 17) = some (Option.getD (ea_r h a0 17) 0) ∧ (((Option.getD (ea_r h a0 17) 0) < ea_n h ∧ ea_c h (Option.getD (ea_r h a0 17) 0) = 20) ∧ (vp_in x1 (ea_l h (Option.getD (ea_r h a0 17) 0)))))
theorem sX4_rowPlace {d : Nat} {b0 : Nat} {a0 : Nat} {x1 : Int32} {h : ea_H} (hd : 1 ≤ d) (hs : ShC b0 h) (K : okX4_rowPlace b0 a0 x1 h) : ea_Met mX4_rowPlace d [vR (some a0), vI x1] h (some (vI (vX4_rowPlace b0 a0 x1 h))) h := by
  obtain ⟨X, EX⟩ : ∃ z, z = vX4_rowPlace b0 a0 x1 h := ⟨_, rfl⟩
  rw [← EX]
  unfold vX4_rowPlace at EX
  unfold okX4_rowPlace at K
  refine ea_enter rfl (Nat.le_of_ble_eq_true rfl) ?_
  refine ea_aload_n (pc := 0) dX4_rowPlace_0 rfl 0 rfl ?_
  obtain ⟨f1, K⟩ := K
  refine ea_getR (pc := 1) dX4_rowPlace_1 ec_4 (k := 17) (Nat.le_of_ble_eq_true rfl) rfl (Or.inl ew_976) f1.1 f1.2 rfl ?_
  refine ea_iload_n (pc := 4) dX4_rowPlace_4 rfl 1 rfl ?_
  obtain ⟨e2, f3, z4⟩ := K
  refine ea_deref1 e2 ?_
  refine ea_iald (pc := 5) dX4_rowPlace_5 f3.1 f3.2 z4 ?_
  refine ea_bipush (pc := 6) dX4_rowPlace_6 (v := 127) rfl ?_
  refine ea_iand (pc := 8) dX4_rowPlace_8 ?_
  subst EX
  exact ea_ireturn (pc := 9) dX4_rowPlace_9 rfl rfl
noncomputable def gX4_rowAt (b0 : Nat) (a0 : Nat) : Nat → Nat → Int32 → Int32 → Int32 → ea_H → Option (Int32 × ea_H)
  | 0, _, _, _, _, _ => none
  | f + 1, lbl, x1, x2, x3, h =>
    if lbl = 0 then (gX4_rowAt b0 a0 f 4 (x1 : Int32) ((-1) : Int32) (0 : Int32) h) else
    if lbl = 4 then (gd ((a0 < ea_n h ∧ ea_c h a0 = 4)) (if (ea_i h a0 16) ≤ x3 then (some (x2, h)) else (gd ((a0 < ea_n h ∧ ea_c h a0 = 4)) (gd ((okX4_rowMinute b0 a0 (x3 : Int32) h)) (if x1 < (vX4_rowMinute b0 a0 (x3 : Int32) h) then (gX4_rowAt b0 a0 f 4 (x1 : Int32) (x2 : Int32) ((x3 + (1 : Int32)) : Int32) h) else (gX4_rowAt b0 a0 f 4 (x1 : Int32) (x3 : Int32) ((x3 + (1 : Int32)) : Int32) h)))))) else none
theorem tX4_rowAt {d : Nat} {b0 : Nat} {a0 : Nat} {h0 : ea_H} (hd : 2 ≤ d) : ∀ (f lbl : Nat) (x1 : Int32) (x2 : Int32) (x3 : Int32) (h : ea_H) (r : Int32) (h' : ea_H), gX4_rowAt b0 a0 f lbl x1 x2 x3 h = some (r, h') → ShC b0 h → (lbl = 0 → ea_W mX4_rowAt d h0 (some (vI r)) h' 0 [(0, vR (some a0)), (1, vI x1)] [] h) ∧ (lbl = 4 → ea_W mX4_rowAt d h0 (some (vI r)) h' 4 [(0, vR (some a0)), (1, vI x1), (2, vI x2), (3, vI x3)] [] h) := by
  intro f
  induction f with
  | zero => intro lbl x1 x2 x3 h r h' E; cases E
  | succ f ih =>
    intro lbl x1 x2 x3 h r h' E hs
    unfold gX4_rowAt at E
    refine ⟨?_, ?_⟩
    · intro el
      subst el
      have E := (if_pos rfl).symm.trans E
      refine ea_iconst (pc := 0) dX4_rowAt_0 (v := (-1)) rfl ?_
      refine ea_istore_n (pc := 1) (lv' := [(0, vR (some a0)), (1, vI x1), (2, vI (-1))]) dX4_rowAt_1 rfl (Nat.le_of_ble_eq_true rfl) [1, 2, 0] rfl ?_
      refine ea_iconst (pc := 2) dX4_rowAt_2 (v := 0) rfl ?_
      refine ea_istore_n (pc := 3) (lv' := [(0, vR (some a0)), (1, vI x1), (2, vI (-1)), (3, vI 0)]) dX4_rowAt_3 rfl (Nat.le_of_ble_eq_true rfl) [1, 2, 3, 0] rfl ?_
      exact ((ih 4 (x1 : Int32) ((-1) : Int32) (0 : Int32) h _ _ E hs).2 rfl)
    intro el
    subst el
    have E := (if_neg (by decide)).symm.trans E
    have E := (if_pos rfl).symm.trans E
    refine ea_iload_n (pc := 4) dX4_rowAt_4 rfl 3 rfl ?_
    refine ea_aload_n (pc := 5) dX4_rowAt_5 rfl 0 rfl ?_
    obtain ⟨f1, E⟩ := gd_some E
    refine ea_getI (pc := 6) dX4_rowAt_6 ec_4 (k := 16) (Nat.le_of_ble_eq_true rfl) rfl (Or.inl ew_974) f1.1 f1.2 ?_
    refine ea_icmp_ge (pc := 9) (tgt := 29) dX4_rowAt_9 rfl (fun c5 => ?_) (fun c5 => ?_)
    · have E := (if_pos c5).symm.trans E
      refine ea_iload_n (pc := 29) dX4_rowAt_29 rfl 2 rfl ?_
      cases E
      exact ea_ireturn (pc := 30) dX4_rowAt_30 rfl rfl
    · have E := (if_neg c5).symm.trans E
      refine ea_aload_n (pc := 12) dX4_rowAt_12 rfl 0 rfl ?_
      refine ea_iload_n (pc := 13) dX4_rowAt_13 rfl 3 rfl ?_
      obtain ⟨f2, E⟩ := gd_some E
      obtain ⟨z3, E⟩ := gd_some E
      refine ea_callV (pc := 14) (d' := d - 1) (As := [vI x3]) (st := []) dX4_rowAt_14 kX4_rowMinute (sX4_rowMinute (d := d - 1) (by omega) hs z3) (by omega) rfl (Nat.le_of_ble_eq_true rfl) ew_1132 ew_1113 ew_1114 (ci := 4) rfl (by decide) f2.1 f2.2 ?_
      refine ea_iload_n (pc := 17) dX4_rowAt_17 rfl 1 rfl ?_
      refine ea_icmp_gt (pc := 18) (tgt := 23) dX4_rowAt_18 rfl (fun c4 => ?_) (fun c4 => ?_)
      · have E := (if_pos c4).symm.trans E
        refine ea_iinc (pc := 23) (v := 1) (lv' := [(0, vR (some a0)), (1, vI x1), (2, vI x2), (3, vI (x3 + (1 : Int32)))]) dX4_rowAt_23 3 rfl rfl (Nat.le_of_ble_eq_true rfl) [1, 2, 3, 0] rfl ?_
        refine ea_goto (pc := 26) (tgt := 4) dX4_rowAt_26 rfl ?_
        exact ((ih 4 (x1 : Int32) (x2 : Int32) ((x3 + (1 : Int32)) : Int32) h _ _ E hs).2 rfl)
      · have E := (if_neg c4).symm.trans E
        refine ea_iload_n (pc := 21) dX4_rowAt_21 rfl 3 rfl ?_
        refine ea_istore_n (pc := 22) (lv' := [(0, vR (some a0)), (1, vI x1), (2, vI x3), (3, vI x3)]) dX4_rowAt_22 rfl (Nat.le_of_ble_eq_true rfl) [1, 2, 0, 3] rfl ?_
        refine ea_iinc (pc := 23) (v := 1) (lv' := [(0, vR (some a0)), (1, vI x1), (2, vI x3), (3, vI (x3 + (1 : Int32)))]) dX4_rowAt_23 3 rfl rfl (Nat.le_of_ble_eq_true rfl) [1, 2, 3, 0] rfl ?_
        refine ea_goto (pc := 26) (tgt := 4) dX4_rowAt_26 rfl ?_
        exact ((ih 4 (x1 : Int32) (x3 : Int32) ((x3 + (1 : Int32)) : Int32) h _ _ E hs).2 rfl)
noncomputable def qX4_rowAt (b0 : Nat) (a0 : Nat) (x1 : Int32) (h : ea_H) : Option (Int32 × ea_H) := gX4_rowAt b0 a0 1000000000 0 x1 0 0 h
def okX4_rowAt (b0 : Nat) (a0 : Nat) (x1 : Int32) (h : ea_H) : Prop := ∃ x, qX4_rowAt b0 a0 x1 h = some x
noncomputable def vX4_rowAt (b0 : Nat) (a0 : Nat) (x1 : Int32) (h : ea_H) : Int32 := ((qX4_rowAt b0 a0 x1 h).getD (0, h)).1
noncomputable def wX4_rowAt (b0 : Nat) (a0 : Nat) (x1 : Int32) (h : ea_H) : ea_H := ((qX4_rowAt b0 a0 x1 h).getD (0, h)).2
theorem sX4_rowAt {d : Nat} {b0 : Nat} {a0 : Nat} {x1 : Int32} {h : ea_H} (hd : 2 ≤ d) (hs : ShC b0 h) (K : okX4_rowAt b0 a0 x1 h) : ea_Met mX4_rowAt d [vR (some a0), vI x1] h (some (vI (vX4_rowAt b0 a0 x1 h))) (wX4_rowAt b0 a0 x1 h) := by
  obtain ⟨⟨x, y⟩, K⟩ := K
  unfold wX4_rowAt vX4_rowAt
  rw [K]
  unfold qX4_rowAt at K
  exact ea_enter rfl (Nat.le_of_ble_eq_true rfl) ((tX4_rowAt hd 1000000000 0 x1 0 0 h x y K hs).1 rfl)
theorem zX4_rowAt {b0 : Nat} {a0 : Nat} : ∀ (f lbl : Nat) (x1 : Int32) (x2 : Int32) (x3 : Int32) (h : ea_H) (r : Int32) (h' : ea_H), gX4_rowAt b0 a0 f lbl x1 x2 x3 h = some (r, h') → ShC b0 h → ShC b0 h' := by
  intro f
  induction f with
  | zero => intro lbl x1 x2 x3 h r h' E; cases E
  | succ f ih =>
    intro lbl x1 x2 x3 h r h' E hs
    unfold gX4_rowAt at E
    by_cases el0 : lbl = 0
    · have E := (if_pos el0).symm.trans E
      exact ih 4 (x1 : Int32) ((-1) : Int32) (0 : Int32) h _ _ E hs
    have E := (if_neg el0).symm.trans E
    by_cases el1 : lbl = 4
    · have E := (if_pos el1).symm.trans E
      obtain ⟨f1, E⟩ := gd_some E
      by_cases c5 : (ea_i h a0 16) ≤ x3
      · have E := (if_pos c5).symm.trans E
        cases E
        exact hs
      have E := (if_neg c5).symm.trans E
      obtain ⟨f2, E⟩ := gd_some E
      obtain ⟨z3, E⟩ := gd_some E
      by_cases c4 : x1 < (vX4_rowMinute b0 a0 (x3 : Int32) h)
      · have E := (if_pos c4).symm.trans E
        exact ih 4 (x1 : Int32) (x2 : Int32) ((x3 + (1 : Int32)) : Int32) h _ _ E hs
      have E := (if_neg c4).symm.trans E
      exact ih 4 (x1 : Int32) (x3 : Int32) ((x3 + (1 : Int32)) : Int32) h _ _ E hs
    have E := (if_neg el1).symm.trans E
    cases E
theorem shX4_rowAt {b0 : Nat} {a0 : Nat} {x1 : Int32} {h : ea_H} (hs : ShC b0 h) : ShC b0 (wX4_rowAt b0 a0 x1 h) := by
  unfold wX4_rowAt
  cases K : qX4_rowAt b0 a0 x1 h with
  | none => exact hs
  | some x => obtain ⟨x, y⟩ := x; unfold qX4_rowAt at K; exact zX4_rowAt _ _ _ _ _ _ _ _ K hs
noncomputable def vX4_placeTown (b0 : Nat) (a0 : Nat) (x1 : Int32) (h : ea_H) : Int32 := ((ea_i h (Option.getD (ea_r h a0 19) 0) (Int32.toNatClampNeg x1)) &&& (15 : Int32))
def okX4_placeTown (b0 : Nat) (a0 : Nat) (x1 : Int32) (h : ea_H) : Prop := (a0 < ea_n h ∧ ea_c h a0 = 4) ∧ ((ea_r h a0 19) = some (Option.getD (ea_r h a0 19) 0) ∧ (((Option.getD (ea_r h a0 19) 0) < ea_n h ∧ ea_c h (Option.getD (ea_r h a0 19) 0) = 20) ∧ (vp_in x1 (ea_l h (Option.getD (ea_r h a0 19) 0)))))
theorem sX4_placeTown {d : Nat} {b0 : Nat} {a0 : Nat} {x1 : Int32} {h : ea_H} (hd : 1 ≤ d) (hs : ShC b0 h) (K : okX4_placeTown b0 a0 x1 h) : ea_Met mX4_placeTown d [vR (some a0), vI x1] h (some (vI (vX4_placeTown b0 a0 x1 h))) h := by
  obtain ⟨X, EX⟩ : ∃ z, z = vX4_placeTown b0 a0 x1 h := ⟨_, rfl⟩
  rw [← EX]
  unfold vX4_placeTown at EX
  unfold okX4_placeTown at K
  refine ea_enter rfl (Nat.le_of_ble_eq_true rfl) ?_
  refine ea_aload_n (pc := 0) dX4_placeTown_0 rfl 0 rfl ?_
  obtain ⟨f1, K⟩ := K
  refine ea_getR (pc := 1) dX4_placeTown_1 ec_4 (k := 19) (Nat.le_of_ble_eq_true rfl) rfl (Or.inl ew_979) f1.1 f1.2 rfl ?_
  refine ea_iload_n (pc := 4) dX4_placeTown_4 rfl 1 rfl ?_
  obtain ⟨e2, f3, z4⟩ := K
  refine ea_deref1 e2 ?_
  refine ea_iald (pc := 5) dX4_placeTown_5 f3.1 f3.2 z4 ?_
  refine ea_bipush (pc := 6) dX4_placeTown_6 (v := 15) rfl ?_
  refine ea_iand (pc := 8) dX4_placeTown_8 ?_
  subst EX
  exact ea_ireturn (pc := 9) dX4_placeTown_9 rfl rfl
noncomputable def vX4_placeChance (b0 : Nat) (a0 : Nat) (x1 : Int32) (h : ea_H) : Int32 := ((100 : Int32) - ((ea_i h (Option.getD (ea_r h a0 19) 0) (Int32.toNatClampNeg x1)) >>> ((4 : Int32) &&& 31)))
def okX4_placeChance (b0 : Nat) (a0 : Nat) (x1 : Int32) (h : ea_H) : Prop := (a0 < ea_n h ∧ ea_c h a0 = 4) ∧ ((ea_r h a0 19) = some (Option.getD (ea_r h a0 19) 0) ∧ (((Option.getD (ea_r h a0 19) 0) < ea_n h ∧ ea_c h (Option.getD (ea_r h a0 19) 0) = 20) ∧ (vp_in x1 (ea_l h (Option.getD (ea_r h a0 19) 0)))))
theorem sX4_placeChance {d : Nat} {b0 : Nat} {a0 : Nat} {x1 : Int32} {h : ea_H} (hd : 1 ≤ d) (hs : ShC b0 h) (K : okX4_placeChance b0 a0 x1 h) : ea_Met mX4_placeChance d [vR (some a0), vI x1] h (some (vI (vX4_placeChance b0 a0 x1 h))) h := by
  obtain ⟨X, EX⟩ : ∃ z, z = vX4_placeChance b0 a0 x1 h := ⟨_, rfl⟩
  rw [← EX]
  unfold vX4_placeChance at EX
  unfold okX4_placeChance at K
  refine ea_enter rfl (Nat.le_of_ble_eq_true rfl) ?_
  refine ea_bipush (pc := 0) dX4_placeChance_0 (v := 100) rfl ?_
  refine ea_aload_n (pc := 2) dX4_placeChance_2 rfl 0 rfl ?_
  obtain ⟨f1, K⟩ := K
  refine ea_getR (pc := 3) dX4_placeChance_3 ec_4 (k := 19) (Nat.le_of_ble_eq_true rfl) rfl (Or.inl ew_979) f1.1 f1.2 rfl ?_
  refine ea_iload_n (pc := 6) dX4_placeChance_6 rfl 1 rfl ?_
  obtain ⟨e2, f3, z4⟩ := K
  refine ea_deref1 e2 ?_
  refine ea_iald (pc := 7) dX4_placeChance_7 f3.1 f3.2 z4 ?_
  refine ea_iconst (pc := 8) dX4_placeChance_8 (v := 4) rfl ?_
  refine ea_ishr (pc := 9) dX4_placeChance_9 ?_
  refine ea_isub (pc := 10) dX4_placeChance_10 ?_
  subst EX
  exact ea_ireturn (pc := 11) dX4_placeChance_11 rfl rfl
noncomputable def gX4_placeOf (b0 : Nat) (a0 : Nat) : Nat → Nat → Int32 → Int32 → ea_H → Option (Int32 × ea_H)
  | 0, _, _, _, _ => none
  | f + 1, lbl, x1, x2, h =>
    if lbl = 0 then (gX4_placeOf b0 a0 f 2 (x1 : Int32) (0 : Int32) h) else
    if lbl = 2 then (gd ((a0 < ea_n h ∧ ea_c h a0 = 4)) (if (ea_i h a0 18) ≤ x2 then (some (((-1) : Int32), h)) else (gd ((a0 < ea_n h ∧ ea_c h a0 = 4)) (gd ((okX4_placeTown b0 a0 (x2 : Int32) h)) (if (vX4_placeTown b0 a0 (x2 : Int32) h) = x1 then (some (x2, h)) else (gX4_placeOf b0 a0 f 2 (x1 : Int32) ((x2 + (1 : Int32)) : Int32) h)))))) else none
theorem tX4_placeOf {d : Nat} {b0 : Nat} {a0 : Nat} {h0 : ea_H} (hd : 2 ≤ d) : ∀ (f lbl : Nat) (x1 : Int32) (x2 : Int32) (h : ea_H) (r : Int32) (h' : ea_H), gX4_placeOf b0 a0 f lbl x1 x2 h = some (r, h') → ShC b0 h → (lbl = 0 → ea_W mX4_placeOf d h0 (some (vI r)) h' 0 [(0, vR (some a0)), (1, vI x1)] [] h) ∧ (lbl = 2 → ea_W mX4_placeOf d h0 (some (vI r)) h' 2 [(0, vR (some a0)), (1, vI x1), (2, vI x2)] [] h) := by
  intro f
  induction f with
  | zero => intro lbl x1 x2 h r h' E; cases E
  | succ f ih =>
    intro lbl x1 x2 h r h' E hs
    unfold gX4_placeOf at E
    refine ⟨?_, ?_⟩
    · intro el
      subst el
      have E := (if_pos rfl).symm.trans E
      refine ea_iconst (pc := 0) dX4_placeOf_0 (v := 0) rfl ?_
      refine ea_istore_n (pc := 1) (lv' := [(0, vR (some a0)), (1, vI x1), (2, vI 0)]) dX4_placeOf_1 rfl (Nat.le_of_ble_eq_true rfl) [1, 2, 0] rfl ?_
      exact ((ih 2 (x1 : Int32) (0 : Int32) h _ _ E hs).2 rfl)
    intro el
    subst el
    have E := (if_neg (by decide)).symm.trans E
    have E := (if_pos rfl).symm.trans E
    refine ea_iload_n (pc := 2) dX4_placeOf_2 rfl 2 rfl ?_
    refine ea_aload_n (pc := 3) dX4_placeOf_3 rfl 0 rfl ?_
    obtain ⟨f1, E⟩ := gd_some E
    refine ea_getI (pc := 4) dX4_placeOf_4 ec_4 (k := 18) (Nat.le_of_ble_eq_true rfl) rfl (Or.inl ew_977) f1.1 f1.2 ?_
    refine ea_icmp_ge (pc := 7) (tgt := 27) dX4_placeOf_7 rfl (fun c5 => ?_) (fun c5 => ?_)
    · have E := (if_pos c5).symm.trans E
      refine ea_iconst (pc := 27) dX4_placeOf_27 (v := (-1)) rfl ?_
      cases E
      exact ea_ireturn (pc := 28) dX4_placeOf_28 rfl rfl
    · have E := (if_neg c5).symm.trans E
      refine ea_aload_n (pc := 10) dX4_placeOf_10 rfl 0 rfl ?_
      refine ea_iload_n (pc := 11) dX4_placeOf_11 rfl 2 rfl ?_
      obtain ⟨f2, E⟩ := gd_some E
      obtain ⟨z3, E⟩ := gd_some E
      refine ea_callV (pc := 12) (d' := d - 1) (As := [vI x2]) (st := []) dX4_placeOf_12 kX4_placeTown (sX4_placeTown (d := d - 1) (by omega) hs z3) (by omega) rfl (Nat.le_of_ble_eq_true rfl) ew_1198 ew_1199 ew_1200 (ci := 4) rfl (by decide) f2.1 f2.2 ?_
      refine ea_iload_n (pc := 15) dX4_placeOf_15 rfl 1 rfl ?_
      refine ea_icmp_ne (pc := 16) (tgt := 21) dX4_placeOf_16 rfl (fun c4 => ?_) (fun c4 => ?_)
      · have E := (if_neg c4).symm.trans E
        refine ea_iinc (pc := 21) (v := 1) (lv' := [(0, vR (some a0)), (1, vI x1), (2, vI (x2 + (1 : Int32)))]) dX4_placeOf_21 2 rfl rfl (Nat.le_of_ble_eq_true rfl) [1, 2, 0] rfl ?_
        refine ea_goto (pc := 24) (tgt := 2) dX4_placeOf_24 rfl ?_
        exact ((ih 2 (x1 : Int32) ((x2 + (1 : Int32)) : Int32) h _ _ E hs).2 rfl)
      · have E := (if_pos c4).symm.trans E
        refine ea_iload_n (pc := 19) dX4_placeOf_19 rfl 2 rfl ?_
        cases E
        exact ea_ireturn (pc := 20) dX4_placeOf_20 rfl rfl
noncomputable def qX4_placeOf (b0 : Nat) (a0 : Nat) (x1 : Int32) (h : ea_H) : Option (Int32 × ea_H) := gX4_placeOf b0 a0 1000000000 0 x1 0 h
def okX4_placeOf (b0 : Nat) (a0 : Nat) (x1 : Int32) (h : ea_H) : Prop := ∃ x, qX4_placeOf b0 a0 x1 h = some x
noncomputable def vX4_placeOf (b0 : Nat) (a0 : Nat) (x1 : Int32) (h : ea_H) : Int32 := ((qX4_placeOf b0 a0 x1 h).getD (0, h)).1
noncomputable def wX4_placeOf (b0 : Nat) (a0 : Nat) (x1 : Int32) (h : ea_H) : ea_H := ((qX4_placeOf b0 a0 x1 h).getD (0, h)).2
theorem sX4_placeOf {d : Nat} {b0 : Nat} {a0 : Nat} {x1 : Int32} {h : ea_H} (hd : 2 ≤ d) (hs : ShC b0 h) (K : okX4_placeOf b0 a0 x1 h) : ea_Met mX4_placeOf d [vR (some a0), vI x1] h (some (vI (vX4_placeOf b0 a0 x1 h))) (wX4_placeOf b0 a0 x1 h) := by
  obtain ⟨⟨x, y⟩, K⟩ := K
  unfold wX4_placeOf vX4_placeOf
  rw [K]
  unfold qX4_placeOf at K
  exact ea_enter rfl (Nat.le_of_ble_eq_true rfl) ((tX4_placeOf hd 1000000000 0 x1 0 h x y K hs).1 rfl)
theorem zX4_placeOf {b0 : Nat} {a0 : Nat} : ∀ (f lbl : Nat) (x1 : Int32) (x2 : Int32) (h : ea_H) (r : Int32) (h' : ea_H), gX4_placeOf b0 a0 f lbl x1 x2 h = some (r, h') → ShC b0 h → ShC b0 h' := by
  intro f
  induction f with
  | zero => intro lbl x1 x2 h r h' E; cases E
  | succ f ih =>
    intro lbl x1 x2 h r h' E hs
    unfold gX4_placeOf at E
    by_cases el0 : lbl = 0
    · have E := (if_pos el0).symm.trans E
      exact ih 2 (x1 : Int32) (0 : Int32) h _ _ E hs
    have E := (if_neg el0).symm.trans E
    by_cases el1 : lbl = 2
    · have E := (if_pos el1).symm.trans E
      obtain ⟨f1, E⟩ := gd_some E
      by_cases c5 : (ea_i h a0 18) ≤ x2
      · have E := (if_pos c5).symm.trans E
        cases E
        exact hs
      have E := (if_neg c5).symm.trans E
      obtain ⟨f2, E⟩ := gd_some E
      obtain ⟨z3, E⟩ := gd_some E
      by_cases c4 : (vX4_placeTown b0 a0 (x2 : Int32) h) = x1
      · have E := (if_pos c4).symm.trans E
        cases E
        exact hs
      have E := (if_neg c4).symm.trans E
      exact ih 2 (x1 : Int32) ((x2 + (1 : Int32)) : Int32) h _ _ E hs
    have E := (if_neg el1).symm.trans E
    cases E
theorem shX4_placeOf {b0 : Nat} {a0 : Nat} {x1 : Int32} {h : ea_H} (hs : ShC b0 h) : ShC b0 (wX4_placeOf b0 a0 x1 h) := by
  unfold wX4_placeOf
  cases K : qX4_placeOf b0 a0 x1 h with
  | none => exact hs
  | some x => obtain ⟨x, y⟩ := x; unfold qX4_placeOf at K; exact zX4_placeOf _ _ _ _ _ _ _ K hs
noncomputable def gX4_tell (b0 : Nat) (a0 : Nat) : Nat → Nat → Int32 → Int32 → Int32 → Int32 → ea_H → Option (Int32 × ea_H)
  | 0, _, _, _, _, _, _ => none
  | f + 1, lbl, x1, x2, x3, x4, h =>
    if lbl = 0 then (gd ((a0 < ea_n h ∧ ea_c h a0 = 4)) (if (ea_r h a0 19) = none then (gd ((a0 < ea_n (ea_new h 20 4 4) ∧ ea_c (ea_new h 20 4 4) a0 = 4)) (gd (ShC_far b0 a0) (gX4_tell b0 a0 f 14 (x1 : Int32) (x2 : Int32) 0 0 (ShC_wd b0 (ea_new h 20 4 4) a0 19 (some (ea_n h)))))) else (gX4_tell b0 a0 f 14 (x1 : Int32) (x2 : Int32) 0 0 h))) else
    if lbl = 14 then (gd ((a0 < ea_n h ∧ ea_c h a0 = 4)) (gd ((okX4_placeOf b0 a0 (x1 : Int32) h)) (if (vX4_placeOf b0 a0 (x1 : Int32) h) = ((-1) : Int32) then (gd ((a0 < ea_n (wX4_placeOf b0 a0 (x1 : Int32) h) ∧ ea_c (wX4_placeOf b0 a0 (x1 : Int32) h) a0 = 4)) (if (ea_i (wX4_placeOf b0 a0 (x1 : Int32) h) a0 18) < (4 : Int32) then (gd ((a0 < ea_n (wX4_placeOf b0 a0 (x1 : Int32) h) ∧ ea_c (wX4_placeOf b0 a0 (x1 : Int32) h) a0 = 4)) (gd ((a0 < ea_n (wX4_placeOf b0 a0 (x1 : Int32) h) ∧ ea_c (wX4_placeOf b0 a0 (x1 : Int32) h) a0 = 4)) (gd ((a0 < ea_n (wX4_placeOf b0 a0 (x1 : Int32) h) ∧ ea_c (wX4_placeOf b0 a0 (x1 : Int32) h) a0 = 4)) (gX4_tell b0 a0 f 60 0 0 ((ea_i (wX4_placeOf b0 a0 (x1 : Int32) h) a0 18) : Int32) (((((100 : Int32) - x2) <<< ((4 : Int32) &&& 31)) ||| x1) : Int32) (ea_wi (wX4_placeOf b0 a0 (x1 : Int32) h) a0 18 ((ea_i (wX4_placeOf b0 a0 (x1 : Int32) h) a0 18) + (1 : Int32))))))) else (some ((0 : Int32), (wX4_placeOf b0 a0 (x1 : Int32) h))))) else (gX4_tell b0 a0 f 60 0 0 ((vX4_placeOf b0 a0 (x1 : Int32) h) : Int32) (((((100 : Int32) - x2) <<< ((4 : Int32) &&& 31)) ||| x1) : Int32) (wX4_placeOf b0 a0 (x1 : Int32) h))))) else
    if lbl = 60 then (gd ((a0 < ea_n h ∧ ea_c h a0 = 4)) (if ((ea_i h a0 18) - (1 : Int32)) ≤ x3 then (gX4_tell b0 a0 f 103 0 0 (x3 : Int32) (x4 : Int32) h) else (gd ((a0 < ea_n h ∧ ea_c h a0 = 4)) (gd ((ea_r h a0 19) = some (Option.getD (ea_r h a0 19) 0)) (gd (((Option.getD (ea_r h a0 19) 0) < ea_n h ∧ ea_c h (Option.getD (ea_r h a0 19) 0) = 20)) (gd (vp_in (x3 + (1 : Int32)) (ea_l h (Option.getD (ea_r h a0 19) 0))) (if x4 ≤ (ea_i h (Option.getD (ea_r h a0 19) 0) (Int32.toNatClampNeg (x3 + (1 : Int32)))) then (gX4_tell b0 a0 f 103 0 0 (x3 : Int32) (x4 : Int32) h) else (gd ((a0 < ea_n h ∧ ea_c h a0 = 4)) (gd ((a0 < ea_n h ∧ ea_c h a0 = 4)) (gd ((ea_r h a0 19) = some (Option.getD (ea_r h a0 19) 0)) (gd (((Option.getD (ea_r h a0 19) 0) < ea_n h ∧ ea_c h (Option.getD (ea_r h a0 19) 0) = 20)) (gd (vp_in (x3 + (1 : Int32)) (ea_l h (Option.getD (ea_r h a0 19) 0))) (gd ((ea_r h a0 19) = some (Option.getD (ea_r h a0 19) 0)) (gd (((Option.getD (ea_r h a0 19) 0) < ea_n h ∧ ea_c h (Option.getD (ea_r h a0 19) 0) = 20)) (gd (vp_in x3 (ea_l h (Option.getD (ea_r h a0 19) 0))) (gX4_tell b0 a0 f 60 0 0 ((x3 + (1 : Int32)) : Int32) (x4 : Int32) (ea_wi h (Option.getD (ea_r h a0 19) 0) (Int32.toNatClampNeg x3) (ea_i h (Option.getD (ea_r h a0 19) 0) (Int32.toNatClampNeg (x3 + (1 : Int32))))))))))))))))))))) else
    if lbl = 103 then (if x3 ≤ (0 : Int32) then (gd ((a0 < ea_n h ∧ ea_c h a0 = 4)) (gd ((ea_r h a0 19) = some (Option.getD (ea_r h a0 19) 0)) (gd (((Option.getD (ea_r h a0 19) 0) < ea_n h ∧ ea_c h (Option.getD (ea_r h a0 19) 0) = 20)) (gd (vp_in x3 (ea_l h (Option.getD (ea_r h a0 19) 0))) (some ((1 : Int32), (ea_wi h (Option.getD (ea_r h a0 19) 0) (Int32.toNatClampNeg x3) x4))))))) else (gd ((a0 < ea_n h ∧ ea_c h a0 = 4)) (gd ((ea_r h a0 19) = some (Option.getD (ea_r h a0 19) 0)) (gd (((Option.getD (ea_r h a0 19) 0) < ea_n h ∧ ea_c h (Option.getD (ea_r h a0 19) 0) = 20)) (gd (vp_in (x3 - (1 : Int32)) (ea_l h (Option.getD (ea_r h a0 19) 0))) (if (ea_i h (Option.getD (ea_r h a0 19) 0) (Int32.toNatClampNeg (x3 - (1 : Int32)))) ≤ x4 then (gd ((a0 < ea_n h ∧ ea_c h a0 = 4)) (gd ((ea_r h a0 19) = some (Option.getD (ea_r h a0 19) 0)) (gd (((Option.getD (ea_r h a0 19) 0) < ea_n h ∧ ea_c h (Option.getD (ea_r h a0 19) 0) = 20)) (gd (vp_in x3 (ea_l h (Option.getD (ea_r h a0 19) 0))) (some ((1 : Int32), (ea_wi h (Option.getD (ea_r h a0 19) 0) (Int32.toNatClampNeg x3) x4))))))) else (gd ((a0 < ea_n h ∧ ea_c h a0 = 4)) (gd ((a0 < ea_n h ∧ ea_c h a0 = 4)) (gd ((ea_r h a0 19) = some (Option.getD (ea_r h a0 19) 0)) (gd (((Option.getD (ea_r h a0 19) 0) < ea_n h ∧ ea_c h (Option.getD (ea_r h a0 19) 0) = 20)) (gd (vp_in (x3 - (1 : Int32)) (ea_l h (Option.getD (ea_r h a0 19) 0))) (gd ((ea_r h a0 19) = some (Option.getD (ea_r h a0 19) 0)) (gd (((Option.getD (ea_r h a0 19) 0) < ea_n h ∧ ea_c h (Option.getD (ea_r h a0 19) 0) = 20)) (gd (vp_in x3 (ea_l h (Option.getD (ea_r h a0 19) 0))) (gX4_tell b0 a0 f 103 0 0 ((x3 + ((-1) : Int32)) : Int32) (x4 : Int32) (ea_wi h (Option.getD (ea_r h a0 19) 0) (Int32.toNatClampNeg x3) (ea_i h (Option.getD (ea_r h a0 19) 0) (Int32.toNatClampNeg (x3 - (1 : Int32)))))))))))))))))))) else none
theorem tX4_tell {d : Nat} {b0 : Nat} {a0 : Nat} {h0 : ea_H} (hd : 3 ≤ d) : ∀ (f lbl : Nat) (x1 : Int32) (x2 : Int32) (x3 : Int32) (x4 : Int32) (h : ea_H) (r : Int32) (h' : ea_H), gX4_tell b0 a0 f lbl x1 x2 x3 x4 h = some (r, h') → ShC b0 h → (lbl = 0 → ea_W mX4_tell d h0 (some (vI r)) h' 0 [(0, vR (some a0)), (1, vI x1), (2, vI x2)] [] h) ∧ (lbl = 14 → ea_W mX4_tell d h0 (some (vI r)) h' 14 [(0, vR (some a0)), (1, vI x1), (2, vI x2)] [] h) ∧ (lbl = 60 → ea_W mX4_tell d h0 (some (vI r)) h' 60 [(0, vR (some a0)), (3, vI x3), (4, vI x4)] [] h) ∧ (lbl = 103 → ea_W mX4_tell d h0 (some (vI r)) h' 103 [(0, vR (some a0)), (3, vI x3), (4, vI x4)] [] h) := by
  intro f
  induction f with
  | zero => intro lbl x1 x2 x3 x4 h r h' E; cases E
  | succ f ih =>
    intro lbl x1 x2 x3 x4 h r h' E hs
    unfold gX4_tell at E
    refine ⟨?_, ?_⟩
    · intro el
      subst el
      have E := (if_pos rfl).symm.trans E
      refine ea_aload_n (pc := 0) dX4_tell_0 rfl 0 rfl ?_
      obtain ⟨f1, E⟩ := gd_some E
      refine ea_getR (pc := 1) dX4_tell_1 ec_4 (k := 19) (Nat.le_of_ble_eq_true rfl) rfl (Or.inl ew_979) f1.1 f1.2 rfl ?_
      refine ea_ifnonnull (pc := 4) (tgt := 14) dX4_tell_4 rfl (fun a7 c6 => ?_) (fun c6 => ?_)
      · have c6n : ¬ (ea_r h a0 19) = none := by rw [c6]; exact fun q => nomatch q
        have E := (if_neg c6n).symm.trans E
        exact ((ih 14 (x1 : Int32) (x2 : Int32) 0 0 h _ _ E hs).2.1 rfl)
      · have E := (if_pos c6).symm.trans E
        refine ea_aload_n (pc := 7) dX4_tell_7 rfl 0 rfl ?_
        refine ea_iconst (pc := 8) dX4_tell_8 (v := 4) rfl ?_
        refine ea_newI (pc := 9) (N := 4) dX4_tell_9 ew_170 (by decide) rfl (Nat.le_of_ble_eq_true rfl) ?_
        have hs2 : ShC b0 (ea_new h 20 4 4) := ShC_new hs
        obtain ⟨f3, E⟩ := gd_some E
        obtain ⟨zf5, E⟩ := gd_some E
        refine ea_putR (pc := 11) dX4_tell_11 ec_4 (k := 19) (Nat.le_of_ble_eq_true rfl) rfl (Or.inl ⟨rfl, Or.inl ew_979⟩) f3.1 f3.2 ?_
        refine ea_nm (ShC_wdeq zf5) ?_
        have hs4 : ShC b0 (ShC_wd b0 (ea_new h 20 4 4) a0 19 (some (ea_n h))) := ShC_wd_sh hs2
        exact ((ih 14 (x1 : Int32) (x2 : Int32) 0 0 (ShC_wd b0 (ea_new h 20 4 4) a0 19 (some (ea_n h))) _ _ E hs4).2.1 rfl)
    refine ⟨?_, ?_⟩
    · intro el
      subst el
      have E := (if_neg (by decide)).symm.trans E
      have E := (if_pos rfl).symm.trans E
      refine ea_aload_n (pc := 14) dX4_tell_14 rfl 0 rfl ?_
      refine ea_iload_n (pc := 15) dX4_tell_15 rfl 1 rfl ?_
      obtain ⟨f8, E⟩ := gd_some E
      obtain ⟨z9, E⟩ := gd_some E
      refine ea_callV (pc := 16) (d' := d - 1) (As := [vI x1]) (st := []) dX4_tell_16 kX4_placeOf (sX4_placeOf (d := d - 1) (by omega) hs z9) (by omega) rfl (Nat.le_of_ble_eq_true rfl) ew_1194 ew_1195 ew_1196 (ci := 4) rfl (by decide) f8.1 f8.2 ?_
      have hs10 : ShC b0 (wX4_placeOf b0 a0 (x1 : Int32) h) := shX4_placeOf hs
      refine ea_istore_n (pc := 19) (lv' := [(0, vR (some a0)), (1, vI x1), (2, vI x2), (3, vI (vX4_placeOf b0 a0 (x1 : Int32) h))]) dX4_tell_19 rfl (Nat.le_of_ble_eq_true rfl) [1, 2, 3, 0] rfl ?_
      refine ea_iload_n (pc := 20) dX4_tell_20 rfl 3 rfl ?_
      refine ea_iconst (pc := 21) dX4_tell_21 (v := (-1)) rfl ?_
      refine ea_icmp_ne (pc := 22) (tgt := 50) dX4_tell_22 rfl (fun c17 => ?_) (fun c17 => ?_)
      · have E := (if_neg c17).symm.trans E
        refine ea_bipush (pc := 50) dX4_tell_50 (v := 100) rfl ?_
        refine ea_iload_n (pc := 52) dX4_tell_52 rfl 2 rfl ?_
        refine ea_isub (pc := 53) dX4_tell_53 ?_
        refine ea_iconst (pc := 54) dX4_tell_54 (v := 4) rfl ?_
        refine ea_ishl (pc := 55) dX4_tell_55 ?_
        refine ea_iload_n (pc := 56) dX4_tell_56 rfl 1 rfl ?_
        refine ea_ior (pc := 57) dX4_tell_57 ?_
        refine ea_istore (pc := 58) (lv' := [(0, vR (some a0)), (3, vI (vX4_placeOf b0 a0 (x1 : Int32) h)), (4, vI ((((100 : Int32) - x2) <<< ((4 : Int32) &&& 31)) ||| x1))]) dX4_tell_58 (Nat.le_of_ble_eq_true rfl) [1, 4, 0] rfl ?_
        exact ((ih 60 0 0 ((vX4_placeOf b0 a0 (x1 : Int32) h) : Int32) (((((100 : Int32) - x2) <<< ((4 : Int32) &&& 31)) ||| x1) : Int32) (wX4_placeOf b0 a0 (x1 : Int32) h) _ _ E hs10).2.2.1 rfl)
      · have E := (if_pos c17).symm.trans E
        refine ea_aload_n (pc := 25) dX4_tell_25 rfl 0 rfl ?_
        obtain ⟨f11, E⟩ := gd_some E
        refine ea_getI (pc := 26) dX4_tell_26 ec_4 (k := 18) (Nat.le_of_ble_eq_true rfl) rfl (Or.inl ew_977) f11.1 f11.2 ?_
        refine ea_iconst (pc := 29) dX4_tell_29 (v := 4) rfl ?_
        refine ea_icmp_lt (pc := 30) (tgt := 35) dX4_tell_30 rfl (fun c16 => ?_) (fun c16 => ?_)
        · have E := (if_pos c16).symm.trans E
          refine ea_aload_n (pc := 35) dX4_tell_35 rfl 0 rfl ?_
          obtain ⟨f12, E⟩ := gd_some E
          refine ea_getI (pc := 36) dX4_tell_36 ec_4 (k := 18) (Nat.le_of_ble_eq_true rfl) rfl (Or.inl ew_977) f12.1 f12.2 ?_
          refine ea_istore_n (pc := 39) (lv' := [(0, vR (some a0)), (1, vI x1), (2, vI x2), (3, vI (ea_i (wX4_placeOf b0 a0 (x1 : Int32) h) a0 18))]) dX4_tell_39 rfl (Nat.le_of_ble_eq_true rfl) [1, 2, 3, 0] rfl ?_
          refine ea_aload_n (pc := 40) dX4_tell_40 rfl 0 rfl ?_
          refine ea_dup (pc := 41) dX4_tell_41 rfl ?_
          obtain ⟨f13, E⟩ := gd_some E
          refine ea_getI (pc := 42) dX4_tell_42 ec_4 (k := 18) (Nat.le_of_ble_eq_true rfl) rfl (Or.inl ew_977) f13.1 f13.2 ?_
          refine ea_iconst (pc := 45) dX4_tell_45 (v := 1) rfl ?_
          refine ea_iadd (pc := 46) dX4_tell_46 ?_
          obtain ⟨f14, E⟩ := gd_some E
          refine ea_putI (pc := 47) dX4_tell_47 ec_4 (k := 18) (Nat.le_of_ble_eq_true rfl) rfl (Or.inl ⟨rfl, Or.inl ew_977⟩) rfl rfl f14.1 f14.2 ?_
          have hs15 : ShC b0 (ea_wi (wX4_placeOf b0 a0 (x1 : Int32) h) a0 18 ((ea_i (wX4_placeOf b0 a0 (x1 : Int32) h) a0 18) + (1 : Int32))) := ShC_wi hs10
          refine ea_bipush (pc := 50) dX4_tell_50 (v := 100) rfl ?_
          refine ea_iload_n (pc := 52) dX4_tell_52 rfl 2 rfl ?_
          refine ea_isub (pc := 53) dX4_tell_53 ?_
          refine ea_iconst (pc := 54) dX4_tell_54 (v := 4) rfl ?_
          refine ea_ishl (pc := 55) dX4_tell_55 ?_
          refine ea_iload_n (pc := 56) dX4_tell_56 rfl 1 rfl ?_
          refine ea_ior (pc := 57) dX4_tell_57 ?_
          refine ea_istore (pc := 58) (lv' := [(0, vR (some a0)), (3, vI (ea_i (wX4_placeOf b0 a0 (x1 : Int32) h) a0 18)), (4, vI ((((100 : Int32) - x2) <<< ((4 : Int32) &&& 31)) ||| x1))]) dX4_tell_58 (Nat.le_of_ble_eq_true rfl) [1, 4, 0] rfl ?_
          exact ((ih 60 0 0 ((ea_i (wX4_placeOf b0 a0 (x1 : Int32) h) a0 18) : Int32) (((((100 : Int32) - x2) <<< ((4 : Int32) &&& 31)) ||| x1) : Int32) (ea_wi (wX4_placeOf b0 a0 (x1 : Int32) h) a0 18 ((ea_i (wX4_placeOf b0 a0 (x1 : Int32) h) a0 18) + (1 : Int32))) _ _ E hs15).2.2.1 rfl)
        · have E := (if_neg c16).symm.trans E
          refine ea_iconst (pc := 33) dX4_tell_33 (v := 0) rfl ?_
          cases E
          exact ea_ireturn (pc := 34) dX4_tell_34 rfl (ea_bn (Or.inl rfl))
    refine ⟨?_, ?_⟩
    · intro el
      subst el
      have E := (if_neg (by decide)).symm.trans E
      have E := (if_neg (by decide)).symm.trans E
      have E := (if_pos rfl).symm.trans E
      refine ea_iload_n (pc := 60) dX4_tell_60 rfl 1 rfl ?_
      refine ea_aload_n (pc := 61) dX4_tell_61 rfl 0 rfl ?_
      obtain ⟨f18, E⟩ := gd_some E
      refine ea_getI (pc := 62) dX4_tell_62 ec_4 (k := 18) (Nat.le_of_ble_eq_true rfl) rfl (Or.inl ew_977) f18.1 f18.2 ?_
      refine ea_iconst (pc := 65) dX4_tell_65 (v := 1) rfl ?_
      refine ea_isub (pc := 66) dX4_tell_66 ?_
      refine ea_icmp_ge (pc := 67) (tgt := 103) dX4_tell_67 rfl (fun c33 => ?_) (fun c33 => ?_)
      · have E := (if_pos c33).symm.trans E
        exact ((ih 103 0 0 (x3 : Int32) (x4 : Int32) h _ _ E hs).2.2.2 rfl)
      · have E := (if_neg c33).symm.trans E
        refine ea_aload_n (pc := 70) dX4_tell_70 rfl 0 rfl ?_
        obtain ⟨f19, E⟩ := gd_some E
        refine ea_getR (pc := 71) dX4_tell_71 ec_4 (k := 19) (Nat.le_of_ble_eq_true rfl) rfl (Or.inl ew_979) f19.1 f19.2 rfl ?_
        refine ea_iload_n (pc := 74) dX4_tell_74 rfl 1 rfl ?_
        refine ea_iconst (pc := 75) dX4_tell_75 (v := 1) rfl ?_
        refine ea_iadd (pc := 76) dX4_tell_76 ?_
        obtain ⟨e20, E⟩ := gd_some E
        obtain ⟨f21, E⟩ := gd_some E
        obtain ⟨z22, E⟩ := gd_some E
        refine ea_deref1 e20 ?_
        refine ea_iald (pc := 77) dX4_tell_77 f21.1 f21.2 z22 ?_
        refine ea_iload (pc := 78) dX4_tell_78 2 rfl ?_
        refine ea_icmp_ge (pc := 80) (tgt := 103) dX4_tell_80 rfl (fun c32 => ?_) (fun c32 => ?_)
        · have E := (if_pos c32).symm.trans E
          exact ((ih 103 0 0 (x3 : Int32) (x4 : Int32) h _ _ E hs).2.2.2 rfl)
        · have E := (if_neg c32).symm.trans E
          refine ea_aload_n (pc := 83) dX4_tell_83 rfl 0 rfl ?_
          obtain ⟨f23, E⟩ := gd_some E
          refine ea_getR (pc := 84) dX4_tell_84 ec_4 (k := 19) (Nat.le_of_ble_eq_true rfl) rfl (Or.inl ew_979) f23.1 f23.2 rfl ?_
          refine ea_iload_n (pc := 87) dX4_tell_87 rfl 1 rfl ?_
          refine ea_aload_n (pc := 88) dX4_tell_88 rfl 0 rfl ?_
          obtain ⟨f24, E⟩ := gd_some E
          refine ea_getR (pc := 89) dX4_tell_89 ec_4 (k := 19) (Nat.le_of_ble_eq_true rfl) rfl (Or.inl ew_979) f24.1 f24.2 rfl ?_
          refine ea_iload_n (pc := 92) dX4_tell_92 rfl 1 rfl ?_
          refine ea_iconst (pc := 93) dX4_tell_93 (v := 1) rfl ?_
          refine ea_iadd (pc := 94) dX4_tell_94 ?_
          obtain ⟨e25, E⟩ := gd_some E
          obtain ⟨f26, E⟩ := gd_some E
          obtain ⟨z27, E⟩ := gd_some E
          refine ea_deref1 e25 ?_
          refine ea_iald (pc := 95) dX4_tell_95 f26.1 f26.2 z27 ?_
          obtain ⟨e28, E⟩ := gd_some E
          obtain ⟨f29, E⟩ := gd_some E
          obtain ⟨z30, E⟩ := gd_some E
          refine ea_deref2 e28 ?_
          refine ea_iast (pc := 96) dX4_tell_96 f29.1 f29.2 z30 ?_
          have hs31 : ShC b0 (ea_wi h (Option.getD (ea_r h a0 19) 0) (Int32.toNatClampNeg x3) (ea_i h (Option.getD (ea_r h a0 19) 0) (Int32.toNatClampNeg (x3 + (1 : Int32))))) := ShC_wi hs
          refine ea_iinc (pc := 97) (v := 1) (lv' := [(0, vR (some a0)), (3, vI (x3 + (1 : Int32))), (4, vI x4)]) dX4_tell_97 1 rfl rfl (Nat.le_of_ble_eq_true rfl) [1, 0, 2] rfl ?_
          refine ea_goto (pc := 100) (tgt := 60) dX4_tell_100 rfl ?_
          exact ((ih 60 0 0 ((x3 + (1 : Int32)) : Int32) (x4 : Int32) (ea_wi h (Option.getD (ea_r h a0 19) 0) (Int32.toNatClampNeg x3) (ea_i h (Option.getD (ea_r h a0 19) 0) (Int32.toNatClampNeg (x3 + (1 : Int32))))) _ _ E hs31).2.2.1 rfl)
    intro el
    subst el
    have E := (if_neg (by decide)).symm.trans E
    have E := (if_neg (by decide)).symm.trans E
    have E := (if_neg (by decide)).symm.trans E
    have E := (if_pos rfl).symm.trans E
    refine ea_iload_n (pc := 103) dX4_tell_103 rfl 1 rfl ?_
    refine ea_if_le (pc := 104) (tgt := 140) dX4_tell_104 rfl (fun c58 => ?_) (fun c58 => ?_)
    · have E := (if_pos c58).symm.trans E
      refine ea_aload_n (pc := 140) dX4_tell_140 rfl 0 rfl ?_
      obtain ⟨f34, E⟩ := gd_some E
      refine ea_getR (pc := 141) dX4_tell_141 ec_4 (k := 19) (Nat.le_of_ble_eq_true rfl) rfl (Or.inl ew_979) f34.1 f34.2 rfl ?_
      refine ea_iload_n (pc := 144) dX4_tell_144 rfl 1 rfl ?_
      refine ea_iload (pc := 145) dX4_tell_145 2 rfl ?_
      obtain ⟨e35, E⟩ := gd_some E
      obtain ⟨f36, E⟩ := gd_some E
      obtain ⟨z37, E⟩ := gd_some E
      refine ea_deref2 e35 ?_
      refine ea_iast (pc := 147) dX4_tell_147 f36.1 f36.2 z37 ?_
      have hs38 : ShC b0 (ea_wi h (Option.getD (ea_r h a0 19) 0) (Int32.toNatClampNeg x3) x4) := ShC_wi hs
      refine ea_iconst (pc := 148) dX4_tell_148 (v := 1) rfl ?_
      cases E
      exact ea_ireturn (pc := 149) dX4_tell_149 rfl (ea_bn (Or.inr rfl))
    · have E := (if_neg c58).symm.trans E
      refine ea_aload_n (pc := 107) dX4_tell_107 rfl 0 rfl ?_
      obtain ⟨f39, E⟩ := gd_some E
      refine ea_getR (pc := 108) dX4_tell_108 ec_4 (k := 19) (Nat.le_of_ble_eq_true rfl) rfl (Or.inl ew_979) f39.1 f39.2 rfl ?_
      refine ea_iload_n (pc := 111) dX4_tell_111 rfl 1 rfl ?_
      refine ea_iconst (pc := 112) dX4_tell_112 (v := 1) rfl ?_
      refine ea_isub (pc := 113) dX4_tell_113 ?_
      obtain ⟨e40, E⟩ := gd_some E
      obtain ⟨f41, E⟩ := gd_some E
      obtain ⟨z42, E⟩ := gd_some E
      refine ea_deref1 e40 ?_
      refine ea_iald (pc := 114) dX4_tell_114 f41.1 f41.2 z42 ?_
      refine ea_iload (pc := 115) dX4_tell_115 2 rfl ?_
      refine ea_icmp_le (pc := 117) (tgt := 140) dX4_tell_117 rfl (fun c57 => ?_) (fun c57 => ?_)
      · have E := (if_pos c57).symm.trans E
        refine ea_aload_n (pc := 140) dX4_tell_140 rfl 0 rfl ?_
        obtain ⟨f43, E⟩ := gd_some E
        refine ea_getR (pc := 141) dX4_tell_141 ec_4 (k := 19) (Nat.le_of_ble_eq_true rfl) rfl (Or.inl ew_979) f43.1 f43.2 rfl ?_
        refine ea_iload_n (pc := 144) dX4_tell_144 rfl 1 rfl ?_
        refine ea_iload (pc := 145) dX4_tell_145 2 rfl ?_
        obtain ⟨e44, E⟩ := gd_some E
        obtain ⟨f45, E⟩ := gd_some E
        obtain ⟨z46, E⟩ := gd_some E
        refine ea_deref2 e44 ?_
        refine ea_iast (pc := 147) dX4_tell_147 f45.1 f45.2 z46 ?_
        have hs47 : ShC b0 (ea_wi h (Option.getD (ea_r h a0 19) 0) (Int32.toNatClampNeg x3) x4) := ShC_wi hs
        refine ea_iconst (pc := 148) dX4_tell_148 (v := 1) rfl ?_
        cases E
        exact ea_ireturn (pc := 149) dX4_tell_149 rfl (ea_bn (Or.inr rfl))
      · have E := (if_neg c57).symm.trans E
        refine ea_aload_n (pc := 120) dX4_tell_120 rfl 0 rfl ?_
        obtain ⟨f48, E⟩ := gd_some E
        refine ea_getR (pc := 121) dX4_tell_121 ec_4 (k := 19) (Nat.le_of_ble_eq_true rfl) rfl (Or.inl ew_979) f48.1 f48.2 rfl ?_
        refine ea_iload_n (pc := 124) dX4_tell_124 rfl 1 rfl ?_
        refine ea_aload_n (pc := 125) dX4_tell_125 rfl 0 rfl ?_
        obtain ⟨f49, E⟩ := gd_some E
        refine ea_getR (pc := 126) dX4_tell_126 ec_4 (k := 19) (Nat.le_of_ble_eq_true rfl) rfl (Or.inl ew_979) f49.1 f49.2 rfl ?_
        refine ea_iload_n (pc := 129) dX4_tell_129 rfl 1 rfl ?_
        refine ea_iconst (pc := 130) dX4_tell_130 (v := 1) rfl ?_
        refine ea_isub (pc := 131) dX4_tell_131 ?_
        obtain ⟨e50, E⟩ := gd_some E
        obtain ⟨f51, E⟩ := gd_some E
        obtain ⟨z52, E⟩ := gd_some E
        refine ea_deref1 e50 ?_
        refine ea_iald (pc := 132) dX4_tell_132 f51.1 f51.2 z52 ?_
        obtain ⟨e53, E⟩ := gd_some E
        obtain ⟨f54, E⟩ := gd_some E
        obtain ⟨z55, E⟩ := gd_some E
        refine ea_deref2 e53 ?_
        refine ea_iast (pc := 133) dX4_tell_133 f54.1 f54.2 z55 ?_
        have hs56 : ShC b0 (ea_wi h (Option.getD (ea_r h a0 19) 0) (Int32.toNatClampNeg x3) (ea_i h (Option.getD (ea_r h a0 19) 0) (Int32.toNatClampNeg (x3 - (1 : Int32))))) := ShC_wi hs
        refine ea_iinc (pc := 134) (v := (-1)) (lv' := [(0, vR (some a0)), (3, vI (x3 + ((-1) : Int32))), (4, vI x4)]) dX4_tell_134 1 rfl rfl (Nat.le_of_ble_eq_true rfl) [1, 0, 2] rfl ?_
        refine ea_goto (pc := 137) (tgt := 103) dX4_tell_137 rfl ?_
        exact ((ih 103 0 0 ((x3 + ((-1) : Int32)) : Int32) (x4 : Int32) (ea_wi h (Option.getD (ea_r h a0 19) 0) (Int32.toNatClampNeg x3) (ea_i h (Option.getD (ea_r h a0 19) 0) (Int32.toNatClampNeg (x3 - (1 : Int32))))) _ _ E hs56).2.2.2 rfl)
noncomputable def qX4_tell (b0 : Nat) (a0 : Nat) (x1 : Int32) (x2 : Int32) (h : ea_H) : Option (Int32 × ea_H) := gX4_tell b0 a0 1000000000 0 x1 x2 0 0 h
def okX4_tell (b0 : Nat) (a0 : Nat) (x1 : Int32) (x2 : Int32) (h : ea_H) : Prop := ∃ x, qX4_tell b0 a0 x1 x2 h = some x
noncomputable def vX4_tell (b0 : Nat) (a0 : Nat) (x1 : Int32) (x2 : Int32) (h : ea_H) : Int32 := ((qX4_tell b0 a0 x1 x2 h).getD (0, h)).1
noncomputable def wX4_tell (b0 : Nat) (a0 : Nat) (x1 : Int32) (x2 : Int32) (h : ea_H) : ea_H := ((qX4_tell b0 a0 x1 x2 h).getD (0, h)).2
theorem sX4_tell {d : Nat} {b0 : Nat} {a0 : Nat} {x1 : Int32} {x2 : Int32} {h : ea_H} (hd : 3 ≤ d) (hs : ShC b0 h) (K : okX4_tell b0 a0 x1 x2 h) : ea_Met mX4_tell d [vR (some a0), vI x1, vI x2] h (some (vI (vX4_tell b0 a0 x1 x2 h))) (wX4_tell b0 a0 x1 x2 h) := by
  obtain ⟨⟨x, y⟩, K⟩ := K
  unfold wX4_tell vX4_tell
  rw [K]
  unfold qX4_tell at K
  exact ea_enter rfl (Nat.le_of_ble_eq_true rfl) ((tX4_tell hd 1000000000 0 x1 x2 0 0 h x y K hs).1 rfl)
theorem zX4_tell {b0 : Nat} {a0 : Nat} : ∀ (f lbl : Nat) (x1 : Int32) (x2 : Int32) (x3 : Int32) (x4 : Int32) (h : ea_H) (r : Int32) (h' : ea_H), gX4_tell b0 a0 f lbl x1 x2 x3 x4 h = some (r, h') → ShC b0 h → ShC b0 h' := by
  intro f
  induction f with
  | zero => intro lbl x1 x2 x3 x4 h r h' E; cases E
  | succ f ih =>
    intro lbl x1 x2 x3 x4 h r h' E hs
    unfold gX4_tell at E
    by_cases el0 : lbl = 0
    · have E := (if_pos el0).symm.trans E
      obtain ⟨f1, E⟩ := gd_some E
      by_cases c6 : (ea_r h a0 19) = none
      · have E := (if_pos c6).symm.trans E
        obtain ⟨f3, E⟩ := gd_some E
        obtain ⟨zf5, E⟩ := gd_some E
        exact ih 14 (x1 : Int32) (x2 : Int32) 0 0 (ShC_wd b0 (ea_new h 20 4 4) a0 19 (some (ea_n h))) _ _ E (ShC_wd_sh (ShC_new hs))
      have E := (if_neg c6).symm.trans E
      exact ih 14 (x1 : Int32) (x2 : Int32) 0 0 h _ _ E hs
    have E := (if_neg el0).symm.trans E
    by_cases el1 : lbl = 14
    · have E := (if_pos el1).symm.trans E
      obtain ⟨f8, E⟩ := gd_some E
      obtain ⟨z9, E⟩ := gd_some E
      by_cases c17 : (vX4_placeOf b0 a0 (x1 : Int32) h) = ((-1) : Int32)
      · have E := (if_pos c17).symm.trans E
        obtain ⟨f11, E⟩ := gd_some E
        by_cases c16 : (ea_i (wX4_placeOf b0 a0 (x1 : Int32) h) a0 18) < (4 : Int32)
        · have E := (if_pos c16).symm.trans E
          obtain ⟨f12, E⟩ := gd_some E
          obtain ⟨f13, E⟩ := gd_some E
          obtain ⟨f14, E⟩ := gd_some E
          exact ih 60 0 0 ((ea_i (wX4_placeOf b0 a0 (x1 : Int32) h) a0 18) : Int32) (((((100 : Int32) - x2) <<< ((4 : Int32) &&& 31)) ||| x1) : Int32) (ea_wi (wX4_placeOf b0 a0 (x1 : Int32) h) a0 18 ((ea_i (wX4_placeOf b0 a0 (x1 : Int32) h) a0 18) + (1 : Int32))) _ _ E (ShC_wi (shX4_placeOf hs))
        have E := (if_neg c16).symm.trans E
        cases E
        exact (shX4_placeOf hs)
      have E := (if_neg c17).symm.trans E
      exact ih 60 0 0 ((vX4_placeOf b0 a0 (x1 : Int32) h) : Int32) (((((100 : Int32) - x2) <<< ((4 : Int32) &&& 31)) ||| x1) : Int32) (wX4_placeOf b0 a0 (x1 : Int32) h) _ _ E (shX4_placeOf hs)
    have E := (if_neg el1).symm.trans E
    by_cases el2 : lbl = 60
    · have E := (if_pos el2).symm.trans E
      obtain ⟨f18, E⟩ := gd_some E
      by_cases c33 : ((ea_i h a0 18) - (1 : Int32)) ≤ x3
      · have E := (if_pos c33).symm.trans E
        exact ih 103 0 0 (x3 : Int32) (x4 : Int32) h _ _ E hs
      have E := (if_neg c33).symm.trans E
      obtain ⟨f19, E⟩ := gd_some E
      obtain ⟨e20, E⟩ := gd_some E
      obtain ⟨f21, E⟩ := gd_some E
      obtain ⟨z22, E⟩ := gd_some E
      by_cases c32 : x4 ≤ (ea_i h (Option.getD (ea_r h a0 19) 0) (Int32.toNatClampNeg (x3 + (1 : Int32))))
      · have E := (if_pos c32).symm.trans E
        exact ih 103 0 0 (x3 : Int32) (x4 : Int32) h _ _ E hs
      have E := (if_neg c32).symm.trans E
      obtain ⟨f23, E⟩ := gd_some E
      obtain ⟨f24, E⟩ := gd_some E
      obtain ⟨e25, E⟩ := gd_some E
      obtain ⟨f26, E⟩ := gd_some E
      obtain ⟨z27, E⟩ := gd_some E
      obtain ⟨e28, E⟩ := gd_some E
      obtain ⟨f29, E⟩ := gd_some E
      obtain ⟨z30, E⟩ := gd_some E
      exact ih 60 0 0 ((x3 + (1 : Int32)) : Int32) (x4 : Int32) (ea_wi h (Option.getD (ea_r h a0 19) 0) (Int32.toNatClampNeg x3) (ea_i h (Option.getD (ea_r h a0 19) 0) (Int32.toNatClampNeg (x3 + (1 : Int32))))) _ _ E (ShC_wi hs)
    have E := (if_neg el2).symm.trans E
    by_cases el3 : lbl = 103
    · have E := (if_pos el3).symm.trans E
      by_cases c58 : x3 ≤ (0 : Int32)
      · have E := (if_pos c58).symm.trans E
        obtain ⟨f34, E⟩ := gd_some E
        obtain ⟨e35, E⟩ := gd_some E
        obtain ⟨f36, E⟩ := gd_some E
        obtain ⟨z37, E⟩ := gd_some E
        cases E
        exact (ShC_wi hs)
      have E := (if_neg c58).symm.trans E
      obtain ⟨f39, E⟩ := gd_some E
      obtain ⟨e40, E⟩ := gd_some E
      obtain ⟨f41, E⟩ := gd_some E
      obtain ⟨z42, E⟩ := gd_some E
      by_cases c57 : (ea_i h (Option.getD (ea_r h a0 19) 0) (Int32.toNatClampNeg (x3 - (1 : Int32)))) ≤ x4
      · have E := (if_pos c57).symm.trans E
        obtain ⟨f43, E⟩ := gd_some E
        obtain ⟨e44, E⟩ := gd_some E
        obtain ⟨f45, E⟩ := gd_some E
        obtain ⟨z46, E⟩ := gd_some E
        cases E
        exact (ShC_wi hs)
      have E := (if_neg c57).symm.trans E
      obtain ⟨f48, E⟩ := gd_some E
      obtain ⟨f49, E⟩ := gd_some E
      obtain ⟨e50, E⟩ := gd_some E
      obtain ⟨f51, E⟩ := gd_some E
      obtain ⟨z52, E⟩ := gd_some E
      obtain ⟨e53, E⟩ := gd_some E
      obtain ⟨f54, E⟩ := gd_some E
      obtain ⟨z55, E⟩ := gd_some E
      exact ih 103 0 0 ((x3 + ((-1) : Int32)) : Int32) (x4 : Int32) (ea_wi h (Option.getD (ea_r h a0 19) 0) (Int32.toNatClampNeg x3) (ea_i h (Option.getD (ea_r h a0 19) 0) (Int32.toNatClampNeg (x3 - (1 : Int32))))) _ _ E (ShC_wi hs)
    have E := (if_neg el3).symm.trans E
    cases E
theorem shX4_tell {b0 : Nat} {a0 : Nat} {x1 : Int32} {x2 : Int32} {h : ea_H} (hs : ShC b0 h) : ShC b0 (wX4_tell b0 a0 x1 x2 h) := by
  unfold wX4_tell
  cases K : qX4_tell b0 a0 x1 x2 h with
  | none => exact hs
  | some x => obtain ⟨x, y⟩ := x; unfold qX4_tell at K; exact zX4_tell _ _ _ _ _ _ _ _ _ K hs
noncomputable def gX4_foundByAll (b0 : Nat) (a0 : Nat) : Nat → Nat → Int32 → Int32 → Int32 → Int64 → Int64 → Int64 → Int64 → ea_H → Option (Int64 × ea_H)
  | 0, _, _, _, _, _, _, _, _, _ => none
  | f + 1, lbl, x1, x10, x6, y2, y4, y6, y8, h =>
    if lbl = 0 then (gX4_foundByAll b0 a0 f 8 (x1 : Int32) 0 (0 : Int32) (1 : Int64) (1 : Int64) 0 0 h) else
    if lbl = 8 then (gd ((a0 < ea_n h ∧ ea_c h a0 = 4)) (if (ea_i h a0 18) ≤ x6 then (gX4_foundByAll b0 a0 f 56 (x1 : Int32) (0 : Int32) 0 (y2 : Int64) (y4 : Int64) (y2 : Int64) ((y2 - y4) : Int64) h) else (gd ((a0 < ea_n h ∧ ea_c h a0 = 4)) (gd ((okX4_placeChance b0 a0 (x6 : Int32) h)) (gX4_foundByAll b0 a0 f 8 (x1 : Int32) 0 ((x6 + (1 : Int32)) : Int32) ((y2 * (100 : Int64)) : Int64) ((y4 * (Int32.toInt64 ((100 : Int32) - (vX4_placeChance b0 a0 (x6 : Int32) h)))) : Int64) 0 0 h))))) else
    if lbl = 56 then (if (100 : Int32) ≤ x10 then (gX4_foundByAll b0 a0 f 91 (x1 : Int32) 0 0 (y2 : Int64) (y4 : Int64) (y6 : Int64) 0 h) else (if (lg_cmp y8 (0 : Int64)) ≤ (0 : Int32) then (gX4_foundByAll b0 a0 f 91 (x1 : Int32) 0 0 (y2 : Int64) (y4 : Int64) (y6 : Int64) 0 h) else (gd ((¬ y8 = 0)) (gX4_foundByAll b0 a0 f 56 (x1 : Int32) ((x10 + (1 : Int32)) : Int32) 0 (y2 : Int64) (y4 : Int64) (y8 : Int64) ((y6 - y6 / y8 * y8) : Int64) h)))) else
    if lbl = 91 then (if (lg_cmp y6 (0 : Int64)) = (0 : Int32) then (some (((-1) : Int64), h)) else (if x1 = (0 : Int32) then (gd ((¬ y6 = 0)) (some ((y2 / y6), h))) else (gd ((¬ y6 = 0)) (some (((y2 - y4) / y6), h))))) else none
theorem tX4_foundByAll {d : Nat} {b0 : Nat} {a0 : Nat} {h0 : ea_H} (hd : 2 ≤ d) : ∀ (f lbl : Nat) (x1 : Int32) (x10 : Int32) (x6 : Int32) (y2 : Int64) (y4 : Int64) (y6 : Int64) (y8 : Int64) (h : ea_H) (r : Int64) (h' : ea_H), gX4_foundByAll b0 a0 f lbl x1 x10 x6 y2 y4 y6 y8 h = some (r, h') → ShC b0 h → (lbl = 0 → ea_W mX4_foundByAll d h0 (some (vJ r)) h' 0 [(0, vR (some a0)), (1, vI x1)] [] h) ∧ (lbl = 8 → ea_W mX4_foundByAll d h0 (some (vJ r)) h' 8 [(0, vR (some a0)), (1, vI x1), (2, vJ y2), (4, vJ y4), (6, vI x6)] [] h) ∧ (lbl = 56 → ea_W mX4_foundByAll d h0 (some (vJ r)) h' 56 [(1, vI x1), (2, vJ y2), (4, vJ y4), (6, vJ y6), (8, vJ y8), (10, vI x10)] [] h) ∧ (lbl = 91 → ea_W mX4_foundByAll d h0 (some (vJ r)) h' 91 [(1, vI x1), (2, vJ y2), (4, vJ y4), (6, vJ y6)] [] h) := by
  intro f
  induction f with
  | zero => intro lbl x1 x10 x6 y2 y4 y6 y8 h r h' E; cases E
  | succ f ih =>
    intro lbl x1 x10 x6 y2 y4 y6 y8 h r h' E hs
    unfold gX4_foundByAll at E
    refine ⟨?_, ?_⟩
    · intro el
      subst el
      have E := (if_pos rfl).symm.trans E
      refine ea_lconst (pc := 0) dX4_foundByAll_0 (v := 1) rfl ?_
      refine ea_lstore_n (pc := 1) (lv' := [(0, vR (some a0)), (1, vI x1), (2, vJ 1)]) dX4_foundByAll_1 rfl (Nat.le_of_ble_eq_true rfl) [1, 2, 0] rfl ?_
      refine ea_lconst (pc := 2) dX4_foundByAll_2 (v := 1) rfl ?_
      refine ea_lstore (pc := 3) (lv' := [(0, vR (some a0)), (1, vI x1), (2, vJ 1), (4, vJ 1)]) dX4_foundByAll_3 (Nat.le_of_ble_eq_true rfl) [1, 2, 3, 0] rfl ?_
      refine ea_iconst (pc := 5) dX4_foundByAll_5 (v := 0) rfl ?_
      refine ea_istore (pc := 6) (lv' := [(0, vR (some a0)), (1, vI x1), (2, vJ 1), (4, vJ 1), (6, vI 0)]) dX4_foundByAll_6 (Nat.le_of_ble_eq_true rfl) [1, 2, 3, 4, 0] rfl ?_
      exact ((ih 8 (x1 : Int32) 0 (0 : Int32) (1 : Int64) (1 : Int64) 0 0 h _ _ E hs).2.1 rfl)
    refine ⟨?_, ?_⟩
    · intro el
      subst el
      have E := (if_neg (by decide)).symm.trans E
      have E := (if_pos rfl).symm.trans E
      refine ea_iload (pc := 8) dX4_foundByAll_8 4 rfl ?_
      refine ea_aload_n (pc := 10) dX4_foundByAll_10 rfl 0 rfl ?_
      obtain ⟨f1, E⟩ := gd_some E
      refine ea_getI (pc := 11) dX4_foundByAll_11 ec_4 (k := 18) (Nat.le_of_ble_eq_true rfl) rfl (Or.inl ew_977) f1.1 f1.2 ?_
      refine ea_icmp_ge (pc := 14) (tgt := 44) dX4_foundByAll_14 rfl (fun c4 => ?_) (fun c4 => ?_)
      · have E := (if_pos c4).symm.trans E
        refine ea_lload_n (pc := 44) dX4_foundByAll_44 rfl 2 rfl ?_
        refine ea_lstore (pc := 45) (lv' := [(1, vI x1), (2, vJ y2), (4, vJ y4), (6, vJ y2)]) dX4_foundByAll_45 (Nat.le_of_ble_eq_true rfl) [2, 3, 4, 0] rfl ?_
        refine ea_lload_n (pc := 47) dX4_foundByAll_47 rfl 1 rfl ?_
        refine ea_lload (pc := 48) dX4_foundByAll_48 2 rfl ?_
        refine ea_lsub (pc := 50) dX4_foundByAll_50 ?_
        refine ea_lstore (pc := 51) (lv' := [(1, vI x1), (2, vJ y2), (4, vJ y4), (6, vJ y2), (8, vJ (y2 - y4))]) dX4_foundByAll_51 (Nat.le_of_ble_eq_true rfl) [1, 2, 3, 4, 0] rfl ?_
        refine ea_iconst (pc := 53) dX4_foundByAll_53 (v := 0) rfl ?_
        refine ea_istore (pc := 54) (lv' := [(1, vI x1), (2, vJ y2), (4, vJ y4), (6, vJ y2), (8, vJ (y2 - y4)), (10, vI 0)]) dX4_foundByAll_54 (Nat.le_of_ble_eq_true rfl) [1, 2, 3, 4, 5, 0] rfl ?_
        exact ((ih 56 (x1 : Int32) (0 : Int32) 0 (y2 : Int64) (y4 : Int64) (y2 : Int64) ((y2 - y4) : Int64) h _ _ E hs).2.2.1 rfl)
      · have E := (if_neg c4).symm.trans E
        refine ea_lload_n (pc := 17) dX4_foundByAll_17 rfl 2 rfl ?_
        refine ea_ldc2 (pc := 18) dX4_foundByAll_18 ew_1211 ?_
        refine ea_lmul (pc := 21) dX4_foundByAll_21 ?_
        refine ea_lstore_n (pc := 22) (lv' := [(0, vR (some a0)), (1, vI x1), (2, vJ (y2 * (100 : Int64))), (4, vJ y4), (6, vI x6)]) dX4_foundByAll_22 rfl (Nat.le_of_ble_eq_true rfl) [1, 2, 0, 3, 4] rfl ?_
        refine ea_lload (pc := 23) dX4_foundByAll_23 3 rfl ?_
        refine ea_bipush (pc := 25) dX4_foundByAll_25 (v := 100) rfl ?_
        refine ea_aload_n (pc := 27) dX4_foundByAll_27 rfl 0 rfl ?_
        refine ea_iload (pc := 28) dX4_foundByAll_28 4 rfl ?_
        obtain ⟨f2, E⟩ := gd_some E
        obtain ⟨z3, E⟩ := gd_some E
        refine ea_callV (pc := 30) (d' := d - 1) (As := [vI x6]) (st := [vI 100, vJ y4]) dX4_foundByAll_30 kX4_placeChance (sX4_placeChance (d := d - 1) (by omega) hs z3) (by omega) rfl (Nat.le_of_ble_eq_true rfl) ew_1212 ew_1213 ew_1214 (ci := 4) rfl (by decide) f2.1 f2.2 ?_
        refine ea_isub (pc := 33) dX4_foundByAll_33 ?_
        refine ea_i2l (pc := 34) dX4_foundByAll_34 ?_
        refine ea_lmul (pc := 35) dX4_foundByAll_35 ?_
        refine ea_lstore (pc := 36) (lv' := [(0, vR (some a0)), (1, vI x1), (2, vJ (y2 * (100 : Int64))), (4, vJ (y4 * (Int32.toInt64 ((100 : Int32) - (vX4_placeChance b0 a0 (x6 : Int32) h))))), (6, vI x6)]) dX4_foundByAll_36 (Nat.le_of_ble_eq_true rfl) [1, 2, 3, 0, 4] rfl ?_
        refine ea_iinc (pc := 38) (v := 1) (lv' := [(0, vR (some a0)), (1, vI x1), (2, vJ (y2 * (100 : Int64))), (4, vJ (y4 * (Int32.toInt64 ((100 : Int32) - (vX4_placeChance b0 a0 (x6 : Int32) h))))), (6, vI (x6 + (1 : Int32)))]) dX4_foundByAll_38 4 rfl rfl (Nat.le_of_ble_eq_true rfl) [1, 2, 3, 4, 0] rfl ?_
        refine ea_goto (pc := 41) (tgt := 8) dX4_foundByAll_41 rfl ?_
        exact ((ih 8 (x1 : Int32) 0 ((x6 + (1 : Int32)) : Int32) ((y2 * (100 : Int64)) : Int64) ((y4 * (Int32.toInt64 ((100 : Int32) - (vX4_placeChance b0 a0 (x6 : Int32) h)))) : Int64) 0 0 h _ _ E hs).2.1 rfl)
    refine ⟨?_, ?_⟩
    · intro el
      subst el
      have E := (if_neg (by decide)).symm.trans E
      have E := (if_neg (by decide)).symm.trans E
      have E := (if_pos rfl).symm.trans E
      refine ea_iload (pc := 56) dX4_foundByAll_56 5 rfl ?_
      refine ea_bipush (pc := 58) dX4_foundByAll_58 (v := 100) rfl ?_
      refine ea_icmp_ge (pc := 60) (tgt := 91) dX4_foundByAll_60 rfl (fun c7 => ?_) (fun c7 => ?_)
      · have E := (if_pos c7).symm.trans E
        exact (ea_fewer [0, 1, 2, 3] rfl ((ih 91 (x1 : Int32) 0 0 (y2 : Int64) (y4 : Int64) (y6 : Int64) 0 h _ _ E hs).2.2.2 rfl))
      · have E := (if_neg c7).symm.trans E
        refine ea_lload (pc := 63) dX4_foundByAll_63 4 rfl ?_
        refine ea_lconst (pc := 65) dX4_foundByAll_65 (v := 0) rfl ?_
        refine ea_lcmp (pc := 66) dX4_foundByAll_66 ?_
        refine ea_if_le (pc := 67) (tgt := 91) dX4_foundByAll_67 rfl (fun c6 => ?_) (fun c6 => ?_)
        · have E := (if_pos c6).symm.trans E
          exact (ea_fewer [0, 1, 2, 3] rfl ((ih 91 (x1 : Int32) 0 0 (y2 : Int64) (y4 : Int64) (y6 : Int64) 0 h _ _ E hs).2.2.2 rfl))
        · have E := (if_neg c6).symm.trans E
          refine ea_lload (pc := 70) dX4_foundByAll_70 3 rfl ?_
          refine ea_lload (pc := 72) dX4_foundByAll_72 4 rfl ?_
          obtain ⟨z5, E⟩ := gd_some E
          refine ea_lrem (pc := 74) dX4_foundByAll_74 z5 ?_
          refine ea_lstore (pc := 75) (lv' := [(1, vI x1), (2, vJ y2), (4, vJ y4), (8, vJ y8), (10, vI x10), (11, vJ (y6 - y6 / y8 * y8))]) dX4_foundByAll_75 (Nat.le_of_ble_eq_true rfl) [1, 2, 3, 5, 6, 0] rfl ?_
          refine ea_lload (pc := 77) dX4_foundByAll_77 3 rfl ?_
          refine ea_lstore (pc := 79) (lv' := [(1, vI x1), (2, vJ y2), (4, vJ y4), (6, vJ y8), (10, vI x10), (11, vJ (y6 - y6 / y8 * y8))]) dX4_foundByAll_79 (Nat.le_of_ble_eq_true rfl) [1, 2, 3, 0, 5, 6] rfl ?_
          refine ea_lload (pc := 81) dX4_foundByAll_81 5 rfl ?_
          refine ea_lstore (pc := 83) (lv' := [(1, vI x1), (2, vJ y2), (4, vJ y4), (6, vJ y8), (8, vJ (y6 - y6 / y8 * y8)), (10, vI x10)]) dX4_foundByAll_83 (Nat.le_of_ble_eq_true rfl) [1, 2, 3, 4, 0, 5] rfl ?_
          refine ea_iinc (pc := 85) (v := 1) (lv' := [(1, vI x1), (2, vJ y2), (4, vJ y4), (6, vJ y8), (8, vJ (y6 - y6 / y8 * y8)), (10, vI (x10 + (1 : Int32)))]) dX4_foundByAll_85 5 rfl rfl (Nat.le_of_ble_eq_true rfl) [1, 2, 3, 4, 5, 0] rfl ?_
          refine ea_goto (pc := 88) (tgt := 56) dX4_foundByAll_88 rfl ?_
          exact ((ih 56 (x1 : Int32) ((x10 + (1 : Int32)) : Int32) 0 (y2 : Int64) (y4 : Int64) (y8 : Int64) ((y6 - y6 / y8 * y8) : Int64) h _ _ E hs).2.2.1 rfl)
    intro el
    subst el
    have E := (if_neg (by decide)).symm.trans E
    have E := (if_neg (by decide)).symm.trans E
    have E := (if_neg (by decide)).symm.trans E
    have E := (if_pos rfl).symm.trans E
    refine ea_lload (pc := 91) dX4_foundByAll_91 3 rfl ?_
    refine ea_lconst (pc := 93) dX4_foundByAll_93 (v := 0) rfl ?_
    refine ea_lcmp (pc := 94) dX4_foundByAll_94 ?_
    refine ea_if_ne (pc := 95) (tgt := 102) dX4_foundByAll_95 rfl (fun c11 => ?_) (fun c11 => ?_)
    · have E := (if_neg c11).symm.trans E
      refine ea_iload_n (pc := 102) dX4_foundByAll_102 rfl 0 rfl ?_
      refine ea_if_eq (pc := 103) (tgt := 113) dX4_foundByAll_103 rfl (fun c10 => ?_) (fun c10 => ?_)
      · have E := (if_pos c10).symm.trans E
        refine ea_lload_n (pc := 113) dX4_foundByAll_113 rfl 1 rfl ?_
        refine ea_lload (pc := 114) dX4_foundByAll_114 3 rfl ?_
        obtain ⟨z8, E⟩ := gd_some E
        refine ea_ldiv (pc := 116) dX4_foundByAll_116 z8 ?_
        cases E
        exact ea_lreturn (pc := 117) dX4_foundByAll_117 rfl
      · have E := (if_neg c10).symm.trans E
        refine ea_lload_n (pc := 106) dX4_foundByAll_106 rfl 1 rfl ?_
        refine ea_lload (pc := 107) dX4_foundByAll_107 2 rfl ?_
        refine ea_lsub (pc := 109) dX4_foundByAll_109 ?_
        refine ea_goto (pc := 110) (tgt := 114) dX4_foundByAll_110 rfl ?_
        refine ea_lload (pc := 114) dX4_foundByAll_114 3 rfl ?_
        obtain ⟨z9, E⟩ := gd_some E
        refine ea_ldiv (pc := 116) dX4_foundByAll_116 z9 ?_
        cases E
        exact ea_lreturn (pc := 117) dX4_foundByAll_117 rfl
    · have E := (if_pos c11).symm.trans E
      refine ea_ldc2 (pc := 98) dX4_foundByAll_98 ew_1216 ?_
      cases E
      exact ea_lreturn (pc := 101) dX4_foundByAll_101 rfl
noncomputable def qX4_foundByAll (b0 : Nat) (a0 : Nat) (x1 : Int32) (h : ea_H) : Option (Int64 × ea_H) := gX4_foundByAll b0 a0 1000000000 0 x1 0 0 0 0 0 0 h
def okX4_foundByAll (b0 : Nat) (a0 : Nat) (x1 : Int32) (h : ea_H) : Prop := ∃ x, qX4_foundByAll b0 a0 x1 h = some x
noncomputable def vX4_foundByAll (b0 : Nat) (a0 : Nat) (x1 : Int32) (h : ea_H) : Int64 := ((qX4_foundByAll b0 a0 x1 h).getD (0, h)).1
noncomputable def wX4_foundByAll (b0 : Nat) (a0 : Nat) (x1 : Int32) (h : ea_H) : ea_H := ((qX4_foundByAll b0 a0 x1 h).getD (0, h)).2
theorem sX4_foundByAll {d : Nat} {b0 : Nat} {a0 : Nat} {x1 : Int32} {h : ea_H} (hd : 2 ≤ d) (hs : ShC b0 h) (K : okX4_foundByAll b0 a0 x1 h) : ea_Met mX4_foundByAll d [vR (some a0), vI x1] h (some (vJ (vX4_foundByAll b0 a0 x1 h))) (wX4_foundByAll b0 a0 x1 h) := by
  obtain ⟨⟨x, y⟩, K⟩ := K
  unfold wX4_foundByAll vX4_foundByAll
  rw [K]
  unfold qX4_foundByAll at K
  exact ea_enter rfl (Nat.le_of_ble_eq_true rfl) ((tX4_foundByAll hd 1000000000 0 x1 0 0 0 0 0 0 h x y K hs).1 rfl)
theorem zX4_foundByAll {b0 : Nat} {a0 : Nat} : ∀ (f lbl : Nat) (x1 : Int32) (x10 : Int32) (x6 : Int32) (y2 : Int64) (y4 : Int64) (y6 : Int64) (y8 : Int64) (h : ea_H) (r : Int64) (h' : ea_H), gX4_foundByAll b0 a0 f lbl x1 x10 x6 y2 y4 y6 y8 h = some (r, h') → ShC b0 h → ShC b0 h' := by
  intro f
  induction f with
  | zero => intro lbl x1 x10 x6 y2 y4 y6 y8 h r h' E; cases E
  | succ f ih =>
    intro lbl x1 x10 x6 y2 y4 y6 y8 h r h' E hs
    unfold gX4_foundByAll at E
    by_cases el0 : lbl = 0
    · have E := (if_pos el0).symm.trans E
      exact ih 8 (x1 : Int32) 0 (0 : Int32) (1 : Int64) (1 : Int64) 0 0 h _ _ E hs
    have E := (if_neg el0).symm.trans E
    by_cases el1 : lbl = 8
    · have E := (if_pos el1).symm.trans E
      obtain ⟨f1, E⟩ := gd_some E
      by_cases c4 : (ea_i h a0 18) ≤ x6
      · have E := (if_pos c4).symm.trans E
        exact ih 56 (x1 : Int32) (0 : Int32) 0 (y2 : Int64) (y4 : Int64) (y2 : Int64) ((y2 - y4) : Int64) h _ _ E hs
      have E := (if_neg c4).symm.trans E
      obtain ⟨f2, E⟩ := gd_some E
      obtain ⟨z3, E⟩ := gd_some E
      exact ih 8 (x1 : Int32) 0 ((x6 + (1 : Int32)) : Int32) ((y2 * (100 : Int64)) : Int64) ((y4 * (Int32.toInt64 ((100 : Int32) - (vX4_placeChance b0 a0 (x6 : Int32) h)))) : Int64) 0 0 h _ _ E hs
    have E := (if_neg el1).symm.trans E
    by_cases el2 : lbl = 56
    · have E := (if_pos el2).symm.trans E
      by_cases c7 : (100 : Int32) ≤ x10
      · have E := (if_pos c7).symm.trans E
        exact ih 91 (x1 : Int32) 0 0 (y2 : Int64) (y4 : Int64) (y6 : Int64) 0 h _ _ E hs
      have E := (if_neg c7).symm.trans E
      by_cases c6 : (lg_cmp y8 (0 : Int64)) ≤ (0 : Int32)
      · have E := (if_pos c6).symm.trans E
        exact ih 91 (x1 : Int32) 0 0 (y2 : Int64) (y4 : Int64) (y6 : Int64) 0 h _ _ E hs
      have E := (if_neg c6).symm.trans E
      obtain ⟨z5, E⟩ := gd_some E
      exact ih 56 (x1 : Int32) ((x10 + (1 : Int32)) : Int32) 0 (y2 : Int64) (y4 : Int64) (y8 : Int64) ((y6 - y6 / y8 * y8) : Int64) h _ _ E hs
    have E := (if_neg el2).symm.trans E
    by_cases el3 : lbl = 91
    · have E := (if_pos el3).symm.trans E
      by_cases c11 : (lg_cmp y6 (0 : Int64)) = (0 : Int32)
      · have E := (if_pos c11).symm.trans E
        cases E
        exact hs
      have E := (if_neg c11).symm.trans E
      by_cases c10 : x1 = (0 : Int32)
      · have E := (if_pos c10).symm.trans E
        obtain ⟨z8, E⟩ := gd_some E
        cases E
        exact hs
      have E := (if_neg c10).symm.trans E
      obtain ⟨z9, E⟩ := gd_some E
      cases E
      exact hs
    have E := (if_neg el3).symm.trans E
    cases E
theorem shX4_foundByAll {b0 : Nat} {a0 : Nat} {x1 : Int32} {h : ea_H} (hs : ShC b0 h) : ShC b0 (wX4_foundByAll b0 a0 x1 h) := by
  unfold wX4_foundByAll
  cases K : qX4_foundByAll b0 a0 x1 h with
  | none => exact hs
  | some x => obtain ⟨x, y⟩ := x; unfold qX4_foundByAll at K; exact zX4_foundByAll _ _ _ _ _ _ _ _ _ _ _ _ K hs
noncomputable def wX5_init (a0 : Nat) (h : ea_H) : ea_H := (ea_wr (ea_new (ea_wr (ea_new (ea_wr (ea_new (ea_wr (ea_new (ea_wr (ea_new (ea_wi h a0 2 (-1)) 20 600 600) a0 3 (some (ea_n (ea_wi h a0 2 (-1))))) 20 601 601) a0 4 (some (ea_n (ea_wr (ea_new (ea_wi h a0 2 (-1)) 20 600 600) a0 3 (some (ea_n (ea_wi h a0 2 (-1)))))))) 20 601 601) a0 5 (some (ea_n (ea_wr (ea_new (ea_wr (ea_new (ea_wi h a0 2 (-1)) 20 600 600) a0 3 (some (ea_n (ea_wi h a0 2 (-1))))) 20 601 601) a0 4 (some (ea_n (ea_wr (ea_new (ea_wi h a0 2 (-1)) 20 600 600) a0 3 (some (ea_n (ea_wi h a0 2 (-1))))))))))) 20 601 601) a0 6 (some (ea_n (ea_wr (ea_new (ea_wr (ea_new (ea_wr (ea_new (ea_wi h a0 2 (-1)) 20 600 600) a0 3 (some (ea_n (ea_wi h a0 2 (-1))))) 20 601 601) a0 4 (some (ea_n (ea_wr (ea_new (ea_wi h a0 2 (-1)) 20 600 600) a0 3 (some (ea_n (ea_wi h a0 2 (-1)))))))) 20 601 601) a0 5 (some (ea_n (ea_wr (ea_new (ea_wr (ea_new (ea_wi h a0 2 (-1)) 20 600 600) a0 3 (some (ea_n (ea_wi h a0 2 (-1))))) 20 601 601) a0 4 (some (ea_n (ea_wr (ea_new (ea_wi h a0 2 (-1)) 20 600 600) a0 3 (some (ea_n (ea_wi h a0 2 (-1)))))))))))))) 20 648 648) a0 10 (some (ea_n (ea_wr (ea_new (ea_wr (ea_new (ea_wr (ea_new (ea_wr (ea_new (ea_wi h a0 2 (-1)) 20 600 600) a0 3 (some (ea_n (ea_wi h a0 2 (-1))))) 20 601 601) a0 4 (some (ea_n (ea_wr (ea_new (ea_wi h a0 2 (-1)) 20 600 600) a0 3 (some (ea_n (ea_wi h a0 2 (-1)))))))) 20 601 601) a0 5 (some (ea_n (ea_wr (ea_new (ea_wr (ea_new (ea_wi h a0 2 (-1)) 20 600 600) a0 3 (some (ea_n (ea_wi h a0 2 (-1))))) 20 601 601) a0 4 (some (ea_n (ea_wr (ea_new (ea_wi h a0 2 (-1)) 20 600 600) a0 3 (some (ea_n (ea_wi h a0 2 (-1))))))))))) 20 601 601) a0 6 (some (ea_n (ea_wr (ea_new (ea_wr (ea_new (ea_wr (ea_new (ea_wi h a0 2 (-1)) 20 600 600) a0 3 (some (ea_n (ea_wi h a0 2 (-1))))) 20 601 601) a0 4 (some (ea_n (ea_wr (ea_new (ea_wi h a0 2 (-1)) 20 600 600) a0 3 (some (ea_n (ea_wi h a0 2 (-1)))))))) 20 601 601) a0 5 (some (ea_n (ea_wr (ea_new (ea_wr (ea_new (ea_wi h a0 2 (-1)) 20 600 600) a0 3 (some (ea_n (ea_wi h a0 2 (-1))))) 20 601 601) a0 4 (some (ea_n (ea_wr (ea_new (ea_wi h a0 2 (-1)) 20 600 600) a0 3 (some (ea_n (ea_wi h a0 2 (-1)))))))))))))))))
def okX5_init (a0 : Nat) (h : ea_H) : Prop := (a0 < ea_n h ∧ ea_c h a0 = 5) ∧ ((a0 < ea_n (ea_new (ea_wi h a0 2 (-1)) 20 600 600) ∧ ea_c (ea_new (ea_wi h a0 2 (-1)) 20 600 600) a0 = 5) ∧ ((a0 < ea_n (ea_new (ea_wr (ea_new (ea_wi h a0 2 (-1)) 20 600 600) a0 3 (some (ea_n (ea_wi h a0 2 (-1))))) 20 601 601) ∧ ea_c (ea_new (ea_wr (ea_new (ea_wi h a0 2 (-1)) 20 600 600) a0 3 (some (ea_n (ea_wi h a0 2 (-1))))) 20 601 601) a0 = 5) ∧ ((a0 < ea_n (ea_new (ea_wr (ea_new (ea_wr (ea_new (ea_wi h a0 2 (-1)) 20 600 600) a0 3 (some (ea_n (ea_wi h a0 2 (-1))))) 20 601 601) a0 4 (some (ea_n (ea_wr (ea_new (ea_wi h a0 2 (-1)) 20 600 600) a0 3 (some (ea_n (ea_wi h a0 2 (-1)))))))) 20 601 601) ∧ ea_c (ea_new (ea_wr (ea_new (ea_wr (ea_new (ea_wi h a0 2 (-1)) 20 600 600) a0 3 (some (ea_n (ea_wi h a0 2 (-1))))) 20 601 601) a0 4 (some (ea_n (ea_wr (ea_new (ea_wi h a0 2 (-1)) 20 600 600) a0 3 (some (ea_n (ea_wi h a0 2 (-1)))))))) 20 601 601) a0 = 5) ∧ ((a0 < ea_n (ea_new (ea_wr (ea_new (ea_wr (ea_new (ea_wr (ea_new (ea_wi h a0 2 (-1)) 20 600 600) a0 3 (some (ea_n (ea_wi h a0 2 (-1))))) 20 601 601) a0 4 (some (ea_n (ea_wr (ea_new (ea_wi h a0 2 (-1)) 20 600 600) a0 3 (some (ea_n (ea_wi h a0 2 (-1)))))))) 20 601 601) a0 5 (some (ea_n (ea_wr (ea_new (ea_wr (ea_new (ea_wi h a0 2 (-1)) 20 600 600) a0 3 (some (ea_n (ea_wi h a0 2 (-1))))) 20 601 601) a0 4 (some (ea_n (ea_wr (ea_new (ea_wi h a0 2 (-1)) 20 600 600) a0 3 (some (ea_n (ea_wi h a0 2 (-1))))))))))) 20 601 601) ∧ ea_c (ea_new (ea_wr (ea_new (ea_wr (ea_new (ea_wr (ea_new (ea_wi h a0 2 (-1)) 20 600 600) a0 3 (some (ea_n (ea_wi h a0 2 (-1))))) 20 601 601) a0 4 (some (ea_n (ea_wr (ea_new (ea_wi h a0 2 (-1)) 20 600 600) a0 3 (some (ea_n (ea_wi h a0 2 (-1)))))))) 20 601 601) a0 5 (some (ea_n (ea_wr (ea_new (ea_wr (ea_new (ea_wi h a0 2 (-1)) 20 600 600) a0 3 (some (ea_n (ea_wi h a0 2 (-1))))) 20 601 601) a0 4 (some (ea_n (ea_wr (ea_new (ea_wi h a0 2 (-1)) 20 600 600) a0 3 (some (ea_n (ea_wi h a0 2 (-1))))))))))) 20 601 601) a0 = 5) ∧ ((a0 < ea_n (ea_new (ea_wr (ea_new (ea_wr (ea_new (ea_wr (ea_new (ea_wr (ea_new (ea_wi h a0 2 (-1)) 20 600 600) a0 3 (some (ea_n (ea_wi h a0 2 (-1))))) 20 601 601) a0 4 (some (ea_n (ea_wr (ea_new (ea_wi h a0 2 (-1)) 20 600 600) a0 3 (some (ea_n (ea_wi h a0 2 (-1)))))))) 20 601 601) a0 5 (some (ea_n (ea_wr (ea_new (ea_wr (ea_new (ea_wi h a0 2 (-1)) 20 600 600) a0 3 (some (ea_n (ea_wi h a0 2 (-1))))) 20 601 601) a0 4 (some (ea_n (ea_wr (ea_new (ea_wi h a0 2 (-1)) 20 600 600) a0 3 (some (ea_n (ea_wi h a0 2 (-1))))))))))) 20 601 601) a0 6 (some (ea_n (ea_wr (ea_new (ea_wr (ea_new (ea_wr (ea_new (ea_wi h a0 2 (-1)) 20 600 600) a0 3 (some (ea_n (ea_wi h a0 2 (-1))))) 20 601 601) a0 4 (some (ea_n (ea_wr (ea_new (ea_wi h a0 2 (-1)) 20 600 600) a0 3 (some (ea_n (ea_wi h a0 2 (-1)))))))) 20 601 601) a0 5 (some (ea_n (ea_wr (ea_new (ea_wr (ea_new (ea_wi h a0 2 (-1)) 20 600 600) a0 3 (some (ea_n (ea_wi h a0 2 (-1))))) 20 601 601) a0 4 (some (ea_n (ea_wr (ea_new (ea_wi h a0 2 (-1)) 20 600 600) a0 3 (some (ea_n (ea_wi h a0 2 (-1)))))))))))))) 20 648 648) ∧ ea_c (ea_new (ea_wr (ea_new (ea_wr (ea_new (ea_wr (ea_new (ea_wr (ea_new (ea_wi h a0 2 (-1)) 20 600 600) a0 3 (some (ea_n (ea_wi h a0 2 (-1))))) 20 601 601) a0 4 (some (ea_n (ea_wr (ea_new (ea_wi h a0 2 (-1)) 20 600 600) a0 3 (some (ea_n (ea_wi h a0 2 (-1)))))))) 20 601 601) a0 5 (some (ea_n (ea_wr (ea_new (ea_wr (ea_new (ea_wi h a0 2 (-1)) 20 600 600) a0 3 (some (ea_n (ea_wi h a0 2 (-1))))) 20 601 601) a0 4 (some (ea_n (ea_wr (ea_new (ea_wi h a0 2 (-1)) 20 600 600) a0 3 (some (ea_n (ea_wi h a0 2 (-1))))))))))) 20 601 601) a0 6 (some (ea_n (ea_wr (ea_new (ea_wr (ea_new (ea_wr (ea_new (ea_wi h a0 2 (-1)) 20 600 600) a0 3 (some (ea_n (ea_wi h a0 2 (-1))))) 20 601 601) a0 4 (some (ea_n (ea_wr (ea_new (ea_wi h a0 2 (-1)) 20 600 600) a0 3 (some (ea_n (ea_wi h a0 2 (-1)))))))) 20 601 601) a0 5 (some (ea_n (ea_wr (ea_new (ea_wr (ea_new (ea_wi h a0 2 (-1)) 20 600 600) a0 3 (some (ea_n (ea_wi h a0 2 (-1))))) 20 601 601) a0 4 (some (ea_n (ea_wr (ea_new (ea_wi h a0 2 (-1)) 20 600 600) a0 3 (some (ea_n (ea_wi h a0 2 (-1)))))))))))))) 20 648 648) a0 = 5))))))
theorem sX5_init {d : Nat} {a0 : Nat} {h : ea_H} (hd : 1 ≤ d) (K : okX5_init a0 h) : ea_Met mX5_init d [vR (some a0)] h none (wX5_init a0 h) := by
  obtain ⟨Y, EY⟩ : ∃ z, z = wX5_init a0 h := ⟨_, rfl⟩
  rw [← EY]
  unfold wX5_init at EY
  unfold okX5_init at K
  refine ea_enter rfl (Nat.le_of_ble_eq_true rfl) ?_
  refine ea_aload_n (pc := 0) dX5_init_0 rfl 0 rfl ?_
  refine ea_objInit (pc := 1) dX5_init_1 ew_290 ew_134 ew_135 (by omega) (Nat.le_of_ble_eq_true rfl) ?_
  refine ea_aload_n (pc := 4) dX5_init_4 rfl 0 rfl ?_
  refine ea_iconst (pc := 5) dX5_init_5 (v := (-1)) rfl ?_
  obtain ⟨f1, K⟩ := K
  refine ea_putI (pc := 6) dX5_init_6 ec_5 (k := 2) (Nat.le_of_ble_eq_true rfl) rfl (Or.inl ⟨rfl, Or.inl ew_295⟩) rfl rfl f1.1 f1.2 ?_
  refine ea_aload_n (pc := 9) dX5_init_9 rfl 0 rfl ?_
  refine ea_sipush (pc := 10) dX5_init_10 (v := 600) rfl ?_
  refine ea_newI (pc := 13) (N := 600) dX5_init_13 ew_170 (by decide) rfl (Nat.le_of_ble_eq_true rfl) ?_
  obtain ⟨f4, K⟩ := K
  refine ea_putR (pc := 15) dX5_init_15 ec_5 (k := 3) (Nat.le_of_ble_eq_true rfl) rfl (Or.inr ⟨rfl, rfl, rfl, ew_297⟩) f4.1 f4.2 ?_
  refine ea_aload_n (pc := 18) dX5_init_18 rfl 0 rfl ?_
  refine ea_sipush (pc := 19) dX5_init_19 (v := 601) rfl ?_
  refine ea_newI (pc := 22) (N := 601) dX5_init_22 ew_170 (by decide) rfl (Nat.le_of_ble_eq_true rfl) ?_
  obtain ⟨f7, K⟩ := K
  refine ea_putR (pc := 24) dX5_init_24 ec_5 (k := 4) (Nat.le_of_ble_eq_true rfl) rfl (Or.inr ⟨rfl, rfl, rfl, ew_298⟩) f7.1 f7.2 ?_
  refine ea_aload_n (pc := 27) dX5_init_27 rfl 0 rfl ?_
  refine ea_sipush (pc := 28) dX5_init_28 (v := 601) rfl ?_
  refine ea_newI (pc := 31) (N := 601) dX5_init_31 ew_170 (by decide) rfl (Nat.le_of_ble_eq_true rfl) ?_
  obtain ⟨f10, K⟩ := K
  refine ea_putR (pc := 33) dX5_init_33 ec_5 (k := 5) (Nat.le_of_ble_eq_true rfl) rfl (Or.inr ⟨rfl, rfl, rfl, ew_299⟩) f10.1 f10.2 ?_
  refine ea_aload_n (pc := 36) dX5_init_36 rfl 0 rfl ?_
  refine ea_sipush (pc := 37) dX5_init_37 (v := 601) rfl ?_
  refine ea_newI (pc := 40) (N := 601) dX5_init_40 ew_170 (by decide) rfl (Nat.le_of_ble_eq_true rfl) ?_
  obtain ⟨f13, K⟩ := K
  refine ea_putR (pc := 42) dX5_init_42 ec_5 (k := 6) (Nat.le_of_ble_eq_true rfl) rfl (Or.inr ⟨rfl, rfl, rfl, ew_300⟩) f13.1 f13.2 ?_
  refine ea_aload_n (pc := 45) dX5_init_45 rfl 0 rfl ?_
  refine ea_sipush (pc := 46) dX5_init_46 (v := 648) rfl ?_
  refine ea_newI (pc := 49) (N := 648) dX5_init_49 ew_170 (by decide) rfl (Nat.le_of_ble_eq_true rfl) ?_
  have f16 := K
  refine ea_putR (pc := 51) dX5_init_51 ec_5 (k := 10) (Nat.le_of_ble_eq_true rfl) rfl (Or.inr ⟨rfl, rfl, rfl, ew_304⟩) f16.1 f16.2 ?_
  subst EY
  exact ea_return (pc := 54) dX5_init_54 rfl
noncomputable def gX5_take (b0 : Nat) : Nat → Nat → Int32 → Int32 → ea_H → Option (Unit × ea_H)
  | 0, _, _, _, _ => none
  | f + 1, lbl, x1, x2, h =>
    if lbl = 0 then (gX5_take b0 f 3 (x1 : Int32) (24 : Int32) h) else
    if lbl = 3 then (if x2 < (0 : Int32) then (some ((), h)) else (if (600 : Int32) ≤ (ea_i h (b0 + 22) 0) then (gX5_take b0 f 3 (x1 : Int32) ((x2 + ((-8) : Int32)) : Int32) h) else (gd (vp_in (ea_i h (b0 + 22) 0) 600) (gX5_take b0 f 3 (x1 : Int32) ((x2 + ((-8) : Int32)) : Int32) (ea_wi (ea_wi h (b0 + 23) (Int32.toNatClampNeg (ea_i h (b0 + 22) 0)) ((x1 >>> (x2 &&& 31)) &&& (255 : Int32))) (b0 + 22) 0 ((ea_i (ea_wi h (b0 + 23) (Int32.toNatClampNeg (ea_i h (b0 + 22) 0)) ((x1 >>> (x2 &&& 31)) &&& (255 : Int32))) (b0 + 22) 0) + (1 : Int32))))))) else none
theorem tX5_take {d : Nat} {b0 : Nat} {h0 : ea_H} (hd : 1 ≤ d) : ∀ (f lbl : Nat) (x1 : Int32) (x2 : Int32) (h : ea_H) (r : Unit) (h' : ea_H), gX5_take b0 f lbl x1 x2 h = some (r, h') → ShC b0 h → (lbl = 0 → ea_W mX5_take d h0 none h' 0 [(0, vR (some (b0 + 22))), (1, vI x1)] [] h) ∧ (lbl = 3 → ea_W mX5_take d h0 none h' 3 [(0, vR (some (b0 + 22))), (1, vI x1), (2, vI x2)] [] h) := by
  intro f
  induction f with
  | zero => intro lbl x1 x2 h r h' E; cases E
  | succ f ih =>
    intro lbl x1 x2 h r h' E hs
    unfold gX5_take at E
    refine ⟨?_, ?_⟩
    · intro el
      subst el
      have E := (if_pos rfl).symm.trans E
      refine ea_bipush (pc := 0) dX5_take_0 (v := 24) rfl ?_
      refine ea_istore_n (pc := 2) (lv' := [(0, vR (some (b0 + 22))), (1, vI x1), (2, vI 24)]) dX5_take_2 rfl (Nat.le_of_ble_eq_true rfl) [1, 2, 0] rfl ?_
      exact ((ih 3 (x1 : Int32) (24 : Int32) h _ _ E hs).2 rfl)
    intro el
    subst el
    have E := (if_neg (by decide)).symm.trans E
    have E := (if_pos rfl).symm.trans E
    refine ea_iload_n (pc := 3) dX5_take_3 rfl 2 rfl ?_
    refine ea_if_lt (pc := 4) (tgt := 49) dX5_take_4 rfl (fun c5 => ?_) (fun c5 => ?_)
    · have E := (if_pos c5).symm.trans E
      cases E
      exact ea_return (pc := 49) dX5_take_49 rfl
    · have E := (if_neg c5).symm.trans E
      refine ea_aload_n (pc := 7) dX5_take_7 rfl 0 rfl ?_
      refine ea_getI (pc := 8) dX5_take_8 ec_5 (k := 0) (Nat.le_of_ble_eq_true rfl) rfl (Or.inl ew_291) (hs.1 22 (by decide)).1 (hs.1 22 (by decide)).2.1 ?_
      refine ea_sipush (pc := 11) dX5_take_11 (v := 600) rfl ?_
      refine ea_icmp_ge (pc := 14) (tgt := 43) dX5_take_14 rfl (fun c4 => ?_) (fun c4 => ?_)
      · have E := (if_pos c4).symm.trans E
        refine ea_iinc (pc := 43) (v := (-8)) (lv' := [(0, vR (some (b0 + 22))), (1, vI x1), (2, vI (x2 + ((-8) : Int32)))]) dX5_take_43 2 rfl rfl (Nat.le_of_ble_eq_true rfl) [1, 2, 0] rfl ?_
        refine ea_goto (pc := 46) (tgt := 3) dX5_take_46 rfl ?_
        exact ((ih 3 (x1 : Int32) ((x2 + ((-8) : Int32)) : Int32) h _ _ E hs).2 rfl)
      · have E := (if_neg c4).symm.trans E
        refine ea_aload_n (pc := 17) dX5_take_17 rfl 0 rfl ?_
        refine ea_getR (pc := 18) dX5_take_18 ec_5 (k := 3) (Nat.le_of_ble_eq_true rfl) rfl (Or.inl ew_297) (hs.1 22 (by decide)).1 (hs.1 22 (by decide)).2.1 (hs.2 22 3 rfl) ?_
        refine ea_aload_n (pc := 21) dX5_take_21 rfl 0 rfl ?_
        refine ea_getI (pc := 22) dX5_take_22 ec_5 (k := 0) (Nat.le_of_ble_eq_true rfl) rfl (Or.inl ew_291) (hs.1 22 (by decide)).1 (hs.1 22 (by decide)).2.1 ?_
        refine ea_iload_n (pc := 25) dX5_take_25 rfl 1 rfl ?_
        refine ea_iload_n (pc := 26) dX5_take_26 rfl 2 rfl ?_
        refine ea_ishr (pc := 27) dX5_take_27 ?_
        refine ea_sipush (pc := 28) dX5_take_28 (v := 255) rfl ?_
        refine ea_iand (pc := 31) dX5_take_31 ?_
        obtain ⟨z1, E⟩ := gd_some E
        refine ea_iast (pc := 32) dX5_take_32 (hs.1 23 (by decide)).1 (hs.1 23 (by decide)).2.1 (ea_vpl (hs.1 23 (by decide)).2.2 z1) ?_
        have hs2 : ShC b0 (ea_wi h (b0 + 23) (Int32.toNatClampNeg (ea_i h (b0 + 22) 0)) ((x1 >>> (x2 &&& 31)) &&& (255 : Int32))) := ShC_wi hs
        refine ea_aload_n (pc := 33) dX5_take_33 rfl 0 rfl ?_
        refine ea_dup (pc := 34) dX5_take_34 rfl ?_
        refine ea_getI (pc := 35) dX5_take_35 ec_5 (k := 0) (Nat.le_of_ble_eq_true rfl) rfl (Or.inl ew_291) (hs2.1 22 (by decide)).1 (hs2.1 22 (by decide)).2.1 ?_
        refine ea_iconst (pc := 38) dX5_take_38 (v := 1) rfl ?_
        refine ea_iadd (pc := 39) dX5_take_39 ?_
        refine ea_putI (pc := 40) dX5_take_40 ec_5 (k := 0) (Nat.le_of_ble_eq_true rfl) rfl (Or.inl ⟨rfl, Or.inl ew_291⟩) rfl rfl (hs2.1 22 (by decide)).1 (hs2.1 22 (by decide)).2.1 ?_
        have hs3 : ShC b0 (ea_wi (ea_wi h (b0 + 23) (Int32.toNatClampNeg (ea_i h (b0 + 22) 0)) ((x1 >>> (x2 &&& 31)) &&& (255 : Int32))) (b0 + 22) 0 ((ea_i (ea_wi h (b0 + 23) (Int32.toNatClampNeg (ea_i h (b0 + 22) 0)) ((x1 >>> (x2 &&& 31)) &&& (255 : Int32))) (b0 + 22) 0) + (1 : Int32))) := ShC_wi hs2
        refine ea_iinc (pc := 43) (v := (-8)) (lv' := [(0, vR (some (b0 + 22))), (1, vI x1), (2, vI (x2 + ((-8) : Int32)))]) dX5_take_43 2 rfl rfl (Nat.le_of_ble_eq_true rfl) [1, 2, 0] rfl ?_
        refine ea_goto (pc := 46) (tgt := 3) dX5_take_46 rfl ?_
        exact ((ih 3 (x1 : Int32) ((x2 + ((-8) : Int32)) : Int32) (ea_wi (ea_wi h (b0 + 23) (Int32.toNatClampNeg (ea_i h (b0 + 22) 0)) ((x1 >>> (x2 &&& 31)) &&& (255 : Int32))) (b0 + 22) 0 ((ea_i (ea_wi h (b0 + 23) (Int32.toNatClampNeg (ea_i h (b0 + 22) 0)) ((x1 >>> (x2 &&& 31)) &&& (255 : Int32))) (b0 + 22) 0) + (1 : Int32))) _ _ E hs3).2 rfl)
noncomputable def qX5_take (b0 : Nat) (x1 : Int32) (h : ea_H) : Option (Unit × ea_H) := gX5_take b0 1000000000 0 x1 0 h
def okX5_take (b0 : Nat) (x1 : Int32) (h : ea_H) : Prop := ∃ x, qX5_take b0 x1 h = some x
noncomputable def wX5_take (b0 : Nat) (x1 : Int32) (h : ea_H) : ea_H := ((qX5_take b0 x1 h).getD ((), h)).2
theorem sX5_take {d : Nat} {b0 : Nat} {x1 : Int32} {h : ea_H} (hd : 1 ≤ d) (hs : ShC b0 h) (K : okX5_take b0 x1 h) : ea_Met mX5_take d [vR (some (b0 + 22)), vI x1] h none (wX5_take b0 x1 h) := by
  obtain ⟨⟨x, y⟩, K⟩ := K
  unfold wX5_take
  rw [K]
  unfold qX5_take at K
  exact ea_enter rfl (Nat.le_of_ble_eq_true rfl) ((tX5_take hd 1000000000 0 x1 0 h x y K hs).1 rfl)
theorem zX5_take {b0 : Nat} : ∀ (f lbl : Nat) (x1 : Int32) (x2 : Int32) (h : ea_H) (r : Unit) (h' : ea_H), gX5_take b0 f lbl x1 x2 h = some (r, h') → ShC b0 h → ShC b0 h' := by
  intro f
  induction f with
  | zero => intro lbl x1 x2 h r h' E; cases E
  | succ f ih =>
    intro lbl x1 x2 h r h' E hs
    unfold gX5_take at E
    by_cases el0 : lbl = 0
    · have E := (if_pos el0).symm.trans E
      exact ih 3 (x1 : Int32) (24 : Int32) h _ _ E hs
    have E := (if_neg el0).symm.trans E
    by_cases el1 : lbl = 3
    · have E := (if_pos el1).symm.trans E
      by_cases c5 : x2 < (0 : Int32)
      · have E := (if_pos c5).symm.trans E
        cases E
        exact hs
      have E := (if_neg c5).symm.trans E
      by_cases c4 : (600 : Int32) ≤ (ea_i h (b0 + 22) 0)
      · have E := (if_pos c4).symm.trans E
        exact ih 3 (x1 : Int32) ((x2 + ((-8) : Int32)) : Int32) h _ _ E hs
      have E := (if_neg c4).symm.trans E
      obtain ⟨z1, E⟩ := gd_some E
      exact ih 3 (x1 : Int32) ((x2 + ((-8) : Int32)) : Int32) (ea_wi (ea_wi h (b0 + 23) (Int32.toNatClampNeg (ea_i h (b0 + 22) 0)) ((x1 >>> (x2 &&& 31)) &&& (255 : Int32))) (b0 + 22) 0 ((ea_i (ea_wi h (b0 + 23) (Int32.toNatClampNeg (ea_i h (b0 + 22) 0)) ((x1 >>> (x2 &&& 31)) &&& (255 : Int32))) (b0 + 22) 0) + (1 : Int32))) _ _ E (ShC_wi (ShC_wi hs))
    have E := (if_neg el1).symm.trans E
    cases E
theorem shX5_take {b0 : Nat} {x1 : Int32} {h : ea_H} (hs : ShC b0 h) : ShC b0 (wX5_take b0 x1 h) := by
  unfold wX5_take
  cases K : qX5_take b0 x1 h with
  | none => exact hs
  | some x => obtain ⟨x, y⟩ := x; unfold qX5_take at K; exact zX5_take _ _ _ _ _ _ _ K hs
noncomputable def wX5_drop (b0 : Nat) (h : ea_H) : ea_H := (ea_wi (ea_wi (ea_wi h (b0 + 22) 0 0) (b0 + 22) 1 0) (b0 + 22) 2 (-1))
theorem shX5_drop {b0 : Nat} {h : ea_H} (hs : ShC b0 h) : ShC b0 (wX5_drop b0 h) := (ShC_wi (ShC_wi (ShC_wi hs)))
theorem sX5_drop {d : Nat} {b0 : Nat} {h : ea_H} (hd : 1 ≤ d) (hs : ShC b0 h) : ea_Met mX5_drop d [vR (some (b0 + 22))] h none (wX5_drop b0 h) := by
  obtain ⟨Y, EY⟩ : ∃ z, z = wX5_drop b0 h := ⟨_, rfl⟩
  rw [← EY]
  unfold wX5_drop at EY
  refine ea_enter rfl (Nat.le_of_ble_eq_true rfl) ?_
  refine ea_aload_n (pc := 0) dX5_drop_0 rfl 0 rfl ?_
  refine ea_iconst (pc := 1) dX5_drop_1 (v := 0) rfl ?_
  refine ea_putI (pc := 2) dX5_drop_2 ec_5 (k := 0) (Nat.le_of_ble_eq_true rfl) rfl (Or.inl ⟨rfl, Or.inl ew_291⟩) rfl rfl (hs.1 22 (by decide)).1 (hs.1 22 (by decide)).2.1 ?_
  have hs1 : ShC b0 (ea_wi h (b0 + 22) 0 0) := ShC_wi hs
  refine ea_aload_n (pc := 5) dX5_drop_5 rfl 0 rfl ?_
  refine ea_iconst (pc := 6) dX5_drop_6 (v := 0) rfl ?_
  refine ea_putI (pc := 7) dX5_drop_7 ec_5 (k := 1) (Nat.le_of_ble_eq_true rfl) rfl (Or.inl ⟨rfl, Or.inl ew_293⟩) rfl rfl (hs1.1 22 (by decide)).1 (hs1.1 22 (by decide)).2.1 ?_
  have hs2 : ShC b0 (ea_wi (ea_wi h (b0 + 22) 0 0) (b0 + 22) 1 0) := ShC_wi hs1
  refine ea_aload_n (pc := 10) dX5_drop_10 rfl 0 rfl ?_
  refine ea_iconst (pc := 11) dX5_drop_11 (v := (-1)) rfl ?_
  refine ea_putI (pc := 12) dX5_drop_12 ec_5 (k := 2) (Nat.le_of_ble_eq_true rfl) rfl (Or.inl ⟨rfl, Or.inl ew_295⟩) rfl rfl (hs2.1 22 (by decide)).1 (hs2.1 22 (by decide)).2.1 ?_
  have hs3 : ShC b0 (ea_wi (ea_wi (ea_wi h (b0 + 22) 0 0) (b0 + 22) 1 0) (b0 + 22) 2 (-1)) := ShC_wi hs2
  subst EY
  exact ea_return (pc := 15) dX5_drop_15 rfl
noncomputable def vX5_comparison (b0 : Nat) (h : ea_H) : Int32 := (if Int32.toInt (ea_i h (b0 + 22) 9) = 60 then ((-14) : Int32) else (if Int32.toInt (ea_i h (b0 + 22) 9) = 61 then ((-15) : Int32) else (if Int32.toInt (ea_i h (b0 + 22) 9) = 62 then ((-16) : Int32) else ((-1) : Int32))))
theorem sX5_comparison {d : Nat} {b0 : Nat} {h : ea_H} (hd : 1 ≤ d) (hs : ShC b0 h) : ea_Met mX5_comparison d [vR (some (b0 + 22))] h (some (vI (vX5_comparison b0 h))) h := by
  obtain ⟨X, EX⟩ : ∃ z, z = vX5_comparison b0 h := ⟨_, rfl⟩
  rw [← EX]
  unfold vX5_comparison at EX
  refine ea_enter rfl (Nat.le_of_ble_eq_true rfl) ?_
  refine ea_aload_n (pc := 0) dX5_comparison_0 rfl 0 rfl ?_
  refine ea_getI (pc := 1) dX5_comparison_1 ec_5 (k := 9) (Nat.le_of_ble_eq_true rfl) rfl (Or.inl ew_303) (hs.1 22 (by decide)).1 (hs.1 22 (by decide)).2.1 ?_
  by_cases qc4_0 : Int32.toInt (ea_i h (b0 + 22) 9) = 60
  · have EX := EX.trans (if_pos qc4_0)
    refine ea_tswIn (pc := 4) (tgt := 32) dX5_comparison_4 (by rw [qc4_0]; decide) (by rw [qc4_0]; decide) (by rw [qc4_0]; rfl) rfl ?_
    refine ea_bipush (pc := 32) dX5_comparison_32 (v := (-14)) rfl ?_
    subst EX
    exact ea_ireturn (pc := 34) dX5_comparison_34 rfl rfl
  have EX := EX.trans (if_neg qc4_0)
  by_cases qc4_1 : Int32.toInt (ea_i h (b0 + 22) 9) = 61
  · have EX := EX.trans (if_pos qc4_1)
    refine ea_tswIn (pc := 4) (tgt := 35) dX5_comparison_4 (by rw [qc4_1]; decide) (by rw [qc4_1]; decide) (by rw [qc4_1]; rfl) rfl ?_
    refine ea_bipush (pc := 35) dX5_comparison_35 (v := (-15)) rfl ?_
    subst EX
    exact ea_ireturn (pc := 37) dX5_comparison_37 rfl rfl
  have EX := EX.trans (if_neg qc4_1)
  by_cases qc4_2 : Int32.toInt (ea_i h (b0 + 22) 9) = 62
  · have EX := EX.trans (if_pos qc4_2)
    refine ea_tswIn (pc := 4) (tgt := 38) dX5_comparison_4 (by rw [qc4_2]; decide) (by rw [qc4_2]; decide) (by rw [qc4_2]; rfl) rfl ?_
    refine ea_bipush (pc := 38) dX5_comparison_38 (v := (-16)) rfl ?_
    subst EX
    exact ea_ireturn (pc := 40) dX5_comparison_40 rfl rfl
  have EX := EX.trans (if_neg qc4_2)
  refine ea_tswOut (pc := 4) (tgt := 41) dX5_comparison_4 (ec_sw_60_62 qc4_0 qc4_1 qc4_2) rfl ?_
  refine ea_iconst (pc := 41) dX5_comparison_41 (v := (-1)) rfl ?_
  subst EX
  exact ea_ireturn (pc := 42) dX5_comparison_42 rfl rfl
noncomputable def wX5_step (b0 : Nat) (h : ea_H) : ea_H := (if ((ea_i h (b0 + 22) 7) - (1 : Int32)) ≤ (ea_i h (b0 + 22) 8) then (ea_wi h (b0 + 22) 9 (ea_i h (b0 + 24) (Int32.toNatClampNeg (ea_i h (b0 + 22) 8)))) else (ea_wi (ea_wi h (b0 + 22) 8 ((ea_i h (b0 + 22) 8) + (1 : Int32))) (b0 + 22) 9 (ea_i (ea_wi h (b0 + 22) 8 ((ea_i h (b0 + 22) 8) + (1 : Int32))) (b0 + 24) (Int32.toNatClampNeg (ea_i (ea_wi h (b0 + 22) 8 ((ea_i h (b0 + 22) 8) + (1 : Int32))) (b0 + 22) 8)))))
def okX5_step (b0 : Nat) (h : ea_H) : Prop := (((ea_i h (b0 + 22) 7) - (1 : Int32)) ≤ (ea_i h (b0 + 22) 8) → vp_in (ea_i h (b0 + 22) 8) 601) ∧ (¬ ((ea_i h (b0 + 22) 7) - (1 : Int32)) ≤ (ea_i h (b0 + 22) 8) → vp_in (ea_i (ea_wi h (b0 + 22) 8 ((ea_i h (b0 + 22) 8) + (1 : Int32))) (b0 + 22) 8) 601)
theorem shX5_step {b0 : Nat} {h : ea_H} (hs : ShC b0 h) : ShC b0 (wX5_step b0 h) := (ShC_it (ShC_wi hs) (ShC_wi (ShC_wi hs)))
theorem sX5_step {d : Nat} {b0 : Nat} {h : ea_H} (hd : 1 ≤ d) (hs : ShC b0 h) (K : okX5_step b0 h) : ea_Met mX5_step d [vR (some (b0 + 22))] h none (wX5_step b0 h) := by
  obtain ⟨Y, EY⟩ : ∃ z, z = wX5_step b0 h := ⟨_, rfl⟩
  rw [← EY]
  unfold wX5_step at EY
  unfold okX5_step at K
  refine ea_enter rfl (Nat.le_of_ble_eq_true rfl) ?_
  refine ea_aload_n (pc := 0) dX5_step_0 rfl 0 rfl ?_
  refine ea_getI (pc := 1) dX5_step_1 ec_5 (k := 8) (Nat.le_of_ble_eq_true rfl) rfl (Or.inl ew_302) (hs.1 22 (by decide)).1 (hs.1 22 (by decide)).2.1 ?_
  refine ea_aload_n (pc := 4) dX5_step_4 rfl 0 rfl ?_
  refine ea_getI (pc := 5) dX5_step_5 ec_5 (k := 7) (Nat.le_of_ble_eq_true rfl) rfl (Or.inl ew_301) (hs.1 22 (by decide)).1 (hs.1 22 (by decide)).2.1 ?_
  refine ea_iconst (pc := 8) dX5_step_8 (v := 1) rfl ?_
  refine ea_isub (pc := 9) dX5_step_9 ?_
  refine ea_icmp_ge (pc := 10) (tgt := 23) dX5_step_10 rfl (fun c6 => ?_) (fun c6 => ?_)
  · have EY := EY.trans (if_pos c6)
    have K := K.1 c6
    refine ea_aload_n (pc := 23) dX5_step_23 rfl 0 rfl ?_
    refine ea_aload_n (pc := 24) dX5_step_24 rfl 0 rfl ?_
    refine ea_getR (pc := 25) dX5_step_25 ec_5 (k := 4) (Nat.le_of_ble_eq_true rfl) rfl (Or.inl ew_298) (hs.1 22 (by decide)).1 (hs.1 22 (by decide)).2.1 (hs.2 22 4 rfl) ?_
    refine ea_aload_n (pc := 28) dX5_step_28 rfl 0 rfl ?_
    refine ea_getI (pc := 29) dX5_step_29 ec_5 (k := 8) (Nat.le_of_ble_eq_true rfl) rfl (Or.inl ew_302) (hs.1 22 (by decide)).1 (hs.1 22 (by decide)).2.1 ?_
    have z1 := K
    refine ea_iald (pc := 32) dX5_step_32 (hs.1 24 (by decide)).1 (hs.1 24 (by decide)).2.1 (ea_vpl (hs.1 24 (by decide)).2.2 z1) ?_
    refine ea_putI (pc := 33) dX5_step_33 ec_5 (k := 9) (Nat.le_of_ble_eq_true rfl) rfl (Or.inl ⟨rfl, Or.inl ew_303⟩) rfl rfl (hs.1 22 (by decide)).1 (hs.1 22 (by decide)).2.1 ?_
    have hs2 : ShC b0 (ea_wi h (b0 + 22) 9 (ea_i h (b0 + 24) (Int32.toNatClampNeg (ea_i h (b0 + 22) 8)))) := ShC_wi hs
    subst EY
    exact ea_return (pc := 36) dX5_step_36 rfl
  · have EY := EY.trans (if_neg c6)
    have K := K.2 c6
    refine ea_aload_n (pc := 13) dX5_step_13 rfl 0 rfl ?_
    refine ea_dup (pc := 14) dX5_step_14 rfl ?_
    refine ea_getI (pc := 15) dX5_step_15 ec_5 (k := 8) (Nat.le_of_ble_eq_true rfl) rfl (Or.inl ew_302) (hs.1 22 (by decide)).1 (hs.1 22 (by decide)).2.1 ?_
    refine ea_iconst (pc := 18) dX5_step_18 (v := 1) rfl ?_
    refine ea_iadd (pc := 19) dX5_step_19 ?_
    refine ea_putI (pc := 20) dX5_step_20 ec_5 (k := 8) (Nat.le_of_ble_eq_true rfl) rfl (Or.inl ⟨rfl, Or.inl ew_302⟩) rfl rfl (hs.1 22 (by decide)).1 (hs.1 22 (by decide)).2.1 ?_
    have hs3 : ShC b0 (ea_wi h (b0 + 22) 8 ((ea_i h (b0 + 22) 8) + (1 : Int32))) := ShC_wi hs
    refine ea_aload_n (pc := 23) dX5_step_23 rfl 0 rfl ?_
    refine ea_aload_n (pc := 24) dX5_step_24 rfl 0 rfl ?_
    refine ea_getR (pc := 25) dX5_step_25 ec_5 (k := 4) (Nat.le_of_ble_eq_true rfl) rfl (Or.inl ew_298) (hs3.1 22 (by decide)).1 (hs3.1 22 (by decide)).2.1 (hs3.2 22 4 rfl) ?_
    refine ea_aload_n (pc := 28) dX5_step_28 rfl 0 rfl ?_
    refine ea_getI (pc := 29) dX5_step_29 ec_5 (k := 8) (Nat.le_of_ble_eq_true rfl) rfl (Or.inl ew_302) (hs3.1 22 (by decide)).1 (hs3.1 22 (by decide)).2.1 ?_
    have z4 := K
    refine ea_iald (pc := 32) dX5_step_32 (hs3.1 24 (by decide)).1 (hs3.1 24 (by decide)).2.1 (ea_vpl (hs3.1 24 (by decide)).2.2 z4) ?_
    refine ea_putI (pc := 33) dX5_step_33 ec_5 (k := 9) (Nat.le_of_ble_eq_true rfl) rfl (Or.inl ⟨rfl, Or.inl ew_303⟩) rfl rfl (hs3.1 22 (by decide)).1 (hs3.1 22 (by decide)).2.1 ?_
    have hs5 : ShC b0 (ea_wi (ea_wi h (b0 + 22) 8 ((ea_i h (b0 + 22) 8) + (1 : Int32))) (b0 + 22) 9 (ea_i (ea_wi h (b0 + 22) 8 ((ea_i h (b0 + 22) 8) + (1 : Int32))) (b0 + 24) (Int32.toNatClampNeg (ea_i (ea_wi h (b0 + 22) 8 ((ea_i h (b0 + 22) 8) + (1 : Int32))) (b0 + 22) 8)))) := ShC_wi hs3
    subst EY
    exact ea_return (pc := 36) dX5_step_36 rfl
noncomputable def vX5_refuse (b0 : Nat) (x1 : Int32) (h : ea_H) : Int32 := (0 : Int32)
noncomputable def wX5_refuse (b0 : Nat) (x1 : Int32) (h : ea_H) : ea_H := (ea_wi (ea_wi h (b0 + 22) 1 x1) (b0 + 22) 2 (ea_i (ea_wi h (b0 + 22) 1 x1) (b0 + 25) (Int32.toNatClampNeg (ea_i (ea_wi h (b0 + 22) 1 x1) (b0 + 22) 8))))
def okX5_refuse (b0 : Nat) (x1 : Int32) (h : ea_H) : Prop := vp_in (ea_i (ea_wi h (b0 + 22) 1 x1) (b0 + 22) 8) 601
theorem bo_vX5_refuse (b0 : Nat) (x1 : Int32) (h : ea_H) : vX5_refuse b0 x1 h = 0 ∨ vX5_refuse b0 x1 h = 1 := (Or.inl rfl)
theorem shX5_refuse {b0 : Nat} {x1 : Int32} {h : ea_H} (hs : ShC b0 h) : ShC b0 (wX5_refuse b0 x1 h) := (ShC_wi (ShC_wi hs))
theorem sX5_refuse {d : Nat} {b0 : Nat} {x1 : Int32} {h : ea_H} (hd : 1 ≤ d) (hs : ShC b0 h) (K : okX5_refuse b0 x1 h) : ea_Met mX5_refuse d [vR (some (b0 + 22)), vI x1] h (some (vI (vX5_refuse b0 x1 h))) (wX5_refuse b0 x1 h) := by
  obtain ⟨X, EX⟩ : ∃ z, z = vX5_refuse b0 x1 h := ⟨_, rfl⟩
  rw [← EX]
  unfold vX5_refuse at EX
  obtain ⟨Y, EY⟩ : ∃ z, z = wX5_refuse b0 x1 h := ⟨_, rfl⟩
  rw [← EY]
  unfold wX5_refuse at EY
  unfold okX5_refuse at K
  refine ea_enter rfl (Nat.le_of_ble_eq_true rfl) ?_
  refine ea_aload_n (pc := 0) dX5_refuse_0 rfl 0 rfl ?_
  refine ea_iload_n (pc := 1) dX5_refuse_1 rfl 1 rfl ?_
  refine ea_putI (pc := 2) dX5_refuse_2 ec_5 (k := 1) (Nat.le_of_ble_eq_true rfl) rfl (Or.inl ⟨rfl, Or.inl ew_293⟩) rfl rfl (hs.1 22 (by decide)).1 (hs.1 22 (by decide)).2.1 ?_
  have hs1 : ShC b0 (ea_wi h (b0 + 22) 1 x1) := ShC_wi hs
  refine ea_aload_n (pc := 5) dX5_refuse_5 rfl 0 rfl ?_
  refine ea_aload_n (pc := 6) dX5_refuse_6 rfl 0 rfl ?_
  refine ea_getR (pc := 7) dX5_refuse_7 ec_5 (k := 5) (Nat.le_of_ble_eq_true rfl) rfl (Or.inl ew_299) (hs1.1 22 (by decide)).1 (hs1.1 22 (by decide)).2.1 (hs1.2 22 5 rfl) ?_
  refine ea_aload_n (pc := 10) dX5_refuse_10 rfl 0 rfl ?_
  refine ea_getI (pc := 11) dX5_refuse_11 ec_5 (k := 8) (Nat.le_of_ble_eq_true rfl) rfl (Or.inl ew_302) (hs1.1 22 (by decide)).1 (hs1.1 22 (by decide)).2.1 ?_
  have z2 := K
  refine ea_iald (pc := 14) dX5_refuse_14 (hs1.1 25 (by decide)).1 (hs1.1 25 (by decide)).2.1 (ea_vpl (hs1.1 25 (by decide)).2.2 z2) ?_
  refine ea_putI (pc := 15) dX5_refuse_15 ec_5 (k := 2) (Nat.le_of_ble_eq_true rfl) rfl (Or.inl ⟨rfl, Or.inl ew_295⟩) rfl rfl (hs1.1 22 (by decide)).1 (hs1.1 22 (by decide)).2.1 ?_
  have hs3 : ShC b0 (ea_wi (ea_wi h (b0 + 22) 1 x1) (b0 + 22) 2 (ea_i (ea_wi h (b0 + 22) 1 x1) (b0 + 25) (Int32.toNatClampNeg (ea_i (ea_wi h (b0 + 22) 1 x1) (b0 + 22) 8)))) := ShC_wi hs1
  refine ea_iconst (pc := 18) dX5_refuse_18 (v := 0) rfl ?_
  subst EX
  subst EY
  exact ea_ireturn (pc := 19) dX5_refuse_19 rfl (ea_bn (Or.inl rfl))
noncomputable def wX5_put (b0 : Nat) (x1 : Int32) (h : ea_H) : ea_H := (if (648 : Int32) ≤ (ea_i h (b0 + 22) 11) then h else (ea_wi (ea_wi h (b0 + 27) (Int32.toNatClampNeg (ea_i h (b0 + 22) 11)) x1) (b0 + 22) 11 ((ea_i (ea_wi h (b0 + 27) (Int32.toNatClampNeg (ea_i h (b0 + 22) 11)) x1) (b0 + 22) 11) + (1 : Int32))))
def okX5_put (b0 : Nat) (x1 : Int32) (h : ea_H) : Prop := ((648 : Int32) ≤ (ea_i h (b0 + 22) 11) → True) ∧ (¬ (648 : Int32) ≤ (ea_i h (b0 + 22) 11) → vp_in (ea_i h (b0 + 22) 11) 648)
theorem shX5_put {b0 : Nat} {x1 : Int32} {h : ea_H} (hs : ShC b0 h) : ShC b0 (wX5_put b0 x1 h) := (ShC_it hs (ShC_wi (ShC_wi hs)))
theorem sX5_put {d : Nat} {b0 : Nat} {x1 : Int32} {h : ea_H} (hd : 1 ≤ d) (hs : ShC b0 h) (K : okX5_put b0 x1 h) : ea_Met mX5_put d [vR (some (b0 + 22)), vI x1] h none (wX5_put b0 x1 h) := by
  obtain ⟨Y, EY⟩ : ∃ z, z = wX5_put b0 x1 h := ⟨_, rfl⟩
  rw [← EY]
  unfold wX5_put at EY
  unfold okX5_put at K
  refine ea_enter rfl (Nat.le_of_ble_eq_true rfl) ?_
  refine ea_aload_n (pc := 0) dX5_put_0 rfl 0 rfl ?_
  refine ea_getI (pc := 1) dX5_put_1 ec_5 (k := 11) (Nat.le_of_ble_eq_true rfl) rfl (Or.inl ew_305) (hs.1 22 (by decide)).1 (hs.1 22 (by decide)).2.1 ?_
  refine ea_aload_n (pc := 4) dX5_put_4 rfl 0 rfl ?_
  refine ea_getR (pc := 5) dX5_put_5 ec_5 (k := 10) (Nat.le_of_ble_eq_true rfl) rfl (Or.inl ew_304) (hs.1 22 (by decide)).1 (hs.1 22 (by decide)).2.1 (hs.2 22 10 rfl) ?_
  refine ea_alen (pc := 8) dX5_put_8 (hs.1 27 (by decide)).1 (hs.1 27 (by decide)).2.1 (by decide) (by decide) ?_
  refine ea_tops (by rw [(hs.1 27 (by decide)).2.2]; rfl : vI (Int32.ofNat (ea_l h (b0 + 27))) = vI 648) ?_
  refine ea_icmp_ge (pc := 9) (tgt := 32) dX5_put_9 rfl (fun c4 => ?_) (fun c4 => ?_)
  · have EY := EY.trans (if_pos c4)
    subst EY
    exact ea_return (pc := 32) dX5_put_32 rfl
  · have EY := EY.trans (if_neg c4)
    have K := K.2 c4
    refine ea_aload_n (pc := 12) dX5_put_12 rfl 0 rfl ?_
    refine ea_getR (pc := 13) dX5_put_13 ec_5 (k := 10) (Nat.le_of_ble_eq_true rfl) rfl (Or.inl ew_304) (hs.1 22 (by decide)).1 (hs.1 22 (by decide)).2.1 (hs.2 22 10 rfl) ?_
    refine ea_aload_n (pc := 16) dX5_put_16 rfl 0 rfl ?_
    refine ea_getI (pc := 17) dX5_put_17 ec_5 (k := 11) (Nat.le_of_ble_eq_true rfl) rfl (Or.inl ew_305) (hs.1 22 (by decide)).1 (hs.1 22 (by decide)).2.1 ?_
    refine ea_iload_n (pc := 20) dX5_put_20 rfl 1 rfl ?_
    have z1 := K
    refine ea_iast (pc := 21) dX5_put_21 (hs.1 27 (by decide)).1 (hs.1 27 (by decide)).2.1 (ea_vpl (hs.1 27 (by decide)).2.2 z1) ?_
    have hs2 : ShC b0 (ea_wi h (b0 + 27) (Int32.toNatClampNeg (ea_i h (b0 + 22) 11)) x1) := ShC_wi hs
    refine ea_aload_n (pc := 22) dX5_put_22 rfl 0 rfl ?_
    refine ea_dup (pc := 23) dX5_put_23 rfl ?_
    refine ea_getI (pc := 24) dX5_put_24 ec_5 (k := 11) (Nat.le_of_ble_eq_true rfl) rfl (Or.inl ew_305) (hs2.1 22 (by decide)).1 (hs2.1 22 (by decide)).2.1 ?_
    refine ea_iconst (pc := 27) dX5_put_27 (v := 1) rfl ?_
    refine ea_iadd (pc := 28) dX5_put_28 ?_
    refine ea_putI (pc := 29) dX5_put_29 ec_5 (k := 11) (Nat.le_of_ble_eq_true rfl) rfl (Or.inl ⟨rfl, Or.inl ew_305⟩) rfl rfl (hs2.1 22 (by decide)).1 (hs2.1 22 (by decide)).2.1 ?_
    have hs3 : ShC b0 (ea_wi (ea_wi h (b0 + 27) (Int32.toNatClampNeg (ea_i h (b0 + 22) 11)) x1) (b0 + 22) 11 ((ea_i (ea_wi h (b0 + 27) (Int32.toNatClampNeg (ea_i h (b0 + 22) 11)) x1) (b0 + 22) 11) + (1 : Int32))) := ShC_wi hs2
    subst EY
    exact ea_return (pc := 32) dX5_put_32 rfl
noncomputable def wX5_addToken (b0 : Nat) (x1 : Int32) (x2 : Int32) (x3 : Int32) (h : ea_H) : ea_H := (if (601 : Int32) ≤ (ea_i h (b0 + 22) 7) then h else (ea_wi (ea_wi (ea_wi (ea_wi h (b0 + 24) (Int32.toNatClampNeg (ea_i h (b0 + 22) 7)) x1) (b0 + 25) (Int32.toNatClampNeg (ea_i (ea_wi h (b0 + 24) (Int32.toNatClampNeg (ea_i h (b0 + 22) 7)) x1) (b0 + 22) 7)) x2) (b0 + 26) (Int32.toNatClampNeg (ea_i (ea_wi (ea_wi h (b0 + 24) (Int32.toNatClampNeg (ea_i h (b0 + 22) 7)) x1) (b0 + 25) (Int32.toNatClampNeg (ea_i (ea_wi h (b0 + 24) (Int32.toNatClampNeg (ea_i h (b0 + 22) 7)) x1) (b0 + 22) 7)) x2) (b0 + 22) 7)) x3) (b0 + 22) 7 ((ea_i (ea_wi (ea_wi (ea_wi h (b0 + 24) (Int32.toNatClampNeg (ea_i h (b0 + 22) 7)) x1) (b0 + 25) (Int32.toNatClampNeg (ea_i (ea_wi h (b0 + 24) (Int32.toNatClampNeg (ea_i h (b0 + 22) 7)) x1) (b0 + 22) 7)) x2) (b0 + 26) (Int32.toNatClampNeg (ea_i (ea_wi (ea_wi h (b0 + 24) (Int32.toNatClampNeg (ea_i h (b0 + 22) 7)) x1) (b0 + 25) (Int32.toNatClampNeg (ea_i (ea_wi h (b0 + 24) (Int32.toNatClampNeg (ea_i h (b0 + 22) 7)) x1) (b0 + 22) 7)) x2) (b0 + 22) 7)) x3) (b0 + 22) 7) + (1 : Int32))))
def okX5_addToken (b0 : Nat) (x1 : Int32) (x2 : Int32) (x3 : Int32) (h : ea_H) : Prop := ((601 : Int32) ≤ (ea_i h (b0 + 22) 7) → True) ∧ (¬ (601 : Int32) ≤ (ea_i h (b0 + 22) 7) → vp_in (ea_i h (b0 + 22) 7) 601 ∧ (vp_in (ea_i (ea_wi h (b0 + 24) (Int32.toNatClampNeg (ea_i h (b0 + 22) 7)) x1) (b0 + 22) 7) 601 ∧ (vp_in (ea_i (ea_wi (ea_wi h (b0 + 24) (Int32.toNatClampNeg (ea_i h (b0 + 22) 7)) x1) (b0 + 25) (Int32.toNatClampNeg (ea_i (ea_wi h (b0 + 24) (Int32.toNatClampNeg (ea_i h (b0 + 22) 7)) x1) (b0 + 22) 7)) x2) (b0 + 22) 7) 601)))
theorem shX5_addToken {b0 : Nat} {x1 : Int32} {x2 : Int32} {x3 : Int32} {h : ea_H} (hs : ShC b0 h) : ShC b0 (wX5_addToken b0 x1 x2 x3 h) := (ShC_it hs (ShC_wi (ShC_wi (ShC_wi (ShC_wi hs)))))
theorem sX5_addToken {d : Nat} {b0 : Nat} {x1 : Int32} {x2 : Int32} {x3 : Int32} {h : ea_H} (hd : 1 ≤ d) (hs : ShC b0 h) (K : okX5_addToken b0 x1 x2 x3 h) : ea_Met mX5_addToken d [vR (some (b0 + 22)), vI x1, vI x2, vI x3] h none (wX5_addToken b0 x1 x2 x3 h) := by
  obtain ⟨Y, EY⟩ : ∃ z, z = wX5_addToken b0 x1 x2 x3 h := ⟨_, rfl⟩
  rw [← EY]
  unfold wX5_addToken at EY
  unfold okX5_addToken at K
  refine ea_enter rfl (Nat.le_of_ble_eq_true rfl) ?_
  refine ea_aload_n (pc := 0) dX5_addToken_0 rfl 0 rfl ?_
  refine ea_getI (pc := 1) dX5_addToken_1 ec_5 (k := 7) (Nat.le_of_ble_eq_true rfl) rfl (Or.inl ew_301) (hs.1 22 (by decide)).1 (hs.1 22 (by decide)).2.1 ?_
  refine ea_aload_n (pc := 4) dX5_addToken_4 rfl 0 rfl ?_
  refine ea_getR (pc := 5) dX5_addToken_5 ec_5 (k := 4) (Nat.le_of_ble_eq_true rfl) rfl (Or.inl ew_298) (hs.1 22 (by decide)).1 (hs.1 22 (by decide)).2.1 (hs.2 22 4 rfl) ?_
  refine ea_alen (pc := 8) dX5_addToken_8 (hs.1 24 (by decide)).1 (hs.1 24 (by decide)).2.1 (by decide) (by decide) ?_
  refine ea_tops (by rw [(hs.1 24 (by decide)).2.2]; rfl : vI (Int32.ofNat (ea_l h (b0 + 24))) = vI 601) ?_
  refine ea_icmp_ge (pc := 9) (tgt := 52) dX5_addToken_9 rfl (fun c8 => ?_) (fun c8 => ?_)
  · have EY := EY.trans (if_pos c8)
    subst EY
    exact ea_return (pc := 52) dX5_addToken_52 rfl
  · have EY := EY.trans (if_neg c8)
    have K := K.2 c8
    refine ea_aload_n (pc := 12) dX5_addToken_12 rfl 0 rfl ?_
    refine ea_getR (pc := 13) dX5_addToken_13 ec_5 (k := 4) (Nat.le_of_ble_eq_true rfl) rfl (Or.inl ew_298) (hs.1 22 (by decide)).1 (hs.1 22 (by decide)).2.1 (hs.2 22 4 rfl) ?_
    refine ea_aload_n (pc := 16) dX5_addToken_16 rfl 0 rfl ?_
    refine ea_getI (pc := 17) dX5_addToken_17 ec_5 (k := 7) (Nat.le_of_ble_eq_true rfl) rfl (Or.inl ew_301) (hs.1 22 (by decide)).1 (hs.1 22 (by decide)).2.1 ?_
    refine ea_iload_n (pc := 20) dX5_addToken_20 rfl 1 rfl ?_
    obtain ⟨z1, K⟩ := K
    refine ea_iast (pc := 21) dX5_addToken_21 (hs.1 24 (by decide)).1 (hs.1 24 (by decide)).2.1 (ea_vpl (hs.1 24 (by decide)).2.2 z1) ?_
    have hs2 : ShC b0 (ea_wi h (b0 + 24) (Int32.toNatClampNeg (ea_i h (b0 + 22) 7)) x1) := ShC_wi hs
    refine ea_aload_n (pc := 22) dX5_addToken_22 rfl 0 rfl ?_
    refine ea_getR (pc := 23) dX5_addToken_23 ec_5 (k := 5) (Nat.le_of_ble_eq_true rfl) rfl (Or.inl ew_299) (hs2.1 22 (by decide)).1 (hs2.1 22 (by decide)).2.1 (hs2.2 22 5 rfl) ?_
    refine ea_aload_n (pc := 26) dX5_addToken_26 rfl 0 rfl ?_
    refine ea_getI (pc := 27) dX5_addToken_27 ec_5 (k := 7) (Nat.le_of_ble_eq_true rfl) rfl (Or.inl ew_301) (hs2.1 22 (by decide)).1 (hs2.1 22 (by decide)).2.1 ?_
    refine ea_iload_n (pc := 30) dX5_addToken_30 rfl 2 rfl ?_
    obtain ⟨z3, K⟩ := K
    refine ea_iast (pc := 31) dX5_addToken_31 (hs2.1 25 (by decide)).1 (hs2.1 25 (by decide)).2.1 (ea_vpl (hs2.1 25 (by decide)).2.2 z3) ?_
    have hs4 : ShC b0 (ea_wi (ea_wi h (b0 + 24) (Int32.toNatClampNeg (ea_i h (b0 + 22) 7)) x1) (b0 + 25) (Int32.toNatClampNeg (ea_i (ea_wi h (b0 + 24) (Int32.toNatClampNeg (ea_i h (b0 + 22) 7)) x1) (b0 + 22) 7)) x2) := ShC_wi hs2
    refine ea_aload_n (pc := 32) dX5_addToken_32 rfl 0 rfl ?_
    refine ea_getR (pc := 33) dX5_addToken_33 ec_5 (k := 6) (Nat.le_of_ble_eq_true rfl) rfl (Or.inl ew_300) (hs4.1 22 (by decide)).1 (hs4.1 22 (by decide)).2.1 (hs4.2 22 6 rfl) ?_
    refine ea_aload_n (pc := 36) dX5_addToken_36 rfl 0 rfl ?_
    refine ea_getI (pc := 37) dX5_addToken_37 ec_5 (k := 7) (Nat.le_of_ble_eq_true rfl) rfl (Or.inl ew_301) (hs4.1 22 (by decide)).1 (hs4.1 22 (by decide)).2.1 ?_
    refine ea_iload_n (pc := 40) dX5_addToken_40 rfl 3 rfl ?_
    have z5 := K
    refine ea_iast (pc := 41) dX5_addToken_41 (hs4.1 26 (by decide)).1 (hs4.1 26 (by decide)).2.1 (ea_vpl (hs4.1 26 (by decide)).2.2 z5) ?_
    have hs6 : ShC b0 (ea_wi (ea_wi (ea_wi h (b0 + 24) (Int32.toNatClampNeg (ea_i h (b0 + 22) 7)) x1) (b0 + 25) (Int32.toNatClampNeg (ea_i (ea_wi h (b0 + 24) (Int32.toNatClampNeg (ea_i h (b0 + 22) 7)) x1) (b0 + 22) 7)) x2) (b0 + 26) (Int32.toNatClampNeg (ea_i (ea_wi (ea_wi h (b0 + 24) (Int32.toNatClampNeg (ea_i h (b0 + 22) 7)) x1) (b0 + 25) (Int32.toNatClampNeg (ea_i (ea_wi h (b0 + 24) (Int32.toNatClampNeg (ea_i h (b0 + 22) 7)) x1) (b0 + 22) 7)) x2) (b0 + 22) 7)) x3) := ShC_wi hs4
    refine ea_aload_n (pc := 42) dX5_addToken_42 rfl 0 rfl ?_
    refine ea_dup (pc := 43) dX5_addToken_43 rfl ?_
    refine ea_getI (pc := 44) dX5_addToken_44 ec_5 (k := 7) (Nat.le_of_ble_eq_true rfl) rfl (Or.inl ew_301) (hs6.1 22 (by decide)).1 (hs6.1 22 (by decide)).2.1 ?_
    refine ea_iconst (pc := 47) dX5_addToken_47 (v := 1) rfl ?_
    refine ea_iadd (pc := 48) dX5_addToken_48 ?_
    refine ea_putI (pc := 49) dX5_addToken_49 ec_5 (k := 7) (Nat.le_of_ble_eq_true rfl) rfl (Or.inl ⟨rfl, Or.inl ew_301⟩) rfl rfl (hs6.1 22 (by decide)).1 (hs6.1 22 (by decide)).2.1 ?_
    have hs7 : ShC b0 (ea_wi (ea_wi (ea_wi (ea_wi h (b0 + 24) (Int32.toNatClampNeg (ea_i h (b0 + 22) 7)) x1) (b0 + 25) (Int32.toNatClampNeg (ea_i (ea_wi h (b0 + 24) (Int32.toNatClampNeg (ea_i h (b0 + 22) 7)) x1) (b0 + 22) 7)) x2) (b0 + 26) (Int32.toNatClampNeg (ea_i (ea_wi (ea_wi h (b0 + 24) (Int32.toNatClampNeg (ea_i h (b0 + 22) 7)) x1) (b0 + 25) (Int32.toNatClampNeg (ea_i (ea_wi h (b0 + 24) (Int32.toNatClampNeg (ea_i h (b0 + 22) 7)) x1) (b0 + 22) 7)) x2) (b0 + 22) 7)) x3) (b0 + 22) 7 ((ea_i (ea_wi (ea_wi (ea_wi h (b0 + 24) (Int32.toNatClampNeg (ea_i h (b0 + 22) 7)) x1) (b0 + 25) (Int32.toNatClampNeg (ea_i (ea_wi h (b0 + 24) (Int32.toNatClampNeg (ea_i h (b0 + 22) 7)) x1) (b0 + 22) 7)) x2) (b0 + 26) (Int32.toNatClampNeg (ea_i (ea_wi (ea_wi h (b0 + 24) (Int32.toNatClampNeg (ea_i h (b0 + 22) 7)) x1) (b0 + 25) (Int32.toNatClampNeg (ea_i (ea_wi h (b0 + 24) (Int32.toNatClampNeg (ea_i h (b0 + 22) 7)) x1) (b0 + 22) 7)) x2) (b0 + 22) 7)) x3) (b0 + 22) 7) + (1 : Int32))) := ShC_wi hs6
    subst EY
    exact ea_return (pc := 52) dX5_addToken_52 rfl
noncomputable def vX5_isLetter (x0 : Int32) (h : ea_H) : Int32 := (if x0 < (97 : Int32) then (if x0 < (65 : Int32) then (0 : Int32) else (if (90 : Int32) < x0 then (0 : Int32) else (1 : Int32))) else (if x0 ≤ (122 : Int32) then (1 : Int32) else (if x0 < (65 : Int32) then (0 : Int32) else (if (90 : Int32) < x0 then (0 : Int32) else (1 : Int32)))))
theorem bo_vX5_isLetter (x0 : Int32) (h : ea_H) : vX5_isLetter x0 h = 0 ∨ vX5_isLetter x0 h = 1 := (ea_itB (ea_itB (Or.inl rfl) (ea_itB (Or.inl rfl) (Or.inr rfl))) (ea_itB (Or.inr rfl) (ea_itB (Or.inl rfl) (ea_itB (Or.inl rfl) (Or.inr rfl)))))
theorem sX5_isLetter {d : Nat} {x0 : Int32} {h : ea_H} (hd : 1 ≤ d) : ea_Met mX5_isLetter d [vI x0] h (some (vI (vX5_isLetter x0 h))) h := by
  obtain ⟨X, EX⟩ : ∃ z, z = vX5_isLetter x0 h := ⟨_, rfl⟩
  rw [← EX]
  unfold vX5_isLetter at EX
  refine ea_enter rfl (Nat.le_of_ble_eq_true rfl) ?_
  refine ea_iload_n (pc := 0) dX5_isLetter_0 rfl 0 rfl ?_
  refine ea_bipush (pc := 1) dX5_isLetter_1 (v := 97) rfl ?_
  refine ea_icmp_lt (pc := 3) (tgt := 12) dX5_isLetter_3 rfl (fun c6 => ?_) (fun c6 => ?_)
  · have EX := EX.trans (if_pos c6)
    refine ea_iload_n (pc := 12) dX5_isLetter_12 rfl 0 rfl ?_
    refine ea_bipush (pc := 13) dX5_isLetter_13 (v := 65) rfl ?_
    refine ea_icmp_lt (pc := 15) (tgt := 28) dX5_isLetter_15 rfl (fun c2 => ?_) (fun c2 => ?_)
    · have EX := EX.trans (if_pos c2)
      refine ea_iconst (pc := 28) dX5_isLetter_28 (v := 0) rfl ?_
      subst EX
      exact ea_ireturn (pc := 29) dX5_isLetter_29 rfl (ea_bn (Or.inl rfl))
    · have EX := EX.trans (if_neg c2)
      refine ea_iload_n (pc := 18) dX5_isLetter_18 rfl 0 rfl ?_
      refine ea_bipush (pc := 19) dX5_isLetter_19 (v := 90) rfl ?_
      refine ea_icmp_gt (pc := 21) (tgt := 28) dX5_isLetter_21 rfl (fun c1 => ?_) (fun c1 => ?_)
      · have EX := EX.trans (if_pos c1)
        refine ea_iconst (pc := 28) dX5_isLetter_28 (v := 0) rfl ?_
        subst EX
        exact ea_ireturn (pc := 29) dX5_isLetter_29 rfl (ea_bn (Or.inl rfl))
      · have EX := EX.trans (if_neg c1)
        refine ea_iconst (pc := 24) dX5_isLetter_24 (v := 1) rfl ?_
        refine ea_goto (pc := 25) (tgt := 29) dX5_isLetter_25 rfl ?_
        subst EX
        exact ea_ireturn (pc := 29) dX5_isLetter_29 rfl (ea_bn (Or.inr rfl))
  · have EX := EX.trans (if_neg c6)
    refine ea_iload_n (pc := 6) dX5_isLetter_6 rfl 0 rfl ?_
    refine ea_bipush (pc := 7) dX5_isLetter_7 (v := 122) rfl ?_
    refine ea_icmp_le (pc := 9) (tgt := 24) dX5_isLetter_9 rfl (fun c5 => ?_) (fun c5 => ?_)
    · have EX := EX.trans (if_pos c5)
      refine ea_iconst (pc := 24) dX5_isLetter_24 (v := 1) rfl ?_
      refine ea_goto (pc := 25) (tgt := 29) dX5_isLetter_25 rfl ?_
      subst EX
      exact ea_ireturn (pc := 29) dX5_isLetter_29 rfl (ea_bn (Or.inr rfl))
    · have EX := EX.trans (if_neg c5)
      refine ea_iload_n (pc := 12) dX5_isLetter_12 rfl 0 rfl ?_
      refine ea_bipush (pc := 13) dX5_isLetter_13 (v := 65) rfl ?_
      refine ea_icmp_lt (pc := 15) (tgt := 28) dX5_isLetter_15 rfl (fun c4 => ?_) (fun c4 => ?_)
      · have EX := EX.trans (if_pos c4)
        refine ea_iconst (pc := 28) dX5_isLetter_28 (v := 0) rfl ?_
        subst EX
        exact ea_ireturn (pc := 29) dX5_isLetter_29 rfl (ea_bn (Or.inl rfl))
      · have EX := EX.trans (if_neg c4)
        refine ea_iload_n (pc := 18) dX5_isLetter_18 rfl 0 rfl ?_
        refine ea_bipush (pc := 19) dX5_isLetter_19 (v := 90) rfl ?_
        refine ea_icmp_gt (pc := 21) (tgt := 28) dX5_isLetter_21 rfl (fun c3 => ?_) (fun c3 => ?_)
        · have EX := EX.trans (if_pos c3)
          refine ea_iconst (pc := 28) dX5_isLetter_28 (v := 0) rfl ?_
          subst EX
          exact ea_ireturn (pc := 29) dX5_isLetter_29 rfl (ea_bn (Or.inl rfl))
        · have EX := EX.trans (if_neg c3)
          refine ea_iconst (pc := 24) dX5_isLetter_24 (v := 1) rfl ?_
          refine ea_goto (pc := 25) (tgt := 29) dX5_isLetter_25 rfl ?_
          subst EX
          exact ea_ireturn (pc := 29) dX5_isLetter_29 rfl (ea_bn (Or.inr rfl))
noncomputable def vX5_isDigit (x0 : Int32) (h : ea_H) : Int32 := (if x0 < (48 : Int32) then (0 : Int32) else (if (57 : Int32) < x0 then (0 : Int32) else (1 : Int32)))
theorem bo_vX5_isDigit (x0 : Int32) (h : ea_H) : vX5_isDigit x0 h = 0 ∨ vX5_isDigit x0 h = 1 := (ea_itB (Or.inl rfl) (ea_itB (Or.inl rfl) (Or.inr rfl)))
theorem sX5_isDigit {d : Nat} {x0 : Int32} {h : ea_H} (hd : 1 ≤ d) : ea_Met mX5_isDigit d [vI x0] h (some (vI (vX5_isDigit x0 h))) h := by
  obtain ⟨X, EX⟩ : ∃ z, z = vX5_isDigit x0 h := ⟨_, rfl⟩
  rw [← EX]
  unfold vX5_isDigit at EX
  refine ea_enter rfl (Nat.le_of_ble_eq_true rfl) ?_
  refine ea_iload_n (pc := 0) dX5_isDigit_0 rfl 0 rfl ?_
  refine ea_bipush (pc := 1) dX5_isDigit_1 (v := 48) rfl ?_
  refine ea_icmp_lt (pc := 3) (tgt := 16) dX5_isDigit_3 rfl (fun c2 => ?_) (fun c2 => ?_)
  · have EX := EX.trans (if_pos c2)
    refine ea_iconst (pc := 16) dX5_isDigit_16 (v := 0) rfl ?_
    subst EX
    exact ea_ireturn (pc := 17) dX5_isDigit_17 rfl (ea_bn (Or.inl rfl))
  · have EX := EX.trans (if_neg c2)
    refine ea_iload_n (pc := 6) dX5_isDigit_6 rfl 0 rfl ?_
    refine ea_bipush (pc := 7) dX5_isDigit_7 (v := 57) rfl ?_
    refine ea_icmp_gt (pc := 9) (tgt := 16) dX5_isDigit_9 rfl (fun c1 => ?_) (fun c1 => ?_)
    · have EX := EX.trans (if_pos c1)
      refine ea_iconst (pc := 16) dX5_isDigit_16 (v := 0) rfl ?_
      subst EX
      exact ea_ireturn (pc := 17) dX5_isDigit_17 rfl (ea_bn (Or.inl rfl))
    · have EX := EX.trans (if_neg c1)
      refine ea_iconst (pc := 12) dX5_isDigit_12 (v := 1) rfl ?_
      refine ea_goto (pc := 13) (tgt := 17) dX5_isDigit_13 rfl ?_
      subst EX
      exact ea_ireturn (pc := 17) dX5_isDigit_17 rfl (ea_bn (Or.inr rfl))
noncomputable def vX5_isSign (x0 : Int32) (h : ea_H) : Int32 := (if Int32.toInt x0 = 40 then (1 : Int32) else (if Int32.toInt x0 = 41 then (1 : Int32) else (if Int32.toInt x0 = 42 then (1 : Int32) else (if Int32.toInt x0 = 43 then (1 : Int32) else (if Int32.toInt x0 = 44 then (0 : Int32) else (if Int32.toInt x0 = 45 then (1 : Int32) else (if Int32.toInt x0 = 46 then (0 : Int32) else (if Int32.toInt x0 = 47 then (1 : Int32) else (if Int32.toInt x0 = 48 then (0 : Int32) else (if Int32.toInt x0 = 49 then (0 : Int32) else (if Int32.toInt x0 = 50 then (0 : Int32) else (if Int32.toInt x0 = 51 then (0 : Int32) else (if Int32.toInt x0 = 52 then (0 : Int32) else (if Int32.toInt x0 = 53 then (0 : Int32) else (if Int32.toInt x0 = 54 then (0 : Int32) else (if Int32.toInt x0 = 55 then (0 : Int32) else (if Int32.toInt x0 = 56 then (0 : Int32) else (if Int32.toInt x0 = 57 then (0 : Int32) else (if Int32.toInt x0 = 58 then (0 : Int32) else (if Int32.toInt x0 = 59 then (1 : Int32) else (if Int32.toInt x0 = 60 then (1 : Int32) else (if Int32.toInt x0 = 61 then (1 : Int32) else (if Int32.toInt x0 = 62 then (1 : Int32) else (0 : Int32))))))))))))))))))))))))
theorem bo_vX5_isSign (x0 : Int32) (h : ea_H) : vX5_isSign x0 h = 0 ∨ vX5_isSign x0 h = 1 := (ea_itB (Or.inr rfl) (ea_itB (Or.inr rfl) (ea_itB (Or.inr rfl) (ea_itB (Or.inr rfl) (ea_itB (Or.inl rfl) (ea_itB (Or.inr rfl) (ea_itB (Or.inl rfl) (ea_itB (Or.inr rfl) (ea_itB (Or.inl rfl) (ea_itB (Or.inl rfl) (ea_itB (Or.inl rfl) (ea_itB (Or.inl rfl) (ea_itB (Or.inl rfl) (ea_itB (Or.inl rfl) (ea_itB (Or.inl rfl) (ea_itB (Or.inl rfl) (ea_itB (Or.inl rfl) (ea_itB (Or.inl rfl) (ea_itB (Or.inl rfl) (ea_itB (Or.inr rfl) (ea_itB (Or.inr rfl) (ea_itB (Or.inr rfl) (ea_itB (Or.inr rfl) (Or.inl rfl))))))))))))))))))))))))
theorem sX5_isSign {d : Nat} {x0 : Int32} {h : ea_H} (hd : 1 ≤ d) : ea_Met mX5_isSign d [vI x0] h (some (vI (vX5_isSign x0 h))) h := by
  obtain ⟨X, EX⟩ : ∃ z, z = vX5_isSign x0 h := ⟨_, rfl⟩
  rw [← EX]
  unfold vX5_isSign at EX
  refine ea_enter rfl (Nat.le_of_ble_eq_true rfl) ?_
  refine ea_iload_n (pc := 0) dX5_isSign_0 rfl 0 rfl ?_
  by_cases qc1_0 : Int32.toInt x0 = 40
  · have EX := EX.trans (if_pos qc1_0)
    refine ea_tswIn (pc := 1) (tgt := 108) dX5_isSign_1 (by rw [qc1_0]; decide) (by rw [qc1_0]; decide) (by rw [qc1_0]; rfl) rfl ?_
    refine ea_iconst (pc := 108) dX5_isSign_108 (v := 1) rfl ?_
    subst EX
    exact ea_ireturn (pc := 109) dX5_isSign_109 rfl (ea_bn (Or.inr rfl))
  have EX := EX.trans (if_neg qc1_0)
  by_cases qc1_1 : Int32.toInt x0 = 41
  · have EX := EX.trans (if_pos qc1_1)
    refine ea_tswIn (pc := 1) (tgt := 108) dX5_isSign_1 (by rw [qc1_1]; decide) (by rw [qc1_1]; decide) (by rw [qc1_1]; rfl) rfl ?_
    refine ea_iconst (pc := 108) dX5_isSign_108 (v := 1) rfl ?_
    subst EX
    exact ea_ireturn (pc := 109) dX5_isSign_109 rfl (ea_bn (Or.inr rfl))
  have EX := EX.trans (if_neg qc1_1)
  by_cases qc1_2 : Int32.toInt x0 = 42
  · have EX := EX.trans (if_pos qc1_2)
    refine ea_tswIn (pc := 1) (tgt := 108) dX5_isSign_1 (by rw [qc1_2]; decide) (by rw [qc1_2]; decide) (by rw [qc1_2]; rfl) rfl ?_
    refine ea_iconst (pc := 108) dX5_isSign_108 (v := 1) rfl ?_
    subst EX
    exact ea_ireturn (pc := 109) dX5_isSign_109 rfl (ea_bn (Or.inr rfl))
  have EX := EX.trans (if_neg qc1_2)
  by_cases qc1_3 : Int32.toInt x0 = 43
  · have EX := EX.trans (if_pos qc1_3)
    refine ea_tswIn (pc := 1) (tgt := 108) dX5_isSign_1 (by rw [qc1_3]; decide) (by rw [qc1_3]; decide) (by rw [qc1_3]; rfl) rfl ?_
    refine ea_iconst (pc := 108) dX5_isSign_108 (v := 1) rfl ?_
    subst EX
    exact ea_ireturn (pc := 109) dX5_isSign_109 rfl (ea_bn (Or.inr rfl))
  have EX := EX.trans (if_neg qc1_3)
  by_cases qc1_4 : Int32.toInt x0 = 44
  · have EX := EX.trans (if_pos qc1_4)
    refine ea_tswIn (pc := 1) (tgt := 110) dX5_isSign_1 (by rw [qc1_4]; decide) (by rw [qc1_4]; decide) (by rw [qc1_4]; rfl) rfl ?_
    refine ea_iconst (pc := 110) dX5_isSign_110 (v := 0) rfl ?_
    subst EX
    exact ea_ireturn (pc := 111) dX5_isSign_111 rfl (ea_bn (Or.inl rfl))
  have EX := EX.trans (if_neg qc1_4)
  by_cases qc1_5 : Int32.toInt x0 = 45
  · have EX := EX.trans (if_pos qc1_5)
    refine ea_tswIn (pc := 1) (tgt := 108) dX5_isSign_1 (by rw [qc1_5]; decide) (by rw [qc1_5]; decide) (by rw [qc1_5]; rfl) rfl ?_
    refine ea_iconst (pc := 108) dX5_isSign_108 (v := 1) rfl ?_
    subst EX
    exact ea_ireturn (pc := 109) dX5_isSign_109 rfl (ea_bn (Or.inr rfl))
  have EX := EX.trans (if_neg qc1_5)
  by_cases qc1_6 : Int32.toInt x0 = 46
  · have EX := EX.trans (if_pos qc1_6)
    refine ea_tswIn (pc := 1) (tgt := 110) dX5_isSign_1 (by rw [qc1_6]; decide) (by rw [qc1_6]; decide) (by rw [qc1_6]; rfl) rfl ?_
    refine ea_iconst (pc := 110) dX5_isSign_110 (v := 0) rfl ?_
    subst EX
    exact ea_ireturn (pc := 111) dX5_isSign_111 rfl (ea_bn (Or.inl rfl))
  have EX := EX.trans (if_neg qc1_6)
  by_cases qc1_7 : Int32.toInt x0 = 47
  · have EX := EX.trans (if_pos qc1_7)
    refine ea_tswIn (pc := 1) (tgt := 108) dX5_isSign_1 (by rw [qc1_7]; decide) (by rw [qc1_7]; decide) (by rw [qc1_7]; rfl) rfl ?_
    refine ea_iconst (pc := 108) dX5_isSign_108 (v := 1) rfl ?_
    subst EX
    exact ea_ireturn (pc := 109) dX5_isSign_109 rfl (ea_bn (Or.inr rfl))
  have EX := EX.trans (if_neg qc1_7)
  by_cases qc1_8 : Int32.toInt x0 = 48
  · have EX := EX.trans (if_pos qc1_8)
    refine ea_tswIn (pc := 1) (tgt := 110) dX5_isSign_1 (by rw [qc1_8]; decide) (by rw [qc1_8]; decide) (by rw [qc1_8]; rfl) rfl ?_
    refine ea_iconst (pc := 110) dX5_isSign_110 (v := 0) rfl ?_
    subst EX
    exact ea_ireturn (pc := 111) dX5_isSign_111 rfl (ea_bn (Or.inl rfl))
  have EX := EX.trans (if_neg qc1_8)
  by_cases qc1_9 : Int32.toInt x0 = 49
  · have EX := EX.trans (if_pos qc1_9)
    refine ea_tswIn (pc := 1) (tgt := 110) dX5_isSign_1 (by rw [qc1_9]; decide) (by rw [qc1_9]; decide) (by rw [qc1_9]; rfl) rfl ?_
    refine ea_iconst (pc := 110) dX5_isSign_110 (v := 0) rfl ?_
    subst EX
    exact ea_ireturn (pc := 111) dX5_isSign_111 rfl (ea_bn (Or.inl rfl))
  have EX := EX.trans (if_neg qc1_9)
  by_cases qc1_10 : Int32.toInt x0 = 50
  · have EX := EX.trans (if_pos qc1_10)
    refine ea_tswIn (pc := 1) (tgt := 110) dX5_isSign_1 (by rw [qc1_10]; decide) (by rw [qc1_10]; decide) (by rw [qc1_10]; rfl) rfl ?_
    refine ea_iconst (pc := 110) dX5_isSign_110 (v := 0) rfl ?_
    subst EX
    exact ea_ireturn (pc := 111) dX5_isSign_111 rfl (ea_bn (Or.inl rfl))
  have EX := EX.trans (if_neg qc1_10)
  by_cases qc1_11 : Int32.toInt x0 = 51
  · have EX := EX.trans (if_pos qc1_11)
    refine ea_tswIn (pc := 1) (tgt := 110) dX5_isSign_1 (by rw [qc1_11]; decide) (by rw [qc1_11]; decide) (by rw [qc1_11]; rfl) rfl ?_
    refine ea_iconst (pc := 110) dX5_isSign_110 (v := 0) rfl ?_
    subst EX
    exact ea_ireturn (pc := 111) dX5_isSign_111 rfl (ea_bn (Or.inl rfl))
  have EX := EX.trans (if_neg qc1_11)
  by_cases qc1_12 : Int32.toInt x0 = 52
  · have EX := EX.trans (if_pos qc1_12)
    refine ea_tswIn (pc := 1) (tgt := 110) dX5_isSign_1 (by rw [qc1_12]; decide) (by rw [qc1_12]; decide) (by rw [qc1_12]; rfl) rfl ?_
    refine ea_iconst (pc := 110) dX5_isSign_110 (v := 0) rfl ?_
    subst EX
    exact ea_ireturn (pc := 111) dX5_isSign_111 rfl (ea_bn (Or.inl rfl))
  have EX := EX.trans (if_neg qc1_12)
  by_cases qc1_13 : Int32.toInt x0 = 53
  · have EX := EX.trans (if_pos qc1_13)
    refine ea_tswIn (pc := 1) (tgt := 110) dX5_isSign_1 (by rw [qc1_13]; decide) (by rw [qc1_13]; decide) (by rw [qc1_13]; rfl) rfl ?_
    refine ea_iconst (pc := 110) dX5_isSign_110 (v := 0) rfl ?_
    subst EX
    exact ea_ireturn (pc := 111) dX5_isSign_111 rfl (ea_bn (Or.inl rfl))
  have EX := EX.trans (if_neg qc1_13)
  by_cases qc1_14 : Int32.toInt x0 = 54
  · have EX := EX.trans (if_pos qc1_14)
    refine ea_tswIn (pc := 1) (tgt := 110) dX5_isSign_1 (by rw [qc1_14]; decide) (by rw [qc1_14]; decide) (by rw [qc1_14]; rfl) rfl ?_
    refine ea_iconst (pc := 110) dX5_isSign_110 (v := 0) rfl ?_
    subst EX
    exact ea_ireturn (pc := 111) dX5_isSign_111 rfl (ea_bn (Or.inl rfl))
  have EX := EX.trans (if_neg qc1_14)
  by_cases qc1_15 : Int32.toInt x0 = 55
  · have EX := EX.trans (if_pos qc1_15)
    refine ea_tswIn (pc := 1) (tgt := 110) dX5_isSign_1 (by rw [qc1_15]; decide) (by rw [qc1_15]; decide) (by rw [qc1_15]; rfl) rfl ?_
    refine ea_iconst (pc := 110) dX5_isSign_110 (v := 0) rfl ?_
    subst EX
    exact ea_ireturn (pc := 111) dX5_isSign_111 rfl (ea_bn (Or.inl rfl))
  have EX := EX.trans (if_neg qc1_15)
  by_cases qc1_16 : Int32.toInt x0 = 56
  · have EX := EX.trans (if_pos qc1_16)
    refine ea_tswIn (pc := 1) (tgt := 110) dX5_isSign_1 (by rw [qc1_16]; decide) (by rw [qc1_16]; decide) (by rw [qc1_16]; rfl) rfl ?_
    refine ea_iconst (pc := 110) dX5_isSign_110 (v := 0) rfl ?_
    subst EX
    exact ea_ireturn (pc := 111) dX5_isSign_111 rfl (ea_bn (Or.inl rfl))
  have EX := EX.trans (if_neg qc1_16)
  by_cases qc1_17 : Int32.toInt x0 = 57
  · have EX := EX.trans (if_pos qc1_17)
    refine ea_tswIn (pc := 1) (tgt := 110) dX5_isSign_1 (by rw [qc1_17]; decide) (by rw [qc1_17]; decide) (by rw [qc1_17]; rfl) rfl ?_
    refine ea_iconst (pc := 110) dX5_isSign_110 (v := 0) rfl ?_
    subst EX
    exact ea_ireturn (pc := 111) dX5_isSign_111 rfl (ea_bn (Or.inl rfl))
  have EX := EX.trans (if_neg qc1_17)
  by_cases qc1_18 : Int32.toInt x0 = 58
  · have EX := EX.trans (if_pos qc1_18)
    refine ea_tswIn (pc := 1) (tgt := 110) dX5_isSign_1 (by rw [qc1_18]; decide) (by rw [qc1_18]; decide) (by rw [qc1_18]; rfl) rfl ?_
    refine ea_iconst (pc := 110) dX5_isSign_110 (v := 0) rfl ?_
    subst EX
    exact ea_ireturn (pc := 111) dX5_isSign_111 rfl (ea_bn (Or.inl rfl))
  have EX := EX.trans (if_neg qc1_18)
  by_cases qc1_19 : Int32.toInt x0 = 59
  · have EX := EX.trans (if_pos qc1_19)
    refine ea_tswIn (pc := 1) (tgt := 108) dX5_isSign_1 (by rw [qc1_19]; decide) (by rw [qc1_19]; decide) (by rw [qc1_19]; rfl) rfl ?_
    refine ea_iconst (pc := 108) dX5_isSign_108 (v := 1) rfl ?_
    subst EX
    exact ea_ireturn (pc := 109) dX5_isSign_109 rfl (ea_bn (Or.inr rfl))
  have EX := EX.trans (if_neg qc1_19)
  by_cases qc1_20 : Int32.toInt x0 = 60
  · have EX := EX.trans (if_pos qc1_20)
    refine ea_tswIn (pc := 1) (tgt := 108) dX5_isSign_1 (by rw [qc1_20]; decide) (by rw [qc1_20]; decide) (by rw [qc1_20]; rfl) rfl ?_
    refine ea_iconst (pc := 108) dX5_isSign_108 (v := 1) rfl ?_
    subst EX
    exact ea_ireturn (pc := 109) dX5_isSign_109 rfl (ea_bn (Or.inr rfl))
  have EX := EX.trans (if_neg qc1_20)
  by_cases qc1_21 : Int32.toInt x0 = 61
  · have EX := EX.trans (if_pos qc1_21)
    refine ea_tswIn (pc := 1) (tgt := 108) dX5_isSign_1 (by rw [qc1_21]; decide) (by rw [qc1_21]; decide) (by rw [qc1_21]; rfl) rfl ?_
    refine ea_iconst (pc := 108) dX5_isSign_108 (v := 1) rfl ?_
    subst EX
    exact ea_ireturn (pc := 109) dX5_isSign_109 rfl (ea_bn (Or.inr rfl))
  have EX := EX.trans (if_neg qc1_21)
  by_cases qc1_22 : Int32.toInt x0 = 62
  · have EX := EX.trans (if_pos qc1_22)
    refine ea_tswIn (pc := 1) (tgt := 108) dX5_isSign_1 (by rw [qc1_22]; decide) (by rw [qc1_22]; decide) (by rw [qc1_22]; rfl) rfl ?_
    refine ea_iconst (pc := 108) dX5_isSign_108 (v := 1) rfl ?_
    subst EX
    exact ea_ireturn (pc := 109) dX5_isSign_109 rfl (ea_bn (Or.inr rfl))
  have EX := EX.trans (if_neg qc1_22)
  refine ea_tswOut (pc := 1) (tgt := 110) dX5_isSign_1 (ec_sw_40_62 qc1_0 qc1_1 qc1_2 qc1_3 qc1_4 qc1_5 qc1_6 qc1_7 qc1_8 qc1_9 qc1_10 qc1_11 qc1_12 qc1_13 qc1_14 qc1_15 qc1_16 qc1_17 qc1_18 qc1_19 qc1_20 qc1_21 qc1_22) rfl ?_
  refine ea_iconst (pc := 110) dX5_isSign_110 (v := 0) rfl ?_
  subst EX
  exact ea_ireturn (pc := 111) dX5_isSign_111 rfl (ea_bn (Or.inl rfl))
noncomputable def vX6_has (b0 : Nat) (x1 : Int32) (h : ea_H) : Int32 := (if x1 < (0 : Int32) then (0 : Int32) else (if (ea_i h (b0 + 1) 0) ≤ x1 then (0 : Int32) else (1 : Int32)))
theorem bo_vX6_has (b0 : Nat) (x1 : Int32) (h : ea_H) : vX6_has b0 x1 h = 0 ∨ vX6_has b0 x1 h = 1 := (ea_itB (Or.inl rfl) (ea_itB (Or.inl rfl) (Or.inr rfl)))
theorem sX6_has {d : Nat} {b0 : Nat} {x1 : Int32} {h : ea_H} (hd : 1 ≤ d) (hs : ShC b0 h) : ea_Met mX6_has d [vR (some (b0 + 1)), vI x1] h (some (vI (vX6_has b0 x1 h))) h := by
  obtain ⟨X, EX⟩ : ∃ z, z = vX6_has b0 x1 h := ⟨_, rfl⟩
  rw [← EX]
  unfold vX6_has at EX
  refine ea_enter rfl (Nat.le_of_ble_eq_true rfl) ?_
  refine ea_iload_n (pc := 0) dX6_has_0 rfl 1 rfl ?_
  refine ea_if_lt (pc := 1) (tgt := 16) dX6_has_1 rfl (fun c2 => ?_) (fun c2 => ?_)
  · have EX := EX.trans (if_pos c2)
    refine ea_iconst (pc := 16) dX6_has_16 (v := 0) rfl ?_
    subst EX
    exact ea_ireturn (pc := 17) dX6_has_17 rfl (ea_bn (Or.inl rfl))
  · have EX := EX.trans (if_neg c2)
    refine ea_iload_n (pc := 4) dX6_has_4 rfl 1 rfl ?_
    refine ea_aload_n (pc := 5) dX6_has_5 rfl 0 rfl ?_
    refine ea_getI (pc := 6) dX6_has_6 ec_6 (k := 0) (Nat.le_of_ble_eq_true rfl) rfl (Or.inl ew_157) (hs.1 1 (by decide)).1 (hs.1 1 (by decide)).2.1 ?_
    refine ea_icmp_ge (pc := 9) (tgt := 16) dX6_has_9 rfl (fun c1 => ?_) (fun c1 => ?_)
    · have EX := EX.trans (if_pos c1)
      refine ea_iconst (pc := 16) dX6_has_16 (v := 0) rfl ?_
      subst EX
      exact ea_ireturn (pc := 17) dX6_has_17 rfl (ea_bn (Or.inl rfl))
    · have EX := EX.trans (if_neg c1)
      refine ea_iconst (pc := 12) dX6_has_12 (v := 1) rfl ?_
      refine ea_goto (pc := 13) (tgt := 17) dX6_has_13 rfl ?_
      subst EX
      exact ea_ireturn (pc := 17) dX6_has_17 rfl (ea_bn (Or.inr rfl))
noncomputable def vX6_between (b0 : Nat) (x1 : Int32) (x2 : Int32) (h : ea_H) : Int32 := (if (ea_i h (b0 + 3) (Int32.toNatClampNeg (((12 : Int32) * x1) + x2))) < (1000000 : Int32) then (ea_i h (b0 + 3) (Int32.toNatClampNeg (((12 : Int32) * x1) + x2))) else ((-1) : Int32))
def okX6_between (b0 : Nat) (x1 : Int32) (x2 : Int32) (h : ea_H) : Prop := vp_in (((12 : Int32) * x1) + x2) 144
theorem sX6_between {d : Nat} {b0 : Nat} {x1 : Int32} {x2 : Int32} {h : ea_H} (hd : 1 ≤ d) (hs : ShC b0 h) (K : okX6_between b0 x1 x2 h) : ea_Met mX6_between d [vR (some (b0 + 1)), vI x1, vI x2] h (some (vI (vX6_between b0 x1 x2 h))) h := by
  obtain ⟨X, EX⟩ : ∃ z, z = vX6_between b0 x1 x2 h := ⟨_, rfl⟩
  rw [← EX]
  unfold vX6_between at EX
  unfold okX6_between at K
  refine ea_enter rfl (Nat.le_of_ble_eq_true rfl) ?_
  refine ea_aload_n (pc := 0) dX6_between_0 rfl 0 rfl ?_
  refine ea_getR (pc := 1) dX6_between_1 ec_6 (k := 2) (Nat.le_of_ble_eq_true rfl) rfl (Or.inl ew_159) (hs.1 1 (by decide)).1 (hs.1 1 (by decide)).2.1 (hs.2 1 2 rfl) ?_
  refine ea_bipush (pc := 4) dX6_between_4 (v := 12) rfl ?_
  refine ea_iload_n (pc := 6) dX6_between_6 rfl 1 rfl ?_
  refine ea_imul (pc := 7) dX6_between_7 ?_
  refine ea_iload_n (pc := 8) dX6_between_8 rfl 2 rfl ?_
  refine ea_iadd (pc := 9) dX6_between_9 ?_
  have z1 := K
  refine ea_iald (pc := 10) dX6_between_10 (hs.1 3 (by decide)).1 (hs.1 3 (by decide)).2.1 (ea_vpl (hs.1 3 (by decide)).2.2 z1) ?_
  refine ea_istore_n (pc := 11) (lv' := [(3, vI (ea_i h (b0 + 3) (Int32.toNatClampNeg (((12 : Int32) * x1) + x2))))]) dX6_between_11 rfl (Nat.le_of_ble_eq_true rfl) [0] rfl ?_
  refine ea_iload_n (pc := 12) dX6_between_12 rfl 0 rfl ?_
  refine ea_ldc (pc := 13) dX6_between_13 ew_142 ?_
  refine ea_icmp_lt (pc := 15) (tgt := 22) dX6_between_15 rfl (fun c2 => ?_) (fun c2 => ?_)
  · have EX := EX.trans (if_pos c2)
    refine ea_iload_n (pc := 22) dX6_between_22 rfl 0 rfl ?_
    subst EX
    exact ea_ireturn (pc := 23) dX6_between_23 rfl rfl
  · have EX := EX.trans (if_neg c2)
    refine ea_iconst (pc := 18) dX6_between_18 (v := (-1)) rfl ?_
    refine ea_goto (pc := 19) (tgt := 23) dX6_between_19 rfl ?_
    subst EX
    exact ea_ireturn (pc := 23) dX6_between_23 rfl rfl
noncomputable def vX6_isCross (b0 : Nat) (x1 : Int32) (x2 : Int32) (h : ea_H) : Int32 := (if x1 = (0 : Int32) then (0 : Int32) else (if x2 = (0 : Int32) then (0 : Int32) else (if (1000000 : Int32) ≤ (ea_i h (b0 + 3) (Int32.toNatClampNeg (((12 : Int32) * x1) + x2))) then (0 : Int32) else (if (ea_i h (b0 + 4) (Int32.toNatClampNeg (((12 : Int32) * x1) + x2))) = (ea_i h (b0 + 3) (Int32.toNatClampNeg (((12 : Int32) * x1) + x2))) then (1 : Int32) else (0 : Int32)))))
def okX6_isCross (b0 : Nat) (x1 : Int32) (x2 : Int32) (h : ea_H) : Prop := vp_in (((12 : Int32) * x1) + x2) 144 ∧ ((x1 = (0 : Int32) → True) ∧ (¬ x1 = (0 : Int32) → (x2 = (0 : Int32) → True) ∧ (¬ x2 = (0 : Int32) → ((1000000 : Int32) ≤ (ea_i h (b0 + 3) (Int32.toNatClampNeg (((12 : Int32) * x1) + x2))) → True) ∧ (¬ (1000000 : Int32) ≤ (ea_i h (b0 + 3) (Int32.toNatClampNeg (((12 : Int32) * x1) + x2))) → vp_in (((12 : Int32) * x1) + x2) 144))))
theorem bo_vX6_isCross (b0 : Nat) (x1 : Int32) (x2 : Int32) (h : ea_H) : vX6_isCross b0 x1 x2 h = 0 ∨ vX6_isCross b0 x1 x2 h = 1 := (ea_itB (Or.inl rfl) (ea_itB (Or.inl rfl) (ea_itB (Or.inl rfl) (ea_itB (Or.inr rfl) (Or.inl rfl)))))
theorem sX6_isCross {d : Nat} {b0 : Nat} {x1 : Int32} {x2 : Int32} {h : ea_H} (hd : 1 ≤ d) (hs : ShC b0 h) (K : okX6_isCross b0 x1 x2 h) : ea_Met mX6_isCross d [vR (some (b0 + 1)), vI x1, vI x2] h (some (vI (vX6_isCross b0 x1 x2 h))) h := by
  obtain ⟨X, EX⟩ : ∃ z, z = vX6_isCross b0 x1 x2 h := ⟨_, rfl⟩
  rw [← EX]
  unfold vX6_isCross at EX
  unfold okX6_isCross at K
  refine ea_enter rfl (Nat.le_of_ble_eq_true rfl) ?_
  refine ea_aload_n (pc := 0) dX6_isCross_0 rfl 0 rfl ?_
  refine ea_getR (pc := 1) dX6_isCross_1 ec_6 (k := 2) (Nat.le_of_ble_eq_true rfl) rfl (Or.inl ew_159) (hs.1 1 (by decide)).1 (hs.1 1 (by decide)).2.1 (hs.2 1 2 rfl) ?_
  refine ea_bipush (pc := 4) dX6_isCross_4 (v := 12) rfl ?_
  refine ea_iload_n (pc := 6) dX6_isCross_6 rfl 1 rfl ?_
  refine ea_imul (pc := 7) dX6_isCross_7 ?_
  refine ea_iload_n (pc := 8) dX6_isCross_8 rfl 2 rfl ?_
  refine ea_iadd (pc := 9) dX6_isCross_9 ?_
  obtain ⟨z1, K⟩ := K
  refine ea_iald (pc := 10) dX6_isCross_10 (hs.1 3 (by decide)).1 (hs.1 3 (by decide)).2.1 (ea_vpl (hs.1 3 (by decide)).2.2 z1) ?_
  refine ea_istore_n (pc := 11) (lv' := [(0, vR (some (b0 + 1))), (1, vI x1), (2, vI x2), (3, vI (ea_i h (b0 + 3) (Int32.toNatClampNeg (((12 : Int32) * x1) + x2))))]) dX6_isCross_11 rfl (Nat.le_of_ble_eq_true rfl) [1, 2, 3, 0] rfl ?_
  refine ea_iload_n (pc := 12) dX6_isCross_12 rfl 1 rfl ?_
  refine ea_if_eq (pc := 13) (tgt := 45) dX6_isCross_13 rfl (fun c6 => ?_) (fun c6 => ?_)
  · have EX := EX.trans (if_pos c6)
    refine ea_iconst (pc := 45) dX6_isCross_45 (v := 0) rfl ?_
    subst EX
    exact ea_ireturn (pc := 46) dX6_isCross_46 rfl (ea_bn (Or.inl rfl))
  · have EX := EX.trans (if_neg c6)
    have K := K.2 c6
    refine ea_iload_n (pc := 16) dX6_isCross_16 rfl 2 rfl ?_
    refine ea_if_eq (pc := 17) (tgt := 45) dX6_isCross_17 rfl (fun c5 => ?_) (fun c5 => ?_)
    · have EX := EX.trans (if_pos c5)
      refine ea_iconst (pc := 45) dX6_isCross_45 (v := 0) rfl ?_
      subst EX
      exact ea_ireturn (pc := 46) dX6_isCross_46 rfl (ea_bn (Or.inl rfl))
    · have EX := EX.trans (if_neg c5)
      have K := K.2 c5
      refine ea_iload_n (pc := 20) dX6_isCross_20 rfl 3 rfl ?_
      refine ea_ldc (pc := 21) dX6_isCross_21 ew_142 ?_
      refine ea_icmp_ge (pc := 23) (tgt := 45) dX6_isCross_23 rfl (fun c4 => ?_) (fun c4 => ?_)
      · have EX := EX.trans (if_pos c4)
        refine ea_iconst (pc := 45) dX6_isCross_45 (v := 0) rfl ?_
        subst EX
        exact ea_ireturn (pc := 46) dX6_isCross_46 rfl (ea_bn (Or.inl rfl))
      · have EX := EX.trans (if_neg c4)
        have K := K.2 c4
        refine ea_aload_n (pc := 26) dX6_isCross_26 rfl 0 rfl ?_
        refine ea_getR (pc := 27) dX6_isCross_27 ec_6 (k := 3) (Nat.le_of_ble_eq_true rfl) rfl (Or.inl ew_160) (hs.1 1 (by decide)).1 (hs.1 1 (by decide)).2.1 (hs.2 1 3 rfl) ?_
        refine ea_bipush (pc := 30) dX6_isCross_30 (v := 12) rfl ?_
        refine ea_iload_n (pc := 32) dX6_isCross_32 rfl 1 rfl ?_
        refine ea_imul (pc := 33) dX6_isCross_33 ?_
        refine ea_iload_n (pc := 34) dX6_isCross_34 rfl 2 rfl ?_
        refine ea_iadd (pc := 35) dX6_isCross_35 ?_
        have z2 := K
        refine ea_iald (pc := 36) dX6_isCross_36 (hs.1 4 (by decide)).1 (hs.1 4 (by decide)).2.1 (ea_vpl (hs.1 4 (by decide)).2.2 z2) ?_
        refine ea_iload_n (pc := 37) dX6_isCross_37 rfl 3 rfl ?_
        refine ea_icmp_ne (pc := 38) (tgt := 45) dX6_isCross_38 rfl (fun c3 => ?_) (fun c3 => ?_)
        · have EX := EX.trans (if_neg c3)
          refine ea_iconst (pc := 45) dX6_isCross_45 (v := 0) rfl ?_
          subst EX
          exact ea_ireturn (pc := 46) dX6_isCross_46 rfl (ea_bn (Or.inl rfl))
        · have EX := EX.trans (if_pos c3)
          refine ea_iconst (pc := 41) dX6_isCross_41 (v := 1) rfl ?_
          refine ea_goto (pc := 42) (tgt := 46) dX6_isCross_42 rfl ?_
          subst EX
          exact ea_ireturn (pc := 46) dX6_isCross_46 rfl (ea_bn (Or.inr rfl))
noncomputable def wX7_take (b0 : Nat) (a0 : Nat) (x1 : Int32) (x2 : Int32) (h : ea_H) : ea_H := (if (Int32.ofNat (ea_l h (Option.getD (ea_r h a0 4) 0))) ≤ (ea_i h a0 2) then h else (ea_wi (ea_wi (ea_wi h (Option.getD (ea_r h a0 4) 0) (Int32.toNatClampNeg (ea_i h a0 2)) x1) a0 2 ((ea_i (ea_wi h (Option.getD (ea_r h a0 4) 0) (Int32.toNatClampNeg (ea_i h a0 2)) x1) a0 2) + (1 : Int32))) a0 3 ((ea_i (ea_wi (ea_wi h (Option.getD (ea_r h a0 4) 0) (Int32.toNatClampNeg (ea_i h a0 2)) x1) a0 2 ((ea_i (ea_wi h (Option.getD (ea_r h a0 4) 0) (Int32.toNatClampNeg (ea_i h a0 2)) x1) a0 2) + (1 : Int32))) a0 3) + x2)))
def okX7_take (b0 : Nat) (a0 : Nat) (x1 : Int32) (x2 : Int32) (h : ea_H) : Prop := (a0 < ea_n h ∧ ea_c h a0 = 7) ∧ ((a0 < ea_n h ∧ ea_c h a0 = 7) ∧ ((ea_r h a0 4) = some (Option.getD (ea_r h a0 4) 0) ∧ (((Option.getD (ea_r h a0 4) 0) < ea_n h ∧ ea_c h (Option.getD (ea_r h a0 4) 0) = 20) ∧ (((Int32.ofNat (ea_l h (Option.getD (ea_r h a0 4) 0))) ≤ (ea_i h a0 2) → True) ∧ (¬ (Int32.ofNat (ea_l h (Option.getD (ea_r h a0 4) 0))) ≤ (ea_i h a0 2) → (a0 < ea_n h ∧ ea_c h a0 = 7) ∧ ((a0 < ea_n h ∧ ea_c h a0 = 7) ∧ ((ea_r h a0 4) = some (Option.getD (ea_r h a0 4) 0) ∧ (((Option.getD (ea_r h a0 4) 0) < ea_n h ∧ ea_c h (Option.getD (ea_r h a0 4) 0) = 20) ∧ (vp_in (ea_i h a0 2) (ea_l h (Option.getD (ea_r h a0 4) 0)) ∧ ((a0 < ea_n (ea_wi h (Option.getD (ea_r h a0 4) 0) (Int32.toNatClampNeg (ea_i h a0 2)) x1) ∧ ea_c (ea_wi h (Option.getD (ea_r h a0 4) 0) (Int32.toNatClampNeg (ea_i h a0 2)) x1) a0 = 7) ∧ ((a0 < ea_n (ea_wi h (Option.getD (ea_r h a0 4) 0) (Int32.toNatClampNeg (ea_i h a0 2)) x1) ∧ ea_c (ea_wi h (Option.getD (ea_r h a0 4) 0) (Int32.toNatClampNeg (ea_i h a0 2)) x1) a0 = 7) ∧ ((a0 < ea_n (ea_wi (ea_wi h (Option.getD (ea_r h a0 4) 0) (Int32.toNatClampNeg (ea_i h a0 2)) x1) a0 2 ((ea_i (ea_wi h (Option.getD (ea_r h a0 4) 0) (Int32.toNatClampNeg (ea_i h a0 2)) x1) a0 2) + (1 : Int32))) ∧ ea_c (ea_wi (ea_wi h (Option.getD (ea_r h a0 4) 0) (Int32.toNatClampNeg (ea_i h a0 2)) x1) a0 2 ((ea_i (ea_wi h (Option.getD (ea_r h a0 4) 0) (Int32.toNatClampNeg (ea_i h a0 2)) x1) a0 2) + (1 : Int32))) a0 = 7) ∧ ((a0 < ea_n (ea_wi (ea_wi h (Option.getD (ea_r h a0 4) 0) (Int32.toNatClampNeg (ea_i h a0 2)) x1) a0 2 ((ea_i (ea_wi h (Option.getD (ea_r h a0 4) 0) (Int32.toNatClampNeg (ea_i h a0 2)) x1) a0 2) + (1 : Int32))) ∧ ea_c (ea_wi (ea_wi h (Option.getD (ea_r h a0 4) 0) (Int32.toNatClampNeg (ea_i h a0 2)) x1) a0 2 ((ea_i (ea_wi h (Option.getD (ea_r h a0 4) 0) (Int32.toNatClampNeg (ea_i h a0 2)) x1) a0 2) + (1 : Int32))) a0 = 7))))))))))))))
theorem shX7_take {b0 : Nat} {a0 : Nat} {x1 : Int32} {x2 : Int32} {h : ea_H} (hs : ShC b0 h) : ShC b0 (wX7_take b0 a0 x1 x2 h) := (ShC_it hs (ShC_wi (ShC_wi (ShC_wi hs))))
theorem sX7_take {d : Nat} {b0 : Nat} {a0 : Nat} {x1 : Int32} {x2 : Int32} {h : ea_H} (hd : 1 ≤ d) (hs : ShC b0 h) (K : okX7_take b0 a0 x1 x2 h) : ea_Met mX7_take d [vR (some a0), vI x1, vI x2] h none (wX7_take b0 a0 x1 x2 h) := by
  obtain ⟨Y, EY⟩ : ∃ z, z = wX7_take b0 a0 x1 x2 h := ⟨_, rfl⟩
  rw [← EY]
  unfold wX7_take at EY
  unfold okX7_take at K
  refine ea_enter rfl (Nat.le_of_ble_eq_true rfl) ?_
  refine ea_aload_n (pc := 0) dX7_take_0 rfl 0 rfl ?_
  obtain ⟨f1, K⟩ := K
  refine ea_getI (pc := 1) dX7_take_1 ec_7 (k := 2) (Nat.le_of_ble_eq_true rfl) rfl (Or.inl ew_1243) f1.1 f1.2 ?_
  refine ea_aload_n (pc := 4) dX7_take_4 rfl 0 rfl ?_
  obtain ⟨f2, K⟩ := K
  refine ea_getR (pc := 5) dX7_take_5 ec_7 (k := 4) (Nat.le_of_ble_eq_true rfl) rfl (Or.inl ew_1247) f2.1 f2.2 rfl ?_
  obtain ⟨e3, f4, K⟩ := K
  refine ea_deref0 e3 ?_
  refine ea_alen (pc := 8) dX7_take_8 f4.1 f4.2 (by decide) (by decide) ?_
  refine ea_icmp_ge (pc := 9) (tgt := 42) dX7_take_9 rfl (fun c17 => ?_) (fun c17 => ?_)
  · have EY := EY.trans (if_pos c17)
    subst EY
    exact ea_return (pc := 42) dX7_take_42 rfl
  · have EY := EY.trans (if_neg c17)
    have K := K.2 c17
    refine ea_aload_n (pc := 12) dX7_take_12 rfl 0 rfl ?_
    obtain ⟨f5, K⟩ := K
    refine ea_getR (pc := 13) dX7_take_13 ec_7 (k := 4) (Nat.le_of_ble_eq_true rfl) rfl (Or.inl ew_1247) f5.1 f5.2 rfl ?_
    refine ea_aload_n (pc := 16) dX7_take_16 rfl 0 rfl ?_
    obtain ⟨f6, K⟩ := K
    refine ea_getI (pc := 17) dX7_take_17 ec_7 (k := 2) (Nat.le_of_ble_eq_true rfl) rfl (Or.inl ew_1243) f6.1 f6.2 ?_
    refine ea_iload_n (pc := 20) dX7_take_20 rfl 1 rfl ?_
    obtain ⟨e7, f8, z9, K⟩ := K
    refine ea_deref2 e7 ?_
    refine ea_iast (pc := 21) dX7_take_21 f8.1 f8.2 z9 ?_
    have hs10 : ShC b0 (ea_wi h (Option.getD (ea_r h a0 4) 0) (Int32.toNatClampNeg (ea_i h a0 2)) x1) := ShC_wi hs
    refine ea_aload_n (pc := 22) dX7_take_22 rfl 0 rfl ?_
    refine ea_dup (pc := 23) dX7_take_23 rfl ?_
    obtain ⟨f11, K⟩ := K
    refine ea_getI (pc := 24) dX7_take_24 ec_7 (k := 2) (Nat.le_of_ble_eq_true rfl) rfl (Or.inl ew_1243) f11.1 f11.2 ?_
    refine ea_iconst (pc := 27) dX7_take_27 (v := 1) rfl ?_
    refine ea_iadd (pc := 28) dX7_take_28 ?_
    obtain ⟨f12, K⟩ := K
    refine ea_putI (pc := 29) dX7_take_29 ec_7 (k := 2) (Nat.le_of_ble_eq_true rfl) rfl (Or.inl ⟨rfl, Or.inl ew_1243⟩) rfl rfl f12.1 f12.2 ?_
    have hs13 : ShC b0 (ea_wi (ea_wi h (Option.getD (ea_r h a0 4) 0) (Int32.toNatClampNeg (ea_i h a0 2)) x1) a0 2 ((ea_i (ea_wi h (Option.getD (ea_r h a0 4) 0) (Int32.toNatClampNeg (ea_i h a0 2)) x1) a0 2) + (1 : Int32))) := ShC_wi hs10
    refine ea_aload_n (pc := 32) dX7_take_32 rfl 0 rfl ?_
    refine ea_dup (pc := 33) dX7_take_33 rfl ?_
    obtain ⟨f14, K⟩ := K
    refine ea_getI (pc := 34) dX7_take_34 ec_7 (k := 3) (Nat.le_of_ble_eq_true rfl) rfl (Or.inl ew_1245) f14.1 f14.2 ?_
    refine ea_iload_n (pc := 37) dX7_take_37 rfl 2 rfl ?_
    refine ea_iadd (pc := 38) dX7_take_38 ?_
    have f15 := K
    refine ea_putI (pc := 39) dX7_take_39 ec_7 (k := 3) (Nat.le_of_ble_eq_true rfl) rfl (Or.inl ⟨rfl, Or.inl ew_1245⟩) rfl rfl f15.1 f15.2 ?_
    have hs16 : ShC b0 (ea_wi (ea_wi (ea_wi h (Option.getD (ea_r h a0 4) 0) (Int32.toNatClampNeg (ea_i h a0 2)) x1) a0 2 ((ea_i (ea_wi h (Option.getD (ea_r h a0 4) 0) (Int32.toNatClampNeg (ea_i h a0 2)) x1) a0 2) + (1 : Int32))) a0 3 ((ea_i (ea_wi (ea_wi h (Option.getD (ea_r h a0 4) 0) (Int32.toNatClampNeg (ea_i h a0 2)) x1) a0 2 ((ea_i (ea_wi h (Option.getD (ea_r h a0 4) 0) (Int32.toNatClampNeg (ea_i h a0 2)) x1) a0 2) + (1 : Int32))) a0 3) + x2)) := ShC_wi hs13
    subst EY
    exact ea_return (pc := 42) dX7_take_42 rfl
noncomputable def vX7_letterAt (b0 : Nat) (a0 : Nat) (x1 : Int32) (h : ea_H) : Int32 := (if x1 < (0 : Int32) then ((-1) : Int32) else (if (ea_i h a0 2) ≤ x1 then ((-1) : Int32) else (ea_i h (Option.getD (ea_r h a0 4) 0) (Int32.toNatClampNeg x1))))
def okX7_letterAt (b0 : Nat) (a0 : Nat) (x1 : Int32) (h : ea_H) : Prop := (x1 < (0 : Int32) → True) ∧ (¬ x1 < (0 : Int32) → (a0 < ea_n h ∧ ea_c h a0 = 7) ∧ (((ea_i h a0 2) ≤ x1 → True) ∧ (¬ (ea_i h a0 2) ≤ x1 → (a0 < ea_n h ∧ ea_c h a0 = 7) ∧ ((ea_r h a0 4) = some (Option.getD (ea_r h a0 4) 0) ∧ (((Option.getD (ea_r h a0 4) 0) < ea_n h ∧ ea_c h (Option.getD (ea_r h a0 4) 0) = 20) ∧ (vp_in x1 (ea_l h (Option.getD (ea_r h a0 4) 0))))))))
theorem sX7_letterAt {d : Nat} {b0 : Nat} {a0 : Nat} {x1 : Int32} {h : ea_H} (hd : 1 ≤ d) (hs : ShC b0 h) (K : okX7_letterAt b0 a0 x1 h) : ea_Met mX7_letterAt d [vR (some a0), vI x1] h (some (vI (vX7_letterAt b0 a0 x1 h))) h := by
  obtain ⟨X, EX⟩ : ∃ z, z = vX7_letterAt b0 a0 x1 h := ⟨_, rfl⟩
  rw [← EX]
  unfold vX7_letterAt at EX
  unfold okX7_letterAt at K
  refine ea_enter rfl (Nat.le_of_ble_eq_true rfl) ?_
  refine ea_iload_n (pc := 0) dX7_letterAt_0 rfl 1 rfl ?_
  refine ea_if_lt (pc := 1) (tgt := 21) dX7_letterAt_1 rfl (fun c7 => ?_) (fun c7 => ?_)
  · have EX := EX.trans (if_pos c7)
    refine ea_iconst (pc := 21) dX7_letterAt_21 (v := (-1)) rfl ?_
    subst EX
    exact ea_ireturn (pc := 22) dX7_letterAt_22 rfl rfl
  · have EX := EX.trans (if_neg c7)
    have K := K.2 c7
    refine ea_iload_n (pc := 4) dX7_letterAt_4 rfl 1 rfl ?_
    refine ea_aload_n (pc := 5) dX7_letterAt_5 rfl 0 rfl ?_
    obtain ⟨f1, K⟩ := K
    refine ea_getI (pc := 6) dX7_letterAt_6 ec_7 (k := 2) (Nat.le_of_ble_eq_true rfl) rfl (Or.inl ew_1243) f1.1 f1.2 ?_
    refine ea_icmp_ge (pc := 9) (tgt := 21) dX7_letterAt_9 rfl (fun c6 => ?_) (fun c6 => ?_)
    · have EX := EX.trans (if_pos c6)
      refine ea_iconst (pc := 21) dX7_letterAt_21 (v := (-1)) rfl ?_
      subst EX
      exact ea_ireturn (pc := 22) dX7_letterAt_22 rfl rfl
    · have EX := EX.trans (if_neg c6)
      have K := K.2 c6
      refine ea_aload_n (pc := 12) dX7_letterAt_12 rfl 0 rfl ?_
      obtain ⟨f2, K⟩ := K
      refine ea_getR (pc := 13) dX7_letterAt_13 ec_7 (k := 4) (Nat.le_of_ble_eq_true rfl) rfl (Or.inl ew_1247) f2.1 f2.2 rfl ?_
      refine ea_iload_n (pc := 16) dX7_letterAt_16 rfl 1 rfl ?_
      obtain ⟨e3, f4, z5⟩ := K
      refine ea_deref1 e3 ?_
      refine ea_iald (pc := 17) dX7_letterAt_17 f4.1 f4.2 z5 ?_
      refine ea_goto (pc := 18) (tgt := 22) dX7_letterAt_18 rfl ?_
      subst EX
      exact ea_ireturn (pc := 22) dX7_letterAt_22 rfl rfl
noncomputable def wX8_init (a0 : Nat) (h : ea_H) : ea_H := (ea_wr (ea_new (ea_wr (ea_new (ea_wr (ea_new (ea_wr (wX5_init (ea_n h) (ea_new h 5 0 12)) a0 0 (some (ea_n h))) 26 6 6) a0 2 (some (ea_n (ea_wr (wX5_init (ea_n h) (ea_new h 5 0 12)) a0 0 (some (ea_n h)))))) 20 7 7) a0 3 (some (ea_n (ea_wr (ea_new (ea_wr (wX5_init (ea_n h) (ea_new h 5 0 12)) a0 0 (some (ea_n h))) 26 6 6) a0 2 (some (ea_n (ea_wr (wX5_init (ea_n h) (ea_new h 5 0 12)) a0 0 (some (ea_n h))))))))) 20 64 64) a0 4 (some (ea_n (ea_wr (ea_new (ea_wr (ea_new (ea_wr (wX5_init (ea_n h) (ea_new h 5 0 12)) a0 0 (some (ea_n h))) 26 6 6) a0 2 (some (ea_n (ea_wr (wX5_init (ea_n h) (ea_new h 5 0 12)) a0 0 (some (ea_n h)))))) 20 7 7) a0 3 (some (ea_n (ea_wr (ea_new (ea_wr (wX5_init (ea_n h) (ea_new h 5 0 12)) a0 0 (some (ea_n h))) 26 6 6) a0 2 (some (ea_n (ea_wr (wX5_init (ea_n h) (ea_new h 5 0 12)) a0 0 (some (ea_n h))))))))))))
def okX8_init (a0 : Nat) (h : ea_H) : Prop := (okX5_init (ea_n h) (ea_new h 5 0 12)) ∧ ((a0 < ea_n (wX5_init (ea_n h) (ea_new h 5 0 12)) ∧ ea_c (wX5_init (ea_n h) (ea_new h 5 0 12)) a0 = 8) ∧ ((a0 < ea_n (ea_new (ea_wr (wX5_init (ea_n h) (ea_new h 5 0 12)) a0 0 (some (ea_n h))) 26 6 6) ∧ ea_c (ea_new (ea_wr (wX5_init (ea_n h) (ea_new h 5 0 12)) a0 0 (some (ea_n h))) 26 6 6) a0 = 8) ∧ ((a0 < ea_n (ea_new (ea_wr (ea_new (ea_wr (wX5_init (ea_n h) (ea_new h 5 0 12)) a0 0 (some (ea_n h))) 26 6 6) a0 2 (some (ea_n (ea_wr (wX5_init (ea_n h) (ea_new h 5 0 12)) a0 0 (some (ea_n h)))))) 20 7 7) ∧ ea_c (ea_new (ea_wr (ea_new (ea_wr (wX5_init (ea_n h) (ea_new h 5 0 12)) a0 0 (some (ea_n h))) 26 6 6) a0 2 (some (ea_n (ea_wr (wX5_init (ea_n h) (ea_new h 5 0 12)) a0 0 (some (ea_n h)))))) 20 7 7) a0 = 8) ∧ ((a0 < ea_n (ea_new (ea_wr (ea_new (ea_wr (ea_new (ea_wr (wX5_init (ea_n h) (ea_new h 5 0 12)) a0 0 (some (ea_n h))) 26 6 6) a0 2 (some (ea_n (ea_wr (wX5_init (ea_n h) (ea_new h 5 0 12)) a0 0 (some (ea_n h)))))) 20 7 7) a0 3 (some (ea_n (ea_wr (ea_new (ea_wr (wX5_init (ea_n h) (ea_new h 5 0 12)) a0 0 (some (ea_n h))) 26 6 6) a0 2 (some (ea_n (ea_wr (wX5_init (ea_n h) (ea_new h 5 0 12)) a0 0 (some (ea_n h))))))))) 20 64 64) ∧ ea_c (ea_new (ea_wr (ea_new (ea_wr (ea_new (ea_wr (wX5_init (ea_n h) (ea_new h 5 0 12)) a0 0 (some (ea_n h))) 26 6 6) a0 2 (some (ea_n (ea_wr (wX5_init (ea_n h) (ea_new h 5 0 12)) a0 0 (some (ea_n h)))))) 20 7 7) a0 3 (some (ea_n (ea_wr (ea_new (ea_wr (wX5_init (ea_n h) (ea_new h 5 0 12)) a0 0 (some (ea_n h))) 26 6 6) a0 2 (some (ea_n (ea_wr (wX5_init (ea_n h) (ea_new h 5 0 12)) a0 0 (some (ea_n h))))))))) 20 64 64) a0 = 8)))))
theorem sX8_init {d : Nat} {a0 : Nat} {h : ea_H} (hd : 2 ≤ d) (K : okX8_init a0 h) : ea_Met mX8_init d [vR (some a0)] h none (wX8_init a0 h) := by
  obtain ⟨Y, EY⟩ : ∃ z, z = wX8_init a0 h := ⟨_, rfl⟩
  rw [← EY]
  unfold wX8_init at EY
  unfold okX8_init at K
  refine ea_enter rfl (Nat.le_of_ble_eq_true rfl) ?_
  refine ea_aload_n (pc := 0) dX8_init_0 rfl 0 rfl ?_
  refine ea_objInit (pc := 1) dX8_init_1 ew_284 ew_134 ew_135 (by omega) (Nat.le_of_ble_eq_true rfl) ?_
  refine ea_aload_n (pc := 4) dX8_init_4 rfl 0 rfl ?_
  refine ea_newO (pc := 5) dX8_init_5 ec_5 ew_285 ew_286 ew_117 ?_
  refine ea_dup (pc := 8) dX8_init_8 rfl ?_
  obtain ⟨z2, K⟩ := K
  refine ea_callIN (pc := 9) (d' := d - 1) (As := []) (st := [vR (some (ea_n h)), vR (some a0)]) dX8_init_9 kX5_init (sX5_init (d := d - 1) (by omega) z2) (by omega) rfl (Nat.le_of_ble_eq_true rfl) ew_287 ew_288 rfl rfl ?_
  obtain ⟨f4, K⟩ := K
  refine ea_putR (pc := 12) dX8_init_12 ec_8 (k := 0) (Nat.le_of_ble_eq_true rfl) rfl (Or.inr ⟨rfl, rfl, rfl, ew_333⟩) f4.1 f4.2 ?_
  refine ea_aload_n (pc := 15) dX8_init_15 rfl 0 rfl ?_
  refine ea_bipush (pc := 16) dX8_init_16 (v := 6) rfl ?_
  refine ea_newR26 (pc := 18) (N := 6) dX8_init_18 ew_331 ew_332 (by decide) rfl (Nat.le_of_ble_eq_true rfl) ?_
  obtain ⟨f7, K⟩ := K
  refine ea_putR (pc := 21) dX8_init_21 ec_8 (k := 2) (Nat.le_of_ble_eq_true rfl) rfl (Or.inr ⟨rfl, rfl, rfl, ew_337⟩) f7.1 f7.2 ?_
  refine ea_aload_n (pc := 24) dX8_init_24 rfl 0 rfl ?_
  refine ea_bipush (pc := 25) dX8_init_25 (v := 7) rfl ?_
  refine ea_newI (pc := 27) (N := 7) dX8_init_27 ew_170 (by decide) rfl (Nat.le_of_ble_eq_true rfl) ?_
  obtain ⟨f10, K⟩ := K
  refine ea_putR (pc := 29) dX8_init_29 ec_8 (k := 3) (Nat.le_of_ble_eq_true rfl) rfl (Or.inr ⟨rfl, rfl, rfl, ew_338⟩) f10.1 f10.2 ?_
  refine ea_aload_n (pc := 32) dX8_init_32 rfl 0 rfl ?_
  refine ea_bipush (pc := 33) dX8_init_33 (v := 64) rfl ?_
  refine ea_newI (pc := 35) (N := 64) dX8_init_35 ew_170 (by decide) rfl (Nat.le_of_ble_eq_true rfl) ?_
  have f13 := K
  refine ea_putR (pc := 37) dX8_init_37 ec_8 (k := 4) (Nat.le_of_ble_eq_true rfl) rfl (Or.inr ⟨rfl, rfl, rfl, ew_339⟩) f13.1 f13.2 ?_
  subst EY
  exact ea_return (pc := 40) dX8_init_40 rfl
noncomputable def vX8_mayBegin (b0 : Nat) (x1 : Int32) (h : ea_H) : Int32 := (if (ea_i h (b0 + 21) 1) ≤ (0 : Int32) then (if (6 : Int32) ≤ (ea_i h (b0 + 21) 1) then (0 : Int32) else (if x1 < (0 : Int32) then (0 : Int32) else (if (7 : Int32) ≤ x1 then (0 : Int32) else (1 : Int32)))) else (if (6 : Int32) ≤ (ea_i h (b0 + 21) 1) then (0 : Int32) else (if x1 < (ea_i h (Option.getD (ea_r h (b0 + 28) (Int32.toNatClampNeg ((ea_i h (b0 + 21) 1) - (1 : Int32)))) 0) 0) then (0 : Int32) else (if (7 : Int32) ≤ x1 then (0 : Int32) else (1 : Int32)))))
def okX8_mayBegin (b0 : Nat) (x1 : Int32) (h : ea_H) : Prop := ((ea_i h (b0 + 21) 1) ≤ (0 : Int32) → True) ∧ (¬ (ea_i h (b0 + 21) 1) ≤ (0 : Int32) → vp_in ((ea_i h (b0 + 21) 1) - (1 : Int32)) 6 ∧ ((ea_r h (b0 + 28) (Int32.toNatClampNeg ((ea_i h (b0 + 21) 1) - (1 : Int32)))) = some (Option.getD (ea_r h (b0 + 28) (Int32.toNatClampNeg ((ea_i h (b0 + 21) 1) - (1 : Int32)))) 0) ∧ (((Option.getD (ea_r h (b0 + 28) (Int32.toNatClampNeg ((ea_i h (b0 + 21) 1) - (1 : Int32)))) 0) < ea_n h ∧ ea_c h (Option.getD (ea_r h (b0 + 28) (Int32.toNatClampNeg ((ea_i h (b0 + 21) 1) - (1 : Int32)))) 0) = 0))))
theorem bo_vX8_mayBegin (b0 : Nat) (x1 : Int32) (h : ea_H) : vX8_mayBegin b0 x1 h = 0 ∨ vX8_mayBegin b0 x1 h = 1 := (ea_itB (ea_itB (Or.inl rfl) (ea_itB (Or.inl rfl) (ea_itB (Or.inl rfl) (Or.inr rfl)))) (ea_itB (Or.inl rfl) (ea_itB (Or.inl rfl) (ea_itB (Or.inl rfl) (Or.inr rfl)))))
theorem sX8_mayBegin {d : Nat} {b0 : Nat} {x1 : Int32} {h : ea_H} (hd : 1 ≤ d) (hs : ShC b0 h) (K : okX8_mayBegin b0 x1 h) : ea_Met mX8_mayBegin d [vR (some (b0 + 21)), vI x1] h (some (vI (vX8_mayBegin b0 x1 h))) h := by
  obtain ⟨X, EX⟩ : ∃ z, z = vX8_mayBegin b0 x1 h := ⟨_, rfl⟩
  rw [← EX]
  unfold vX8_mayBegin at EX
  unfold okX8_mayBegin at K
  refine ea_enter rfl (Nat.le_of_ble_eq_true rfl) ?_
  refine ea_aload_n (pc := 0) dX8_mayBegin_0 rfl 0 rfl ?_
  refine ea_getI (pc := 1) dX8_mayBegin_1 ec_8 (k := 1) (Nat.le_of_ble_eq_true rfl) rfl (Or.inl ew_335) (hs.1 21 (by decide)).1 (hs.1 21 (by decide)).2.1 ?_
  refine ea_if_le (pc := 4) (tgt := 24) dX8_mayBegin_4 rfl (fun c10 => ?_) (fun c10 => ?_)
  · have EX := EX.trans (if_pos c10)
    refine ea_iconst (pc := 24) dX8_mayBegin_24 (v := 0) rfl ?_
    refine ea_istore_n (pc := 25) (lv' := [(0, vR (some (b0 + 21))), (1, vI x1), (2, vI 0)]) dX8_mayBegin_25 rfl (Nat.le_of_ble_eq_true rfl) [1, 2, 0] rfl ?_
    refine ea_aload_n (pc := 26) dX8_mayBegin_26 rfl 0 rfl ?_
    refine ea_getI (pc := 27) dX8_mayBegin_27 ec_8 (k := 1) (Nat.le_of_ble_eq_true rfl) rfl (Or.inl ew_335) (hs.1 21 (by decide)).1 (hs.1 21 (by decide)).2.1 ?_
    refine ea_bipush (pc := 30) dX8_mayBegin_30 (v := 6) rfl ?_
    refine ea_icmp_ge (pc := 32) (tgt := 50) dX8_mayBegin_32 rfl (fun c3 => ?_) (fun c3 => ?_)
    · have EX := EX.trans (if_pos c3)
      refine ea_iconst (pc := 50) dX8_mayBegin_50 (v := 0) rfl ?_
      subst EX
      exact ea_ireturn (pc := 51) dX8_mayBegin_51 rfl (ea_bn (Or.inl rfl))
    · have EX := EX.trans (if_neg c3)
      refine ea_iload_n (pc := 35) dX8_mayBegin_35 rfl 1 rfl ?_
      refine ea_iload_n (pc := 36) dX8_mayBegin_36 rfl 2 rfl ?_
      refine ea_icmp_lt (pc := 37) (tgt := 50) dX8_mayBegin_37 rfl (fun c2 => ?_) (fun c2 => ?_)
      · have EX := EX.trans (if_pos c2)
        refine ea_iconst (pc := 50) dX8_mayBegin_50 (v := 0) rfl ?_
        subst EX
        exact ea_ireturn (pc := 51) dX8_mayBegin_51 rfl (ea_bn (Or.inl rfl))
      · have EX := EX.trans (if_neg c2)
        refine ea_iload_n (pc := 40) dX8_mayBegin_40 rfl 1 rfl ?_
        refine ea_bipush (pc := 41) dX8_mayBegin_41 (v := 7) rfl ?_
        refine ea_icmp_ge (pc := 43) (tgt := 50) dX8_mayBegin_43 rfl (fun c1 => ?_) (fun c1 => ?_)
        · have EX := EX.trans (if_pos c1)
          refine ea_iconst (pc := 50) dX8_mayBegin_50 (v := 0) rfl ?_
          subst EX
          exact ea_ireturn (pc := 51) dX8_mayBegin_51 rfl (ea_bn (Or.inl rfl))
        · have EX := EX.trans (if_neg c1)
          refine ea_iconst (pc := 46) dX8_mayBegin_46 (v := 1) rfl ?_
          refine ea_goto (pc := 47) (tgt := 51) dX8_mayBegin_47 rfl ?_
          subst EX
          exact ea_ireturn (pc := 51) dX8_mayBegin_51 rfl (ea_bn (Or.inr rfl))
  · have EX := EX.trans (if_neg c10)
    have K := K.2 c10
    refine ea_aload_n (pc := 7) dX8_mayBegin_7 rfl 0 rfl ?_
    refine ea_getR (pc := 8) dX8_mayBegin_8 ec_8 (k := 2) (Nat.le_of_ble_eq_true rfl) rfl (Or.inl ew_337) (hs.1 21 (by decide)).1 (hs.1 21 (by decide)).2.1 (hs.2 21 2 rfl) ?_
    refine ea_aload_n (pc := 11) dX8_mayBegin_11 rfl 0 rfl ?_
    refine ea_getI (pc := 12) dX8_mayBegin_12 ec_8 (k := 1) (Nat.le_of_ble_eq_true rfl) rfl (Or.inl ew_335) (hs.1 21 (by decide)).1 (hs.1 21 (by decide)).2.1 ?_
    refine ea_iconst (pc := 15) dX8_mayBegin_15 (v := 1) rfl ?_
    refine ea_isub (pc := 16) dX8_mayBegin_16 ?_
    obtain ⟨z4, K⟩ := K
    refine ea_aald26 (pc := 17) dX8_mayBegin_17 (hs.1 28 (by decide)).1 (hs.1 28 (by decide)).2.1 (ea_vpl (hs.1 28 (by decide)).2.2 z4) rfl ?_
    obtain ⟨e5, f6⟩ := K
    refine ea_deref0 e5 ?_
    refine ea_getI (pc := 18) dX8_mayBegin_18 ec_0 (k := 0) (Nat.le_of_ble_eq_true rfl) rfl (Or.inl ew_793) f6.1 f6.2 ?_
    refine ea_goto (pc := 21) (tgt := 25) dX8_mayBegin_21 rfl ?_
    refine ea_istore_n (pc := 25) (lv' := [(0, vR (some (b0 + 21))), (1, vI x1), (2, vI (ea_i h (Option.getD (ea_r h (b0 + 28) (Int32.toNatClampNeg ((ea_i h (b0 + 21) 1) - (1 : Int32)))) 0) 0))]) dX8_mayBegin_25 rfl (Nat.le_of_ble_eq_true rfl) [1, 2, 0] rfl ?_
    refine ea_aload_n (pc := 26) dX8_mayBegin_26 rfl 0 rfl ?_
    refine ea_getI (pc := 27) dX8_mayBegin_27 ec_8 (k := 1) (Nat.le_of_ble_eq_true rfl) rfl (Or.inl ew_335) (hs.1 21 (by decide)).1 (hs.1 21 (by decide)).2.1 ?_
    refine ea_bipush (pc := 30) dX8_mayBegin_30 (v := 6) rfl ?_
    refine ea_icmp_ge (pc := 32) (tgt := 50) dX8_mayBegin_32 rfl (fun c9 => ?_) (fun c9 => ?_)
    · have EX := EX.trans (if_pos c9)
      refine ea_iconst (pc := 50) dX8_mayBegin_50 (v := 0) rfl ?_
      subst EX
      exact ea_ireturn (pc := 51) dX8_mayBegin_51 rfl (ea_bn (Or.inl rfl))
    · have EX := EX.trans (if_neg c9)
      refine ea_iload_n (pc := 35) dX8_mayBegin_35 rfl 1 rfl ?_
      refine ea_iload_n (pc := 36) dX8_mayBegin_36 rfl 2 rfl ?_
      refine ea_icmp_lt (pc := 37) (tgt := 50) dX8_mayBegin_37 rfl (fun c8 => ?_) (fun c8 => ?_)
      · have EX := EX.trans (if_pos c8)
        refine ea_iconst (pc := 50) dX8_mayBegin_50 (v := 0) rfl ?_
        subst EX
        exact ea_ireturn (pc := 51) dX8_mayBegin_51 rfl (ea_bn (Or.inl rfl))
      · have EX := EX.trans (if_neg c8)
        refine ea_iload_n (pc := 40) dX8_mayBegin_40 rfl 1 rfl ?_
        refine ea_bipush (pc := 41) dX8_mayBegin_41 (v := 7) rfl ?_
        refine ea_icmp_ge (pc := 43) (tgt := 50) dX8_mayBegin_43 rfl (fun c7 => ?_) (fun c7 => ?_)
        · have EX := EX.trans (if_pos c7)
          refine ea_iconst (pc := 50) dX8_mayBegin_50 (v := 0) rfl ?_
          subst EX
          exact ea_ireturn (pc := 51) dX8_mayBegin_51 rfl (ea_bn (Or.inl rfl))
        · have EX := EX.trans (if_neg c7)
          refine ea_iconst (pc := 46) dX8_mayBegin_46 (v := 1) rfl ?_
          refine ea_goto (pc := 47) (tgt := 51) dX8_mayBegin_47 rfl ?_
          subst EX
          exact ea_ireturn (pc := 51) dX8_mayBegin_51 rfl (ea_bn (Or.inr rfl))
noncomputable def vX8_add (b0 : Nat) (r1 : Option Nat) (h : ea_H) : Int32 := (if r1 = none then ((-1) : Int32) else (if (ea_i h (b0 + 21) 1) < (6 : Int32) then ((ea_i (ea_wi (ea_wr h (b0 + 28) (Int32.toNatClampNeg (ea_i h (b0 + 21) 1)) (some (Option.getD r1 0))) (b0 + 21) 1 ((ea_i (ea_wr h (b0 + 28) (Int32.toNatClampNeg (ea_i h (b0 + 21) 1)) (some (Option.getD r1 0))) (b0 + 21) 1) + (1 : Int32))) (b0 + 21) 1) - (1 : Int32)) else ((-1) : Int32)))
noncomputable def wX8_add (b0 : Nat) (r1 : Option Nat) (h : ea_H) : ea_H := (if r1 = none then h else (if (ea_i h (b0 + 21) 1) < (6 : Int32) then (ea_wi (ea_wr h (b0 + 28) (Int32.toNatClampNeg (ea_i h (b0 + 21) 1)) (some (Option.getD r1 0))) (b0 + 21) 1 ((ea_i (ea_wr h (b0 + 28) (Int32.toNatClampNeg (ea_i h (b0 + 21) 1)) (some (Option.getD r1 0))) (b0 + 21) 1) + (1 : Int32))) else h))
def okX8_add (b0 : Nat) (r1 : Option Nat) (h : ea_H) : Prop := (r1 = none → True) ∧ (¬ r1 = none → ((ea_i h (b0 + 21) 1) < (6 : Int32) → vp_in (ea_i h (b0 + 21) 1) 6 ∧ (r1 = some (Option.getD r1 0) ∧ (((Option.getD r1 0) < ea_n h ∧ ea_c h (Option.getD r1 0) = 0)))) ∧ (¬ (ea_i h (b0 + 21) 1) < (6 : Int32) → True))
theorem shX8_add {b0 : Nat} {r1 : Option Nat} {h : ea_H} (hs : ShC b0 h) : ShC b0 (wX8_add b0 r1 h) := (ShC_it hs (ShC_it (ShC_wi (ShC_wr (o := 28) rfl hs)) hs))
theorem sX8_add {d : Nat} {b0 : Nat} {r1 : Option Nat} {h : ea_H} (hd : 1 ≤ d) (hs : ShC b0 h) (K : okX8_add b0 r1 h) : ea_Met mX8_add d [vR (some (b0 + 21)), vR r1] h (some (vI (vX8_add b0 r1 h))) (wX8_add b0 r1 h) := by
  obtain ⟨X, EX⟩ : ∃ z, z = vX8_add b0 r1 h := ⟨_, rfl⟩
  rw [← EX]
  unfold vX8_add at EX
  obtain ⟨Y, EY⟩ : ∃ z, z = wX8_add b0 r1 h := ⟨_, rfl⟩
  rw [← EY]
  unfold wX8_add at EY
  unfold okX8_add at K
  refine ea_enter rfl (Nat.le_of_ble_eq_true rfl) ?_
  refine ea_aload_n (pc := 0) dX8_add_0 rfl 1 rfl ?_
  refine ea_ifnull (pc := 1) (tgt := 13) dX8_add_1 rfl (fun c7 => ?_) (fun a8 c7 => ?_)
  · have EX := EX.trans (if_pos c7)
    have EY := EY.trans (if_pos c7)
    refine ea_iconst (pc := 13) dX8_add_13 (v := (-1)) rfl ?_
    subst EX
    subst EY
    exact ea_ireturn (pc := 14) dX8_add_14 rfl rfl
  · have c7n : ¬ r1 = none := by rw [c7]; exact fun q => nomatch q
    have EX := EX.trans (if_neg c7n)
    have EY := EY.trans (if_neg c7n)
    have K := K.2 c7n
    refine ea_aload_n (pc := 4) dX8_add_4 rfl 0 rfl ?_
    refine ea_getI (pc := 5) dX8_add_5 ec_8 (k := 1) (Nat.le_of_ble_eq_true rfl) rfl (Or.inl ew_335) (hs.1 21 (by decide)).1 (hs.1 21 (by decide)).2.1 ?_
    refine ea_bipush (pc := 8) dX8_add_8 (v := 6) rfl ?_
    refine ea_icmp_lt (pc := 10) (tgt := 15) dX8_add_10 rfl (fun c6 => ?_) (fun c6 => ?_)
    · have EX := EX.trans (if_pos c6)
      have EY := EY.trans (if_pos c6)
      have K := K.1 c6
      refine ea_aload_n (pc := 15) dX8_add_15 rfl 0 rfl ?_
      refine ea_getR (pc := 16) dX8_add_16 ec_8 (k := 2) (Nat.le_of_ble_eq_true rfl) rfl (Or.inl ew_337) (hs.1 21 (by decide)).1 (hs.1 21 (by decide)).2.1 (hs.2 21 2 rfl) ?_
      refine ea_aload_n (pc := 19) dX8_add_19 rfl 0 rfl ?_
      refine ea_getI (pc := 20) dX8_add_20 ec_8 (k := 1) (Nat.le_of_ble_eq_true rfl) rfl (Or.inl ew_335) (hs.1 21 (by decide)).1 (hs.1 21 (by decide)).2.1 ?_
      refine ea_aload_n (pc := 23) dX8_add_23 rfl 1 rfl ?_
      obtain ⟨z1, e3, f4⟩ := K
      refine ea_deref0 e3 ?_
      refine ea_aast26 (pc := 24) dX8_add_24 (hs.1 28 (by decide)).1 (hs.1 28 (by decide)).2.1 (ea_vpl (hs.1 28 (by decide)).2.2 z1) f4.1 f4.2 ?_
      have hs2 : ShC b0 (ea_wr h (b0 + 28) (Int32.toNatClampNeg (ea_i h (b0 + 21) 1)) (some (Option.getD r1 0))) := ShC_wr (o := 28) rfl hs
      refine ea_aload_n (pc := 25) dX8_add_25 rfl 0 rfl ?_
      refine ea_dup (pc := 26) dX8_add_26 rfl ?_
      refine ea_getI (pc := 27) dX8_add_27 ec_8 (k := 1) (Nat.le_of_ble_eq_true rfl) rfl (Or.inl ew_335) (hs2.1 21 (by decide)).1 (hs2.1 21 (by decide)).2.1 ?_
      refine ea_iconst (pc := 30) dX8_add_30 (v := 1) rfl ?_
      refine ea_iadd (pc := 31) dX8_add_31 ?_
      refine ea_putI (pc := 32) dX8_add_32 ec_8 (k := 1) (Nat.le_of_ble_eq_true rfl) rfl (Or.inl ⟨rfl, Or.inl ew_335⟩) rfl rfl (hs2.1 21 (by decide)).1 (hs2.1 21 (by decide)).2.1 ?_
      have hs5 : ShC b0 (ea_wi (ea_wr h (b0 + 28) (Int32.toNatClampNeg (ea_i h (b0 + 21) 1)) (some (Option.getD r1 0))) (b0 + 21) 1 ((ea_i (ea_wr h (b0 + 28) (Int32.toNatClampNeg (ea_i h (b0 + 21) 1)) (some (Option.getD r1 0))) (b0 + 21) 1) + (1 : Int32))) := ShC_wi hs2
      refine ea_aload_n (pc := 35) dX8_add_35 rfl 0 rfl ?_
      refine ea_getI (pc := 36) dX8_add_36 ec_8 (k := 1) (Nat.le_of_ble_eq_true rfl) rfl (Or.inl ew_335) (hs5.1 21 (by decide)).1 (hs5.1 21 (by decide)).2.1 ?_
      refine ea_iconst (pc := 39) dX8_add_39 (v := 1) rfl ?_
      refine ea_isub (pc := 40) dX8_add_40 ?_
      subst EX
      subst EY
      exact ea_ireturn (pc := 41) dX8_add_41 rfl rfl
    · have EX := EX.trans (if_neg c6)
      have EY := EY.trans (if_neg c6)
      refine ea_iconst (pc := 13) dX8_add_13 (v := (-1)) rfl ?_
      subst EX
      subst EY
      exact ea_ireturn (pc := 14) dX8_add_14 rfl rfl
noncomputable def vX8_actOf (b0 : Nat) (x1 : Int32) (h : ea_H) : Option Nat := (if x1 < (0 : Int32) then none else (if (ea_i h (b0 + 21) 1) ≤ x1 then none else (ea_r h (b0 + 28) (Int32.toNatClampNeg x1))))
def okX8_actOf (b0 : Nat) (x1 : Int32) (h : ea_H) : Prop := (x1 < (0 : Int32) → True) ∧ (¬ x1 < (0 : Int32) → ((ea_i h (b0 + 21) 1) ≤ x1 → True) ∧ (¬ (ea_i h (b0 + 21) 1) ≤ x1 → vp_in x1 6))
theorem sX8_actOf {d : Nat} {b0 : Nat} {x1 : Int32} {h : ea_H} (hd : 1 ≤ d) (hs : ShC b0 h) (K : okX8_actOf b0 x1 h) : ea_Met mX8_actOf d [vR (some (b0 + 21)), vI x1] h (some (vR (vX8_actOf b0 x1 h))) h := by
  obtain ⟨X, EX⟩ : ∃ z, z = vX8_actOf b0 x1 h := ⟨_, rfl⟩
  rw [← EX]
  unfold vX8_actOf at EX
  unfold okX8_actOf at K
  refine ea_enter rfl (Nat.le_of_ble_eq_true rfl) ?_
  refine ea_iload_n (pc := 0) dX8_actOf_0 rfl 1 rfl ?_
  refine ea_if_lt (pc := 1) (tgt := 21) dX8_actOf_1 rfl (fun c3 => ?_) (fun c3 => ?_)
  · have EX := EX.trans (if_pos c3)
    refine ea_null (pc := 21) dX8_actOf_21 ?_
    subst EX
    exact ea_areturn (pc := 22) dX8_actOf_22 rfl (Or.inl ⟨_, rfl⟩)
  · have EX := EX.trans (if_neg c3)
    have K := K.2 c3
    refine ea_iload_n (pc := 4) dX8_actOf_4 rfl 1 rfl ?_
    refine ea_aload_n (pc := 5) dX8_actOf_5 rfl 0 rfl ?_
    refine ea_getI (pc := 6) dX8_actOf_6 ec_8 (k := 1) (Nat.le_of_ble_eq_true rfl) rfl (Or.inl ew_335) (hs.1 21 (by decide)).1 (hs.1 21 (by decide)).2.1 ?_
    refine ea_icmp_ge (pc := 9) (tgt := 21) dX8_actOf_9 rfl (fun c2 => ?_) (fun c2 => ?_)
    · have EX := EX.trans (if_pos c2)
      refine ea_null (pc := 21) dX8_actOf_21 ?_
      subst EX
      exact ea_areturn (pc := 22) dX8_actOf_22 rfl (Or.inl ⟨_, rfl⟩)
    · have EX := EX.trans (if_neg c2)
      have K := K.2 c2
      refine ea_aload_n (pc := 12) dX8_actOf_12 rfl 0 rfl ?_
      refine ea_getR (pc := 13) dX8_actOf_13 ec_8 (k := 2) (Nat.le_of_ble_eq_true rfl) rfl (Or.inl ew_337) (hs.1 21 (by decide)).1 (hs.1 21 (by decide)).2.1 (hs.2 21 2 rfl) ?_
      refine ea_iload_n (pc := 16) dX8_actOf_16 rfl 1 rfl ?_
      have z1 := K
      refine ea_aald26 (pc := 17) dX8_actOf_17 (hs.1 28 (by decide)).1 (hs.1 28 (by decide)).2.1 (ea_vpl (hs.1 28 (by decide)).2.2 z1) rfl ?_
      refine ea_goto (pc := 18) (tgt := 22) dX8_actOf_18 rfl ?_
      subst EX
      exact ea_areturn (pc := 22) dX8_actOf_22 rfl (Or.inl ⟨_, rfl⟩)
noncomputable def gX8_numberOn (b0 : Nat) : Nat → Nat → Int32 → Int32 → Int32 → ea_H → Option (Int32 × ea_H)
  | 0, _, _, _, _, _ => none
  | f + 1, lbl, x1, x2, x3, h =>
    if lbl = 0 then (gX8_numberOn b0 f 4 (x1 : Int32) ((-1) : Int32) (0 : Int32) h) else
    if lbl = 4 then (if (ea_i h (b0 + 21) 1) ≤ x3 then (some (x2, h)) else (gd (vp_in x3 6) (gd ((ea_r h (b0 + 28) (Int32.toNatClampNeg x3)) = some (Option.getD (ea_r h (b0 + 28) (Int32.toNatClampNeg x3)) 0)) (gd (((Option.getD (ea_r h (b0 + 28) (Int32.toNatClampNeg x3)) 0) < ea_n h ∧ ea_c h (Option.getD (ea_r h (b0 + 28) (Int32.toNatClampNeg x3)) 0) = 0)) (if x1 < (ea_i h (Option.getD (ea_r h (b0 + 28) (Int32.toNatClampNeg x3)) 0) 0) then (gX8_numberOn b0 f 4 (x1 : Int32) (x2 : Int32) ((x3 + (1 : Int32)) : Int32) h) else (gX8_numberOn b0 f 4 (x1 : Int32) (x3 : Int32) ((x3 + (1 : Int32)) : Int32) h)))))) else none
theorem tX8_numberOn {d : Nat} {b0 : Nat} {h0 : ea_H} (hd : 1 ≤ d) : ∀ (f lbl : Nat) (x1 : Int32) (x2 : Int32) (x3 : Int32) (h : ea_H) (r : Int32) (h' : ea_H), gX8_numberOn b0 f lbl x1 x2 x3 h = some (r, h') → ShC b0 h → (lbl = 0 → ea_W mX8_numberOn d h0 (some (vI r)) h' 0 [(0, vR (some (b0 + 21))), (1, vI x1)] [] h) ∧ (lbl = 4 → ea_W mX8_numberOn d h0 (some (vI r)) h' 4 [(0, vR (some (b0 + 21))), (1, vI x1), (2, vI x2), (3, vI x3)] [] h) := by
  intro f
  induction f with
  | zero => intro lbl x1 x2 x3 h r h' E; cases E
  | succ f ih =>
    intro lbl x1 x2 x3 h r h' E hs
    unfold gX8_numberOn at E
    refine ⟨?_, ?_⟩
    · intro el
      subst el
      have E := (if_pos rfl).symm.trans E
      refine ea_iconst (pc := 0) dX8_numberOn_0 (v := (-1)) rfl ?_
      refine ea_istore_n (pc := 1) (lv' := [(0, vR (some (b0 + 21))), (1, vI x1), (2, vI (-1))]) dX8_numberOn_1 rfl (Nat.le_of_ble_eq_true rfl) [1, 2, 0] rfl ?_
      refine ea_iconst (pc := 2) dX8_numberOn_2 (v := 0) rfl ?_
      refine ea_istore_n (pc := 3) (lv' := [(0, vR (some (b0 + 21))), (1, vI x1), (2, vI (-1)), (3, vI 0)]) dX8_numberOn_3 rfl (Nat.le_of_ble_eq_true rfl) [1, 2, 3, 0] rfl ?_
      exact ((ih 4 (x1 : Int32) ((-1) : Int32) (0 : Int32) h _ _ E hs).2 rfl)
    intro el
    subst el
    have E := (if_neg (by decide)).symm.trans E
    have E := (if_pos rfl).symm.trans E
    refine ea_iload_n (pc := 4) dX8_numberOn_4 rfl 3 rfl ?_
    refine ea_aload_n (pc := 5) dX8_numberOn_5 rfl 0 rfl ?_
    refine ea_getI (pc := 6) dX8_numberOn_6 ec_8 (k := 1) (Nat.le_of_ble_eq_true rfl) rfl (Or.inl ew_335) (hs.1 21 (by decide)).1 (hs.1 21 (by decide)).2.1 ?_
    refine ea_icmp_ge (pc := 9) (tgt := 33) dX8_numberOn_9 rfl (fun c5 => ?_) (fun c5 => ?_)
    · have E := (if_pos c5).symm.trans E
      refine ea_iload_n (pc := 33) dX8_numberOn_33 rfl 2 rfl ?_
      cases E
      exact ea_ireturn (pc := 34) dX8_numberOn_34 rfl rfl
    · have E := (if_neg c5).symm.trans E
      refine ea_aload_n (pc := 12) dX8_numberOn_12 rfl 0 rfl ?_
      refine ea_getR (pc := 13) dX8_numberOn_13 ec_8 (k := 2) (Nat.le_of_ble_eq_true rfl) rfl (Or.inl ew_337) (hs.1 21 (by decide)).1 (hs.1 21 (by decide)).2.1 (hs.2 21 2 rfl) ?_
      refine ea_iload_n (pc := 16) dX8_numberOn_16 rfl 3 rfl ?_
      obtain ⟨z1, E⟩ := gd_some E
      refine ea_aald26 (pc := 17) dX8_numberOn_17 (hs.1 28 (by decide)).1 (hs.1 28 (by decide)).2.1 (ea_vpl (hs.1 28 (by decide)).2.2 z1) rfl ?_
      obtain ⟨e2, E⟩ := gd_some E
      obtain ⟨f3, E⟩ := gd_some E
      refine ea_deref0 e2 ?_
      refine ea_getI (pc := 18) dX8_numberOn_18 ec_0 (k := 0) (Nat.le_of_ble_eq_true rfl) rfl (Or.inl ew_793) f3.1 f3.2 ?_
      refine ea_iload_n (pc := 21) dX8_numberOn_21 rfl 1 rfl ?_
      refine ea_icmp_gt (pc := 22) (tgt := 27) dX8_numberOn_22 rfl (fun c4 => ?_) (fun c4 => ?_)
      · have E := (if_pos c4).symm.trans E
        refine ea_iinc (pc := 27) (v := 1) (lv' := [(0, vR (some (b0 + 21))), (1, vI x1), (2, vI x2), (3, vI (x3 + (1 : Int32)))]) dX8_numberOn_27 3 rfl rfl (Nat.le_of_ble_eq_true rfl) [1, 2, 3, 0] rfl ?_
        refine ea_goto (pc := 30) (tgt := 4) dX8_numberOn_30 rfl ?_
        exact ((ih 4 (x1 : Int32) (x2 : Int32) ((x3 + (1 : Int32)) : Int32) h _ _ E hs).2 rfl)
      · have E := (if_neg c4).symm.trans E
        refine ea_iload_n (pc := 25) dX8_numberOn_25 rfl 3 rfl ?_
        refine ea_istore_n (pc := 26) (lv' := [(0, vR (some (b0 + 21))), (1, vI x1), (2, vI x3), (3, vI x3)]) dX8_numberOn_26 rfl (Nat.le_of_ble_eq_true rfl) [1, 2, 0, 3] rfl ?_
        refine ea_iinc (pc := 27) (v := 1) (lv' := [(0, vR (some (b0 + 21))), (1, vI x1), (2, vI x3), (3, vI (x3 + (1 : Int32)))]) dX8_numberOn_27 3 rfl rfl (Nat.le_of_ble_eq_true rfl) [1, 2, 3, 0] rfl ?_
        refine ea_goto (pc := 30) (tgt := 4) dX8_numberOn_30 rfl ?_
        exact ((ih 4 (x1 : Int32) (x3 : Int32) ((x3 + (1 : Int32)) : Int32) h _ _ E hs).2 rfl)
noncomputable def qX8_numberOn (b0 : Nat) (x1 : Int32) (h : ea_H) : Option (Int32 × ea_H) := gX8_numberOn b0 1000000000 0 x1 0 0 h
def okX8_numberOn (b0 : Nat) (x1 : Int32) (h : ea_H) : Prop := ∃ x, qX8_numberOn b0 x1 h = some x
noncomputable def vX8_numberOn (b0 : Nat) (x1 : Int32) (h : ea_H) : Int32 := ((qX8_numberOn b0 x1 h).getD (0, h)).1
noncomputable def wX8_numberOn (b0 : Nat) (x1 : Int32) (h : ea_H) : ea_H := ((qX8_numberOn b0 x1 h).getD (0, h)).2
theorem sX8_numberOn {d : Nat} {b0 : Nat} {x1 : Int32} {h : ea_H} (hd : 1 ≤ d) (hs : ShC b0 h) (K : okX8_numberOn b0 x1 h) : ea_Met mX8_numberOn d [vR (some (b0 + 21)), vI x1] h (some (vI (vX8_numberOn b0 x1 h))) (wX8_numberOn b0 x1 h) := by
  obtain ⟨⟨x, y⟩, K⟩ := K
  unfold wX8_numberOn vX8_numberOn
  rw [K]
  unfold qX8_numberOn at K
  exact ea_enter rfl (Nat.le_of_ble_eq_true rfl) ((tX8_numberOn hd 1000000000 0 x1 0 0 h x y K hs).1 rfl)
theorem zX8_numberOn {b0 : Nat} : ∀ (f lbl : Nat) (x1 : Int32) (x2 : Int32) (x3 : Int32) (h : ea_H) (r : Int32) (h' : ea_H), gX8_numberOn b0 f lbl x1 x2 x3 h = some (r, h') → ShC b0 h → ShC b0 h' := by
  intro f
  induction f with
  | zero => intro lbl x1 x2 x3 h r h' E; cases E
  | succ f ih =>
    intro lbl x1 x2 x3 h r h' E hs
    unfold gX8_numberOn at E
    by_cases el0 : lbl = 0
    · have E := (if_pos el0).symm.trans E
      exact ih 4 (x1 : Int32) ((-1) : Int32) (0 : Int32) h _ _ E hs
    have E := (if_neg el0).symm.trans E
    by_cases el1 : lbl = 4
    · have E := (if_pos el1).symm.trans E
      by_cases c5 : (ea_i h (b0 + 21) 1) ≤ x3
      · have E := (if_pos c5).symm.trans E
        cases E
        exact hs
      have E := (if_neg c5).symm.trans E
      obtain ⟨z1, E⟩ := gd_some E
      obtain ⟨e2, E⟩ := gd_some E
      obtain ⟨f3, E⟩ := gd_some E
      by_cases c4 : x1 < (ea_i h (Option.getD (ea_r h (b0 + 28) (Int32.toNatClampNeg x3)) 0) 0)
      · have E := (if_pos c4).symm.trans E
        exact ih 4 (x1 : Int32) (x2 : Int32) ((x3 + (1 : Int32)) : Int32) h _ _ E hs
      have E := (if_neg c4).symm.trans E
      exact ih 4 (x1 : Int32) (x3 : Int32) ((x3 + (1 : Int32)) : Int32) h _ _ E hs
    have E := (if_neg el1).symm.trans E
    cases E
theorem shX8_numberOn {b0 : Nat} {x1 : Int32} {h : ea_H} (hs : ShC b0 h) : ShC b0 (wX8_numberOn b0 x1 h) := by
  unfold wX8_numberOn
  cases K : qX8_numberOn b0 x1 h with
  | none => exact hs
  | some x => obtain ⟨x, y⟩ := x; unfold qX8_numberOn at K; exact zX8_numberOn _ _ _ _ _ _ _ _ K hs
noncomputable def vX8_isFree (r0 : Option Nat) (r1 : Option Nat) (h : ea_H) : Int32 := (if (ea_i h (Option.getD r1 0) 0) = (2 : Int32) then (if (ea_i h (Option.getD r0 0) 4) ≤ (ea_i h (Option.getD r1 0) 9) then (0 : Int32) else (1 : Int32)) else (0 : Int32))
def okX8_isFree (r0 : Option Nat) (r1 : Option Nat) (h : ea_H) : Prop := r1 = some (Option.getD r1 0) ∧ (((Option.getD r1 0) < ea_n h ∧ ea_c h (Option.getD r1 0) = 4) ∧ (((ea_i h (Option.getD r1 0) 0) = (2 : Int32) → r1 = some (Option.getD r1 0) ∧ (((Option.getD r1 0) < ea_n h ∧ ea_c h (Option.getD r1 0) = 4) ∧ (r0 = some (Option.getD r0 0) ∧ (((Option.getD r0 0) < ea_n h ∧ ea_c h (Option.getD r0 0) = 0))))) ∧ (¬ (ea_i h (Option.getD r1 0) 0) = (2 : Int32) → True)))
theorem bo_vX8_isFree (r0 : Option Nat) (r1 : Option Nat) (h : ea_H) : vX8_isFree r0 r1 h = 0 ∨ vX8_isFree r0 r1 h = 1 := (ea_itB (ea_itB (Or.inl rfl) (Or.inr rfl)) (Or.inl rfl))
theorem sX8_isFree {d : Nat} {r0 : Option Nat} {r1 : Option Nat} {h : ea_H} (hd : 1 ≤ d) (K : okX8_isFree r0 r1 h) : ea_Met mX8_isFree d [vR r0, vR r1] h (some (vI (vX8_isFree r0 r1 h))) h := by
  obtain ⟨X, EX⟩ : ∃ z, z = vX8_isFree r0 r1 h := ⟨_, rfl⟩
  rw [← EX]
  unfold vX8_isFree at EX
  unfold okX8_isFree at K
  refine ea_enter rfl (Nat.le_of_ble_eq_true rfl) ?_
  refine ea_aload_n (pc := 0) dX8_isFree_0 rfl 1 rfl ?_
  obtain ⟨e1, f2, K⟩ := K
  refine ea_deref0 e1 ?_
  refine ea_getI (pc := 1) dX8_isFree_1 ec_4 (k := 0) (Nat.le_of_ble_eq_true rfl) rfl (Or.inl ew_934) f2.1 f2.2 ?_
  refine ea_iconst (pc := 4) dX8_isFree_4 (v := 2) rfl ?_
  refine ea_icmp_ne (pc := 5) (tgt := 23) dX8_isFree_5 rfl (fun c8 => ?_) (fun c8 => ?_)
  · have EX := EX.trans (if_neg c8)
    refine ea_iconst (pc := 23) dX8_isFree_23 (v := 0) rfl ?_
    subst EX
    exact ea_ireturn (pc := 24) dX8_isFree_24 rfl (ea_bn (Or.inl rfl))
  · have EX := EX.trans (if_pos c8)
    have K := K.1 c8
    refine ea_aload_n (pc := 8) dX8_isFree_8 rfl 1 rfl ?_
    obtain ⟨e3, f4, K⟩ := K
    refine ea_deref0 e3 ?_
    refine ea_getI (pc := 9) dX8_isFree_9 ec_4 (k := 9) (Nat.le_of_ble_eq_true rfl) rfl (Or.inl ew_956) f4.1 f4.2 ?_
    refine ea_aload_n (pc := 12) dX8_isFree_12 rfl 0 rfl ?_
    obtain ⟨e5, f6⟩ := K
    refine ea_deref0 e5 ?_
    refine ea_getI (pc := 13) dX8_isFree_13 ec_0 (k := 4) (Nat.le_of_ble_eq_true rfl) rfl (Or.inl ew_804) f6.1 f6.2 ?_
    refine ea_icmp_ge (pc := 16) (tgt := 23) dX8_isFree_16 rfl (fun c7 => ?_) (fun c7 => ?_)
    · have EX := EX.trans (if_pos c7)
      refine ea_iconst (pc := 23) dX8_isFree_23 (v := 0) rfl ?_
      subst EX
      exact ea_ireturn (pc := 24) dX8_isFree_24 rfl (ea_bn (Or.inl rfl))
    · have EX := EX.trans (if_neg c7)
      refine ea_iconst (pc := 19) dX8_isFree_19 (v := 1) rfl ?_
      refine ea_goto (pc := 20) (tgt := 24) dX8_isFree_20 rfl ?_
      subst EX
      exact ea_ireturn (pc := 24) dX8_isFree_24 rfl (ea_bn (Or.inr rfl))
noncomputable def wX8_ask (b0 : Nat) (r1 : Option Nat) (h : ea_H) : ea_H := (if (ea_i (ea_wi (ea_wi (ea_wi (ea_wi (ea_wi (ea_wi h (b0 + 29) (Int32.toNatClampNeg 0) (ea_i h (Option.getD r1 0) 7)) (b0 + 29) (Int32.toNatClampNeg 1) (ea_i (ea_wi h (b0 + 29) (Int32.toNatClampNeg 0) (ea_i h (Option.getD r1 0) 7)) (Option.getD r1 0) 3)) (b0 + 29) (Int32.toNatClampNeg 2) (ea_i (ea_wi (ea_wi h (b0 + 29) (Int32.toNatClampNeg 0) (ea_i h (Option.getD r1 0) 7)) (b0 + 29) (Int32.toNatClampNeg 1) (ea_i (ea_wi h (b0 + 29) (Int32.toNatClampNeg 0) (ea_i h (Option.getD r1 0) 7)) (Option.getD r1 0) 3)) (Option.getD r1 0) 4)) (b0 + 29) (Int32.toNatClampNeg 3) (((ea_i (ea_wi (ea_wi (ea_wi h (b0 + 29) (Int32.toNatClampNeg 0) (ea_i h (Option.getD r1 0) 7)) (b0 + 29) (Int32.toNatClampNeg 1) (ea_i (ea_wi h (b0 + 29) (Int32.toNatClampNeg 0) (ea_i h (Option.getD r1 0) 7)) (Option.getD r1 0) 3)) (b0 + 29) (Int32.toNatClampNeg 2) (ea_i (ea_wi (ea_wi h (b0 + 29) (Int32.toNatClampNeg 0) (ea_i h (Option.getD r1 0) 7)) (b0 + 29) (Int32.toNatClampNeg 1) (ea_i (ea_wi h (b0 + 29) (Int32.toNatClampNeg 0) (ea_i h (Option.getD r1 0) 7)) (Option.getD r1 0) 3)) (Option.getD r1 0) 4)) (Option.getD r1 0) 6) - (ea_i (ea_wi (ea_wi (ea_wi h (b0 + 29) (Int32.toNatClampNeg 0) (ea_i h (Option.getD r1 0) 7)) (b0 + 29) (Int32.toNatClampNeg 1) (ea_i (ea_wi h (b0 + 29) (Int32.toNatClampNeg 0) (ea_i h (Option.getD r1 0) 7)) (Option.getD r1 0) 3)) (b0 + 29) (Int32.toNatClampNeg 2) (ea_i (ea_wi (ea_wi h (b0 + 29) (Int32.toNatClampNeg 0) (ea_i h (Option.getD r1 0) 7)) (b0 + 29) (Int32.toNatClampNeg 1) (ea_i (ea_wi h (b0 + 29) (Int32.toNatClampNeg 0) (ea_i h (Option.getD r1 0) 7)) (Option.getD r1 0) 3)) (Option.getD r1 0) 4)) (Option.getD r1 0) 6) / (1440 : Int32) * (1440 : Int32)) / (60 : Int32))) (b0 + 29) (Int32.toNatClampNeg 4) (vX4_dayOf b0 (Option.getD r1 0) (ea_wi (ea_wi (ea_wi (ea_wi h (b0 + 29) (Int32.toNatClampNeg 0) (ea_i h (Option.getD r1 0) 7)) (b0 + 29) (Int32.toNatClampNeg 1) (ea_i (ea_wi h (b0 + 29) (Int32.toNatClampNeg 0) (ea_i h (Option.getD r1 0) 7)) (Option.getD r1 0) 3)) (b0 + 29) (Int32.toNatClampNeg 2) (ea_i (ea_wi (ea_wi h (b0 + 29) (Int32.toNatClampNeg 0) (ea_i h (Option.getD r1 0) 7)) (b0 + 29) (Int32.toNatClampNeg 1) (ea_i (ea_wi h (b0 + 29) (Int32.toNatClampNeg 0) (ea_i h (Option.getD r1 0) 7)) (Option.getD r1 0) 3)) (Option.getD r1 0) 4)) (b0 + 29) (Int32.toNatClampNeg 3) (((ea_i (ea_wi (ea_wi (ea_wi h (b0 + 29) (Int32.toNatClampNeg 0) (ea_i h (Option.getD r1 0) 7)) (b0 + 29) (Int32.toNatClampNeg 1) (ea_i (ea_wi h (b0 + 29) (Int32.toNatClampNeg 0) (ea_i h (Option.getD r1 0) 7)) (Option.getD r1 0) 3)) (b0 + 29) (Int32.toNatClampNeg 2) (ea_i (ea_wi (ea_wi h (b0 + 29) (Int32.toNatClampNeg 0) (ea_i h (Option.getD r1 0) 7)) (b0 + 29) (Int32.toNatClampNeg 1) (ea_i (ea_wi h (b0 + 29) (Int32.toNatClampNeg 0) (ea_i h (Option.getD r1 0) 7)) (Option.getD r1 0) 3)) (Option.getD r1 0) 4)) (Option.getD r1 0) 6) - (ea_i (ea_wi (ea_wi (ea_wi h (b0 + 29) (Int32.toNatClampNeg 0) (ea_i h (Option.getD r1 0) 7)) (b0 + 29) (Int32.toNatClampNeg 1) (ea_i (ea_wi h (b0 + 29) (Int32.toNatClampNeg 0) (ea_i h (Option.getD r1 0) 7)) (Option.getD r1 0) 3)) (b0 + 29) (Int32.toNatClampNeg 2) (ea_i (ea_wi (ea_wi h (b0 + 29) (Int32.toNatClampNeg 0) (ea_i h (Option.getD r1 0) 7)) (b0 + 29) (Int32.toNatClampNeg 1) (ea_i (ea_wi h (b0 + 29) (Int32.toNatClampNeg 0) (ea_i h (Option.getD r1 0) 7)) (Option.getD r1 0) 3)) (Option.getD r1 0) 4)) (Option.getD r1 0) 6) / (1440 : Int32) * (1440 : Int32)) / (60 : Int32))))) (b0 + 29) (Int32.toNatClampNeg 5) (ea_i (ea_wi (ea_wi (ea_wi (ea_wi (ea_wi h (b0 + 29) (Int32.toNatClampNeg 0) (ea_i h (Option.getD r1 0) 7)) (b0 + 29) (Int32.toNatClampNeg 1) (ea_i (ea_wi h (b0 + 29) (Int32.toNatClampNeg 0) (ea_i h (Option.getD r1 0) 7)) (Option.getD r1 0) 3)) (b0 + 29) (Int32.toNatClampNeg 2) (ea_i (ea_wi (ea_wi h (b0 + 29) (Int32.toNatClampNeg 0) (ea_i h (Option.getD r1 0) 7)) (b0 + 29) (Int32.toNatClampNeg 1) (ea_i (ea_wi h (b0 + 29) (Int32.toNatClampNeg 0) (ea_i h (Option.getD r1 0) 7)) (Option.getD r1 0) 3)) (Option.getD r1 0) 4)) (b0 + 29) (Int32.toNatClampNeg 3) (((ea_i (ea_wi (ea_wi (ea_wi h (b0 + 29) (Int32.toNatClampNeg 0) (ea_i h (Option.getD r1 0) 7)) (b0 + 29) (Int32.toNatClampNeg 1) (ea_i (ea_wi h (b0 + 29) (Int32.toNatClampNeg 0) (ea_i h (Option.getD r1 0) 7)) (Option.getD r1 0) 3)) (b0 + 29) (Int32.toNatClampNeg 2) (ea_i (ea_wi (ea_wi h (b0 + 29) (Int32.toNatClampNeg 0) (ea_i h (Option.getD r1 0) 7)) (b0 + 29) (Int32.toNatClampNeg 1) (ea_i (ea_wi h (b0 + 29) (Int32.toNatClampNeg 0) (ea_i h (Option.getD r1 0) 7)) (Option.getD r1 0) 3)) (Option.getD r1 0) 4)) (Option.getD r1 0) 6) - (ea_i (ea_wi (ea_wi (ea_wi h (b0 + 29) (Int32.toNatClampNeg 0) (ea_i h (Option.getD r1 0) 7)) (b0 + 29) (Int32.toNatClampNeg 1) (ea_i (ea_wi h (b0 + 29) (Int32.toNatClampNeg 0) (ea_i h (Option.getD r1 0) 7)) (Option.getD r1 0) 3)) (b0 + 29) (Int32.toNatClampNeg 2) (ea_i (ea_wi (ea_wi h (b0 + 29) (Int32.toNatClampNeg 0) (ea_i h (Option.getD r1 0) 7)) (b0 + 29) (Int32.toNatClampNeg 1) (ea_i (ea_wi h (b0 + 29) (Int32.toNatClampNeg 0) (ea_i h (Option.getD r1 0) 7)) (Option.getD r1 0) 3)) (Option.getD r1 0) 4)) (Option.getD r1 0) 6) / (1440 : Int32) * (1440 : Int32)) / (60 : Int32))) (b0 + 29) (Int32.toNatClampNeg 4) (vX4_dayOf b0 (Option.getD r1 0) (ea_wi (ea_wi (ea_wi (ea_wi h (b0 + 29) (Int32.toNatClampNeg 0) (ea_i h (Option.getD r1 0) 7)) (b0 + 29) (Int32.toNatClampNeg 1) (ea_i (ea_wi h (b0 + 29) (Int32.toNatClampNeg 0) (ea_i h (Option.getD r1 0) 7)) (Option.getD r1 0) 3)) (b0 + 29) (Int32.toNatClampNeg 2) (ea_i (ea_wi (ea_wi h (b0 + 29) (Int32.toNatClampNeg 0) (ea_i h (Option.getD r1 0) 7)) (b0 + 29) (Int32.toNatClampNeg 1) (ea_i (ea_wi h (b0 + 29) (Int32.toNatClampNeg 0) (ea_i h (Option.getD r1 0) 7)) (Option.getD r1 0) 3)) (Option.getD r1 0) 4)) (b0 + 29) (Int32.toNatClampNeg 3) (((ea_i (ea_wi (ea_wi (ea_wi h (b0 + 29) (Int32.toNatClampNeg 0) (ea_i h (Option.getD r1 0) 7)) (b0 + 29) (Int32.toNatClampNeg 1) (ea_i (ea_wi h (b0 + 29) (Int32.toNatClampNeg 0) (ea_i h (Option.getD r1 0) 7)) (Option.getD r1 0) 3)) (b0 + 29) (Int32.toNatClampNeg 2) (ea_i (ea_wi (ea_wi h (b0 + 29) (Int32.toNatClampNeg 0) (ea_i h (Option.getD r1 0) 7)) (b0 + 29) (Int32.toNatClampNeg 1) (ea_i (ea_wi h (b0 + 29) (Int32.toNatClampNeg 0) (ea_i h (Option.getD r1 0) 7)) (Option.getD r1 0) 3)) (Option.getD r1 0) 4)) (Option.getD r1 0) 6) - (ea_i (ea_wi (ea_wi (ea_wi h (b0 + 29) (Int32.toNatClampNeg 0) (ea_i h (Option.getD r1 0) 7)) (b0 + 29) (Int32.toNatClampNeg 1) (ea_i (ea_wi h (b0 + 29) (Int32.toNatClampNeg 0) (ea_i h (Option.getD r1 0) 7)) (Option.getD r1 0) 3)) (b0 + 29) (Int32.toNatClampNeg 2) (ea_i (ea_wi (ea_wi h (b0 + 29) (Int32.toNatClampNeg 0) (ea_i h (Option.getD r1 0) 7)) (b0 + 29) (Int32.toNatClampNeg 1) (ea_i (ea_wi h (b0 + 29) (Int32.toNatClampNeg 0) (ea_i h (Option.getD r1 0) 7)) (Option.getD r1 0) 3)) (Option.getD r1 0) 4)) (Option.getD r1 0) 6) / (1440 : Int32) * (1440 : Int32)) / (60 : Int32))))) (Option.getD r1 0) 0)) (Option.getD r1 0) 8) = (0 : Int32) then (ea_wi (ea_wi (ea_wi (ea_wi (ea_wi (ea_wi (ea_wi h (b0 + 29) (Int32.toNatClampNeg 0) (ea_i h (Option.getD r1 0) 7)) (b0 + 29) (Int32.toNatClampNeg 1) (ea_i (ea_wi h (b0 + 29) (Int32.toNatClampNeg 0) (ea_i h (Option.getD r1 0) 7)) (Option.getD r1 0) 3)) (b0 + 29) (Int32.toNatClampNeg 2) (ea_i (ea_wi (ea_wi h (b0 + 29) (Int32.toNatClampNeg 0) (ea_i h (Option.getD r1 0) 7)) (b0 + 29) (Int32.toNatClampNeg 1) (ea_i (ea_wi h (b0 + 29) (Int32.toNatClampNeg 0) (ea_i h (Option.getD r1 0) 7)) (Option.getD r1 0) 3)) (Option.getD r1 0) 4)) (b0 + 29) (Int32.toNatClampNeg 3) (((ea_i (ea_wi (ea_wi (ea_wi h (b0 + 29) (Int32.toNatClampNeg 0) (ea_i h (Option.getD r1 0) 7)) (b0 + 29) (Int32.toNatClampNeg 1) (ea_i (ea_wi h (b0 + 29) (Int32.toNatClampNeg 0) (ea_i h (Option.getD r1 0) 7)) (Option.getD r1 0) 3)) (b0 + 29) (Int32.toNatClampNeg 2) (ea_i (ea_wi (ea_wi h (b0 + 29) (Int32.toNatClampNeg 0) (ea_i h (Option.getD r1 0) 7)) (b0 + 29) (Int32.toNatClampNeg 1) (ea_i (ea_wi h (b0 + 29) (Int32.toNatClampNeg 0) (ea_i h (Option.getD r1 0) 7)) (Option.getD r1 0) 3)) (Option.getD r1 0) 4)) (Option.getD r1 0) 6) - (ea_i (ea_wi (ea_wi (ea_wi h (b0 + 29) (Int32.toNatClampNeg 0) (ea_i h (Option.getD r1 0) 7)) (b0 + 29) (Int32.toNatClampNeg 1) (ea_i (ea_wi h (b0 + 29) (Int32.toNatClampNeg 0) (ea_i h (Option.getD r1 0) 7)) (Option.getD r1 0) 3)) (b0 + 29) (Int32.toNatClampNeg 2) (ea_i (ea_wi (ea_wi h (b0 + 29) (Int32.toNatClampNeg 0) (ea_i h (Option.getD r1 0) 7)) (b0 + 29) (Int32.toNatClampNeg 1) (ea_i (ea_wi h (b0 + 29) (Int32.toNatClampNeg 0) (ea_i h (Option.getD r1 0) 7)) (Option.getD r1 0) 3)) (Option.getD r1 0) 4)) (Option.getD r1 0) 6) / (1440 : Int32) * (1440 : Int32)) / (60 : Int32))) (b0 + 29) (Int32.toNatClampNeg 4) (vX4_dayOf b0 (Option.getD r1 0) (ea_wi (ea_wi (ea_wi (ea_wi h (b0 + 29) (Int32.toNatClampNeg 0) (ea_i h (Option.getD r1 0) 7)) (b0 + 29) (Int32.toNatClampNeg 1) (ea_i (ea_wi h (b0 + 29) (Int32.toNatClampNeg 0) (ea_i h (Option.getD r1 0) 7)) (Option.getD r1 0) 3)) (b0 + 29) (Int32.toNatClampNeg 2) (ea_i (ea_wi (ea_wi h (b0 + 29) (Int32.toNatClampNeg 0) (ea_i h (Option.getD r1 0) 7)) (b0 + 29) (Int32.toNatClampNeg 1) (ea_i (ea_wi h (b0 + 29) (Int32.toNatClampNeg 0) (ea_i h (Option.getD r1 0) 7)) (Option.getD r1 0) 3)) (Option.getD r1 0) 4)) (b0 + 29) (Int32.toNatClampNeg 3) (((ea_i (ea_wi (ea_wi (ea_wi h (b0 + 29) (Int32.toNatClampNeg 0) (ea_i h (Option.getD r1 0) 7)) (b0 + 29) (Int32.toNatClampNeg 1) (ea_i (ea_wi h (b0 + 29) (Int32.toNatClampNeg 0) (ea_i h (Option.getD r1 0) 7)) (Option.getD r1 0) 3)) (b0 + 29) (Int32.toNatClampNeg 2) (ea_i (ea_wi (ea_wi h (b0 + 29) (Int32.toNatClampNeg 0) (ea_i h (Option.getD r1 0) 7)) (b0 + 29) (Int32.toNatClampNeg 1) (ea_i (ea_wi h (b0 + 29) (Int32.toNatClampNeg 0) (ea_i h (Option.getD r1 0) 7)) (Option.getD r1 0) 3)) (Option.getD r1 0) 4)) (Option.getD r1 0) 6) - (ea_i (ea_wi (ea_wi (ea_wi h (b0 + 29) (Int32.toNatClampNeg 0) (ea_i h (Option.getD r1 0) 7)) (b0 + 29) (Int32.toNatClampNeg 1) (ea_i (ea_wi h (b0 + 29) (Int32.toNatClampNeg 0) (ea_i h (Option.getD r1 0) 7)) (Option.getD r1 0) 3)) (b0 + 29) (Int32.toNatClampNeg 2) (ea_i (ea_wi (ea_wi h (b0 + 29) (Int32.toNatClampNeg 0) (ea_i h (Option.getD r1 0) 7)) (b0 + 29) (Int32.toNatClampNeg 1) (ea_i (ea_wi h (b0 + 29) (Int32.toNatClampNeg 0) (ea_i h (Option.getD r1 0) 7)) (Option.getD r1 0) 3)) (Option.getD r1 0) 4)) (Option.getD r1 0) 6) / (1440 : Int32) * (1440 : Int32)) / (60 : Int32))))) (b0 + 29) (Int32.toNatClampNeg 5) (ea_i (ea_wi (ea_wi (ea_wi (ea_wi (ea_wi h (b0 + 29) (Int32.toNatClampNeg 0) (ea_i h (Option.getD r1 0) 7)) (b0 + 29) (Int32.toNatClampNeg 1) (ea_i (ea_wi h (b0 + 29) (Int32.toNatClampNeg 0) (ea_i h (Option.getD r1 0) 7)) (Option.getD r1 0) 3)) (b0 + 29) (Int32.toNatClampNeg 2) (ea_i (ea_wi (ea_wi h (b0 + 29) (Int32.toNatClampNeg 0) (ea_i h (Option.getD r1 0) 7)) (b0 + 29) (Int32.toNatClampNeg 1) (ea_i (ea_wi h (b0 + 29) (Int32.toNatClampNeg 0) (ea_i h (Option.getD r1 0) 7)) (Option.getD r1 0) 3)) (Option.getD r1 0) 4)) (b0 + 29) (Int32.toNatClampNeg 3) (((ea_i (ea_wi (ea_wi (ea_wi h (b0 + 29) (Int32.toNatClampNeg 0) (ea_i h (Option.getD r1 0) 7)) (b0 + 29) (Int32.toNatClampNeg 1) (ea_i (ea_wi h (b0 + 29) (Int32.toNatClampNeg 0) (ea_i h (Option.getD r1 0) 7)) (Option.getD r1 0) 3)) (b0 + 29) (Int32.toNatClampNeg 2) (ea_i (ea_wi (ea_wi h (b0 + 29) (Int32.toNatClampNeg 0) (ea_i h (Option.getD r1 0) 7)) (b0 + 29) (Int32.toNatClampNeg 1) (ea_i (ea_wi h (b0 + 29) (Int32.toNatClampNeg 0) (ea_i h (Option.getD r1 0) 7)) (Option.getD r1 0) 3)) (Option.getD r1 0) 4)) (Option.getD r1 0) 6) - (ea_i (ea_wi (ea_wi (ea_wi h (b0 + 29) (Int32.toNatClampNeg 0) (ea_i h (Option.getD r1 0) 7)) (b0 + 29) (Int32.toNatClampNeg 1) (ea_i (ea_wi h (b0 + 29) (Int32.toNatClampNeg 0) (ea_i h (Option.getD r1 0) 7)) (Option.getD r1 0) 3)) (b0 + 29) (Int32.toNatClampNeg 2) (ea_i (ea_wi (ea_wi h (b0 + 29) (Int32.toNatClampNeg 0) (ea_i h (Option.getD r1 0) 7)) (b0 + 29) (Int32.toNatClampNeg 1) (ea_i (ea_wi h (b0 + 29) (Int32.toNatClampNeg 0) (ea_i h (Option.getD r1 0) 7)) (Option.getD r1 0) 3)) (Option.getD r1 0) 4)) (Option.getD r1 0) 6) / (1440 : Int32) * (1440 : Int32)) / (60 : Int32))) (b0 + 29) (Int32.toNatClampNeg 4) (vX4_dayOf b0 (Option.getD r1 0) (ea_wi (ea_wi (ea_wi (ea_wi h (b0 + 29) (Int32.toNatClampNeg 0) (ea_i h (Option.getD r1 0) 7)) (b0 + 29) (Int32.toNatClampNeg 1) (ea_i (ea_wi h (b0 + 29) (Int32.toNatClampNeg 0) (ea_i h (Option.getD r1 0) 7)) (Option.getD r1 0) 3)) (b0 + 29) (Int32.toNatClampNeg 2) (ea_i (ea_wi (ea_wi h (b0 + 29) (Int32.toNatClampNeg 0) (ea_i h (Option.getD r1 0) 7)) (b0 + 29) (Int32.toNatClampNeg 1) (ea_i (ea_wi h (b0 + 29) (Int32.toNatClampNeg 0) (ea_i h (Option.getD r1 0) 7)) (Option.getD r1 0) 3)) (Option.getD r1 0) 4)) (b0 + 29) (Int32.toNatClampNeg 3) (((ea_i (ea_wi (ea_wi (ea_wi h (b0 + 29) (Int32.toNatClampNeg 0) (ea_i h (Option.getD r1 0) 7)) (b0 + 29) (Int32.toNatClampNeg 1) (ea_i (ea_wi h (b0 + 29) (Int32.toNatClampNeg 0) (ea_i h (Option.getD r1 0) 7)) (Option.getD r1 0) 3)) (b0 + 29) (Int32.toNatClampNeg 2) (ea_i (ea_wi (ea_wi h (b0 + 29) (Int32.toNatClampNeg 0) (ea_i h (Option.getD r1 0) 7)) (b0 + 29) (Int32.toNatClampNeg 1) (ea_i (ea_wi h (b0 + 29) (Int32.toNatClampNeg 0) (ea_i h (Option.getD r1 0) 7)) (Option.getD r1 0) 3)) (Option.getD r1 0) 4)) (Option.getD r1 0) 6) - (ea_i (ea_wi (ea_wi (ea_wi h (b0 + 29) (Int32.toNatClampNeg 0) (ea_i h (Option.getD r1 0) 7)) (b0 + 29) (Int32.toNatClampNeg 1) (ea_i (ea_wi h (b0 + 29) (Int32.toNatClampNeg 0) (ea_i h (Option.getD r1 0) 7)) (Option.getD r1 0) 3)) (b0 + 29) (Int32.toNatClampNeg 2) (ea_i (ea_wi (ea_wi h (b0 + 29) (Int32.toNatClampNeg 0) (ea_i h (Option.getD r1 0) 7)) (b0 + 29) (Int32.toNatClampNeg 1) (ea_i (ea_wi h (b0 + 29) (Int32.toNatClampNeg 0) (ea_i h (Option.getD r1 0) 7)) (Option.getD r1 0) 3)) (Option.getD r1 0) 4)) (Option.getD r1 0) 6) / (1440 : Int32) * (1440 : Int32)) / (60 : Int32))))) (Option.getD r1 0) 0)) (b0 + 29) (Int32.toNatClampNeg 6) 0) else (ea_wi (ea_wi (ea_wi (ea_wi (ea_wi (ea_wi (ea_wi h (b0 + 29) (Int32.toNatClampNeg 0) (ea_i h (Option.getD r1 0) 7)) (b0 + 29) (Int32.toNatClampNeg 1) (ea_i (ea_wi h (b0 + 29) (Int32.toNatClampNeg 0) (ea_i h (Option.getD r1 0) 7)) (Option.getD r1 0) 3)) (b0 + 29) (Int32.toNatClampNeg 2) (ea_i (ea_wi (ea_wi h (b0 + 29) (Int32.toNatClampNeg 0) (ea_i h (Option.getD r1 0) 7)) (b0 + 29) (Int32.toNatClampNeg 1) (ea_i (ea_wi h (b0 + 29) (Int32.toNatClampNeg 0) (ea_i h (Option.getD r1 0) 7)) (Option.getD r1 0) 3)) (Option.getD r1 0) 4)) (b0 + 29) (Int32.toNatClampNeg 3) (((ea_i (ea_wi (ea_wi (ea_wi h (b0 + 29) (Int32.toNatClampNeg 0) (ea_i h (Option.getD r1 0) 7)) (b0 + 29) (Int32.toNatClampNeg 1) (ea_i (ea_wi h (b0 + 29) (Int32.toNatClampNeg 0) (ea_i h (Option.getD r1 0) 7)) (Option.getD r1 0) 3)) (b0 + 29) (Int32.toNatClampNeg 2) (ea_i (ea_wi (ea_wi h (b0 + 29) (Int32.toNatClampNeg 0) (ea_i h (Option.getD r1 0) 7)) (b0 + 29) (Int32.toNatClampNeg 1) (ea_i (ea_wi h (b0 + 29) (Int32.toNatClampNeg 0) (ea_i h (Option.getD r1 0) 7)) (Option.getD r1 0) 3)) (Option.getD r1 0) 4)) (Option.getD r1 0) 6) - (ea_i (ea_wi (ea_wi (ea_wi h (b0 + 29) (Int32.toNatClampNeg 0) (ea_i h (Option.getD r1 0) 7)) (b0 + 29) (Int32.toNatClampNeg 1) (ea_i (ea_wi h (b0 + 29) (Int32.toNatClampNeg 0) (ea_i h (Option.getD r1 0) 7)) (Option.getD r1 0) 3)) (b0 + 29) (Int32.toNatClampNeg 2) (ea_i (ea_wi (ea_wi h (b0 + 29) (Int32.toNatClampNeg 0) (ea_i h (Option.getD r1 0) 7)) (b0 + 29) (Int32.toNatClampNeg 1) (ea_i (ea_wi h (b0 + 29) (Int32.toNatClampNeg 0) (ea_i h (Option.getD r1 0) 7)) (Option.getD r1 0) 3)) (Option.getD r1 0) 4)) (Option.getD r1 0) 6) / (1440 : Int32) * (1440 : Int32)) / (60 : Int32))) (b0 + 29) (Int32.toNatClampNeg 4) (vX4_dayOf b0 (Option.getD r1 0) (ea_wi (ea_wi (ea_wi (ea_wi h (b0 + 29) (Int32.toNatClampNeg 0) (ea_i h (Option.getD r1 0) 7)) (b0 + 29) (Int32.toNatClampNeg 1) (ea_i (ea_wi h (b0 + 29) (Int32.toNatClampNeg 0) (ea_i h (Option.getD r1 0) 7)) (Option.getD r1 0) 3)) (b0 + 29) (Int32.toNatClampNeg 2) (ea_i (ea_wi (ea_wi h (b0 + 29) (Int32.toNatClampNeg 0) (ea_i h (Option.getD r1 0) 7)) (b0 + 29) (Int32.toNatClampNeg 1) (ea_i (ea_wi h (b0 + 29) (Int32.toNatClampNeg 0) (ea_i h (Option.getD r1 0) 7)) (Option.getD r1 0) 3)) (Option.getD r1 0) 4)) (b0 + 29) (Int32.toNatClampNeg 3) (((ea_i (ea_wi (ea_wi (ea_wi h (b0 + 29) (Int32.toNatClampNeg 0) (ea_i h (Option.getD r1 0) 7)) (b0 + 29) (Int32.toNatClampNeg 1) (ea_i (ea_wi h (b0 + 29) (Int32.toNatClampNeg 0) (ea_i h (Option.getD r1 0) 7)) (Option.getD r1 0) 3)) (b0 + 29) (Int32.toNatClampNeg 2) (ea_i (ea_wi (ea_wi h (b0 + 29) (Int32.toNatClampNeg 0) (ea_i h (Option.getD r1 0) 7)) (b0 + 29) (Int32.toNatClampNeg 1) (ea_i (ea_wi h (b0 + 29) (Int32.toNatClampNeg 0) (ea_i h (Option.getD r1 0) 7)) (Option.getD r1 0) 3)) (Option.getD r1 0) 4)) (Option.getD r1 0) 6) - (ea_i (ea_wi (ea_wi (ea_wi h (b0 + 29) (Int32.toNatClampNeg 0) (ea_i h (Option.getD r1 0) 7)) (b0 + 29) (Int32.toNatClampNeg 1) (ea_i (ea_wi h (b0 + 29) (Int32.toNatClampNeg 0) (ea_i h (Option.getD r1 0) 7)) (Option.getD r1 0) 3)) (b0 + 29) (Int32.toNatClampNeg 2) (ea_i (ea_wi (ea_wi h (b0 + 29) (Int32.toNatClampNeg 0) (ea_i h (Option.getD r1 0) 7)) (b0 + 29) (Int32.toNatClampNeg 1) (ea_i (ea_wi h (b0 + 29) (Int32.toNatClampNeg 0) (ea_i h (Option.getD r1 0) 7)) (Option.getD r1 0) 3)) (Option.getD r1 0) 4)) (Option.getD r1 0) 6) / (1440 : Int32) * (1440 : Int32)) / (60 : Int32))))) (b0 + 29) (Int32.toNatClampNeg 5) (ea_i (ea_wi (ea_wi (ea_wi (ea_wi (ea_wi h (b0 + 29) (Int32.toNatClampNeg 0) (ea_i h (Option.getD r1 0) 7)) (b0 + 29) (Int32.toNatClampNeg 1) (ea_i (ea_wi h (b0 + 29) (Int32.toNatClampNeg 0) (ea_i h (Option.getD r1 0) 7)) (Option.getD r1 0) 3)) (b0 + 29) (Int32.toNatClampNeg 2) (ea_i (ea_wi (ea_wi h (b0 + 29) (Int32.toNatClampNeg 0) (ea_i h (Option.getD r1 0) 7)) (b0 + 29) (Int32.toNatClampNeg 1) (ea_i (ea_wi h (b0 + 29) (Int32.toNatClampNeg 0) (ea_i h (Option.getD r1 0) 7)) (Option.getD r1 0) 3)) (Option.getD r1 0) 4)) (b0 + 29) (Int32.toNatClampNeg 3) (((ea_i (ea_wi (ea_wi (ea_wi h (b0 + 29) (Int32.toNatClampNeg 0) (ea_i h (Option.getD r1 0) 7)) (b0 + 29) (Int32.toNatClampNeg 1) (ea_i (ea_wi h (b0 + 29) (Int32.toNatClampNeg 0) (ea_i h (Option.getD r1 0) 7)) (Option.getD r1 0) 3)) (b0 + 29) (Int32.toNatClampNeg 2) (ea_i (ea_wi (ea_wi h (b0 + 29) (Int32.toNatClampNeg 0) (ea_i h (Option.getD r1 0) 7)) (b0 + 29) (Int32.toNatClampNeg 1) (ea_i (ea_wi h (b0 + 29) (Int32.toNatClampNeg 0) (ea_i h (Option.getD r1 0) 7)) (Option.getD r1 0) 3)) (Option.getD r1 0) 4)) (Option.getD r1 0) 6) - (ea_i (ea_wi (ea_wi (ea_wi h (b0 + 29) (Int32.toNatClampNeg 0) (ea_i h (Option.getD r1 0) 7)) (b0 + 29) (Int32.toNatClampNeg 1) (ea_i (ea_wi h (b0 + 29) (Int32.toNatClampNeg 0) (ea_i h (Option.getD r1 0) 7)) (Option.getD r1 0) 3)) (b0 + 29) (Int32.toNatClampNeg 2) (ea_i (ea_wi (ea_wi h (b0 + 29) (Int32.toNatClampNeg 0) (ea_i h (Option.getD r1 0) 7)) (b0 + 29) (Int32.toNatClampNeg 1) (ea_i (ea_wi h (b0 + 29) (Int32.toNatClampNeg 0) (ea_i h (Option.getD r1 0) 7)) (Option.getD r1 0) 3)) (Option.getD r1 0) 4)) (Option.getD r1 0) 6) / (1440 : Int32) * (1440 : Int32)) / (60 : Int32))) (b0 + 29) (Int32.toNatClampNeg 4) (vX4_dayOf b0 (Option.getD r1 0) (ea_wi (ea_wi (ea_wi (ea_wi h (b0 + 29) (Int32.toNatClampNeg 0) (ea_i h (Option.getD r1 0) 7)) (b0 + 29) (Int32.toNatClampNeg 1) (ea_i (ea_wi h (b0 + 29) (Int32.toNatClampNeg 0) (ea_i h (Option.getD r1 0) 7)) (Option.getD r1 0) 3)) (b0 + 29) (Int32.toNatClampNeg 2) (ea_i (ea_wi (ea_wi h (b0 + 29) (Int32.toNatClampNeg 0) (ea_i h (Option.getD r1 0) 7)) (b0 + 29) (Int32.toNatClampNeg 1) (ea_i (ea_wi h (b0 + 29) (Int32.toNatClampNeg 0) (ea_i h (Option.getD r1 0) 7)) (Option.getD r1 0) 3)) (Option.getD r1 0) 4)) (b0 + 29) (Int32.toNatClampNeg 3) (((ea_i (ea_wi (ea_wi (ea_wi h (b0 + 29) (Int32.toNatClampNeg 0) (ea_i h (Option.getD r1 0) 7)) (b0 + 29) (Int32.toNatClampNeg 1) (ea_i (ea_wi h (b0 + 29) (Int32.toNatClampNeg 0) (ea_i h (Option.getD r1 0) 7)) (Option.getD r1 0) 3)) (b0 + 29) (Int32.toNatClampNeg 2) (ea_i (ea_wi (ea_wi h (b0 + 29) (Int32.toNatClampNeg 0) (ea_i h (Option.getD r1 0) 7)) (b0 + 29) (Int32.toNatClampNeg 1) (ea_i (ea_wi h (b0 + 29) (Int32.toNatClampNeg 0) (ea_i h (Option.getD r1 0) 7)) (Option.getD r1 0) 3)) (Option.getD r1 0) 4)) (Option.getD r1 0) 6) - (ea_i (ea_wi (ea_wi (ea_wi h (b0 + 29) (Int32.toNatClampNeg 0) (ea_i h (Option.getD r1 0) 7)) (b0 + 29) (Int32.toNatClampNeg 1) (ea_i (ea_wi h (b0 + 29) (Int32.toNatClampNeg 0) (ea_i h (Option.getD r1 0) 7)) (Option.getD r1 0) 3)) (b0 + 29) (Int32.toNatClampNeg 2) (ea_i (ea_wi (ea_wi h (b0 + 29) (Int32.toNatClampNeg 0) (ea_i h (Option.getD r1 0) 7)) (b0 + 29) (Int32.toNatClampNeg 1) (ea_i (ea_wi h (b0 + 29) (Int32.toNatClampNeg 0) (ea_i h (Option.getD r1 0) 7)) (Option.getD r1 0) 3)) (Option.getD r1 0) 4)) (Option.getD r1 0) 6) / (1440 : Int32) * (1440 : Int32)) / (60 : Int32))))) (Option.getD r1 0) 0)) (b0 + 29) (Int32.toNatClampNeg 6) 1))
def okX8_ask (b0 : Nat) (r1 : Option Nat) (h : ea_H) : Prop := r1 = some (Option.getD r1 0) ∧ (((Option.getD r1 0) < ea_n h ∧ ea_c h (Option.getD r1 0) = 4) ∧ (vp_in 0 7 ∧ (r1 = some (Option.getD r1 0) ∧ (((Option.getD r1 0) < ea_n (ea_wi h (b0 + 29) (Int32.toNatClampNeg 0) (ea_i h (Option.getD r1 0) 7)) ∧ ea_c (ea_wi h (b0 + 29) (Int32.toNatClampNeg 0) (ea_i h (Option.getD r1 0) 7)) (Option.getD r1 0) = 4) ∧ (vp_in 1 7 ∧ (r1 = some (Option.getD r1 0) ∧ (((Option.getD r1 0) < ea_n (ea_wi (ea_wi h (b0 + 29) (Int32.toNatClampNeg 0) (ea_i h (Option.getD r1 0) 7)) (b0 + 29) (Int32.toNatClampNeg 1) (ea_i (ea_wi h (b0 + 29) (Int32.toNatClampNeg 0) (ea_i h (Option.getD r1 0) 7)) (Option.getD r1 0) 3)) ∧ ea_c (ea_wi (ea_wi h (b0 + 29) (Int32.toNatClampNeg 0) (ea_i h (Option.getD r1 0) 7)) (b0 + 29) (Int32.toNatClampNeg 1) (ea_i (ea_wi h (b0 + 29) (Int32.toNatClampNeg 0) (ea_i h (Option.getD r1 0) 7)) (Option.getD r1 0) 3)) (Option.getD r1 0) = 4) ∧ (vp_in 2 7 ∧ (r1 = some (Option.getD r1 0) ∧ (((Option.getD r1 0) < ea_n (ea_wi (ea_wi (ea_wi h (b0 + 29) (Int32.toNatClampNeg 0) (ea_i h (Option.getD r1 0) 7)) (b0 + 29) (Int32.toNatClampNeg 1) (ea_i (ea_wi h (b0 + 29) (Int32.toNatClampNeg 0) (ea_i h (Option.getD r1 0) 7)) (Option.getD r1 0) 3)) (b0 + 29) (Int32.toNatClampNeg 2) (ea_i (ea_wi (ea_wi h (b0 + 29) (Int32.toNatClampNeg 0) (ea_i h (Option.getD r1 0) 7)) (b0 + 29) (Int32.toNatClampNeg 1) (ea_i (ea_wi h (b0 + 29) (Int32.toNatClampNeg 0) (ea_i h (Option.getD r1 0) 7)) (Option.getD r1 0) 3)) (Option.getD r1 0) 4)) ∧ ea_c (ea_wi (ea_wi (ea_wi h (b0 + 29) (Int32.toNatClampNeg 0) (ea_i h (Option.getD r1 0) 7)) (b0 + 29) (Int32.toNatClampNeg 1) (ea_i (ea_wi h (b0 + 29) (Int32.toNatClampNeg 0) (ea_i h (Option.getD r1 0) 7)) (Option.getD r1 0) 3)) (b0 + 29) (Int32.toNatClampNeg 2) (ea_i (ea_wi (ea_wi h (b0 + 29) (Int32.toNatClampNeg 0) (ea_i h (Option.getD r1 0) 7)) (b0 + 29) (Int32.toNatClampNeg 1) (ea_i (ea_wi h (b0 + 29) (Int32.toNatClampNeg 0) (ea_i h (Option.getD r1 0) 7)) (Option.getD r1 0) 3)) (Option.getD r1 0) 4)) (Option.getD r1 0) = 4) ∧ (vp_in 3 7 ∧ (r1 = some (Option.getD r1 0) ∧ (((Option.getD r1 0) < ea_n (ea_wi (ea_wi (ea_wi (ea_wi h (b0 + 29) (Int32.toNatClampNeg 0) (ea_i h (Option.getD r1 0) 7)) (b0 + 29) (Int32.toNatClampNeg 1) (ea_i (ea_wi h (b0 + 29) (Int32.toNatClampNeg 0) (ea_i h (Option.getD r1 0) 7)) (Option.getD r1 0) 3)) (b0 + 29) (Int32.toNatClampNeg 2) (ea_i (ea_wi (ea_wi h (b0 + 29) (Int32.toNatClampNeg 0) (ea_i h (Option.getD r1 0) 7)) (b0 + 29) (Int32.toNatClampNeg 1) (ea_i (ea_wi h (b0 + 29) (Int32.toNatClampNeg 0) (ea_i h (Option.getD r1 0) 7)) (Option.getD r1 0) 3)) (Option.getD r1 0) 4)) (b0 + 29) (Int32.toNatClampNeg 3) (((ea_i (ea_wi (ea_wi (ea_wi h (b0 + 29) (Int32.toNatClampNeg 0) (ea_i h (Option.getD r1 0) 7)) (b0 + 29) (Int32.toNatClampNeg 1) (ea_i (ea_wi h (b0 + 29) (Int32.toNatClampNeg 0) (ea_i h (Option.getD r1 0) 7)) (Option.getD r1 0) 3)) (b0 + 29) (Int32.toNatClampNeg 2) (ea_i (ea_wi (ea_wi h (b0 + 29) (Int32.toNatClampNeg 0) (ea_i h (Option.getD r1 0) 7)) (b0 + 29) (Int32.toNatClampNeg 1) (ea_i (ea_wi h (b0 + 29) (Int32.toNatClampNeg 0) (ea_i h (Option.getD r1 0) 7)) (Option.getD r1 0) 3)) (Option.getD r1 0) 4)) (Option.getD r1 0) 6) - (ea_i (ea_wi (ea_wi (ea_wi h (b0 + 29) (Int32.toNatClampNeg 0) (ea_i h (Option.getD r1 0) 7)) (b0 + 29) (Int32.toNatClampNeg 1) (ea_i (ea_wi h (b0 + 29) (Int32.toNatClampNeg 0) (ea_i h (Option.getD r1 0) 7)) (Option.getD r1 0) 3)) (b0 + 29) (Int32.toNatClampNeg 2) (ea_i (ea_wi (ea_wi h (b0 + 29) (Int32.toNatClampNeg 0) (ea_i h (Option.getD r1 0) 7)) (b0 + 29) (Int32.toNatClampNeg 1) (ea_i (ea_wi h (b0 + 29) (Int32.toNatClampNeg 0) (ea_i h (Option.getD r1 0) 7)) (Option.getD r1 0) 3)) (Option.getD r1 0) 4)) (Option.getD r1 0) 6) / (1440 : Int32) * (1440 : Int32)) / (60 : Int32))) ∧ ea_c (ea_wi (ea_wi (ea_wi (ea_wi h (b0 + 29) (Int32.toNatClampNeg 0) (ea_i h (Option.getD r1 0) 7)) (b0 + 29) (Int32.toNatClampNeg 1) (ea_i (ea_wi h (b0 + 29) (Int32.toNatClampNeg 0) (ea_i h (Option.getD r1 0) 7)) (Option.getD r1 0) 3)) (b0 + 29) (Int32.toNatClampNeg 2) (ea_i (ea_wi (ea_wi h (b0 + 29) (Int32.toNatClampNeg 0) (ea_i h (Option.getD r1 0) 7)) (b0 + 29) (Int32.toNatClampNeg 1) (ea_i (ea_wi h (b0 + 29) (Int32.toNatClampNeg 0) (ea_i h (Option.getD r1 0) 7)) (Option.getD r1 0) 3)) (Option.getD r1 0) 4)) (b0 + 29) (Int32.toNatClampNeg 3) (((ea_i (ea_wi (ea_wi (ea_wi h (b0 + 29) (Int32.toNatClampNeg 0) (ea_i h (Option.getD r1 0) 7)) (b0 + 29) (Int32.toNatClampNeg 1) (ea_i (ea_wi h (b0 + 29) (Int32.toNatClampNeg 0) (ea_i h (Option.getD r1 0) 7)) (Option.getD r1 0) 3)) (b0 + 29) (Int32.toNatClampNeg 2) (ea_i (ea_wi (ea_wi h (b0 + 29) (Int32.toNatClampNeg 0) (ea_i h (Option.getD r1 0) 7)) (b0 + 29) (Int32.toNatClampNeg 1) (ea_i (ea_wi h (b0 + 29) (Int32.toNatClampNeg 0) (ea_i h (Option.getD r1 0) 7)) (Option.getD r1 0) 3)) (Option.getD r1 0) 4)) (Option.getD r1 0) 6) - (ea_i (ea_wi (ea_wi (ea_wi h (b0 + 29) (Int32.toNatClampNeg 0) (ea_i h (Option.getD r1 0) 7)) (b0 + 29) (Int32.toNatClampNeg 1) (ea_i (ea_wi h (b0 + 29) (Int32.toNatClampNeg 0) (ea_i h (Option.getD r1 0) 7)) (Option.getD r1 0) 3)) (b0 + 29) (Int32.toNatClampNeg 2) (ea_i (ea_wi (ea_wi h (b0 + 29) (Int32.toNatClampNeg 0) (ea_i h (Option.getD r1 0) 7)) (b0 + 29) (Int32.toNatClampNeg 1) (ea_i (ea_wi h (b0 + 29) (Int32.toNatClampNeg 0) (ea_i h (Option.getD r1 0) 7)) (Option.getD r1 0) 3)) (Option.getD r1 0) 4)) (Option.getD r1 0) 6) / (1440 : Int32) * (1440 : Int32)) / (60 : Int32))) (Option.getD r1 0) = 4) ∧ ((okX4_dayOf b0 (Option.getD r1 0) (ea_wi (ea_wi (ea_wi (ea_wi h (b0 + 29) (Int32.toNatClampNeg 0) (ea_i h (Option.getD r1 0) 7)) (b0 + 29) (Int32.toNatClampNeg 1) (ea_i (ea_wi h (b0 + 29) (Int32.toNatClampNeg 0) (ea_i h (Option.getD r1 0) 7)) (Option.getD r1 0) 3)) (b0 + 29) (Int32.toNatClampNeg 2) (ea_i (ea_wi (ea_wi h (b0 + 29) (Int32.toNatClampNeg 0) (ea_i h (Option.getD r1 0) 7)) (b0 + 29) (Int32.toNatClampNeg 1) (ea_i (ea_wi h (b0 + 29) (Int32.toNatClampNeg 0) (ea_i h (Option.getD r1 0) 7)) (Option.getD r1 0) 3)) (Option.getD r1 0) 4)) (b0 + 29) (Int32.toNatClampNeg 3) (((ea_i (ea_wi (ea_wi (ea_wi h (b0 + 29) (Int32.toNatClampNeg 0) (ea_i h (Option.getD r1 0) 7)) (b0 + 29) (Int32.toNatClampNeg 1) (ea_i (ea_wi h (b0 + 29) (Int32.toNatClampNeg 0) (ea_i h (Option.getD r1 0) 7)) (Option.getD r1 0) 3)) (b0 + 29) (Int32.toNatClampNeg 2) (ea_i (ea_wi (ea_wi h (b0 + 29) (Int32.toNatClampNeg 0) (ea_i h (Option.getD r1 0) 7)) (b0 + 29) (Int32.toNatClampNeg 1) (ea_i (ea_wi h (b0 + 29) (Int32.toNatClampNeg 0) (ea_i h (Option.getD r1 0) 7)) (Option.getD r1 0) 3)) (Option.getD r1 0) 4)) (Option.getD r1 0) 6) - (ea_i (ea_wi (ea_wi (ea_wi h (b0 + 29) (Int32.toNatClampNeg 0) (ea_i h (Option.getD r1 0) 7)) (b0 + 29) (Int32.toNatClampNeg 1) (ea_i (ea_wi h (b0 + 29) (Int32.toNatClampNeg 0) (ea_i h (Option.getD r1 0) 7)) (Option.getD r1 0) 3)) (b0 + 29) (Int32.toNatClampNeg 2) (ea_i (ea_wi (ea_wi h (b0 + 29) (Int32.toNatClampNeg 0) (ea_i h (Option.getD r1 0) 7)) (b0 + 29) (Int32.toNatClampNeg 1) (ea_i (ea_wi h (b0 + 29) (Int32.toNatClampNeg 0) (ea_i h (Option.getD r1 0) 7)) (Option.getD r1 0) 3)) (Option.getD r1 0) 4)) (Option.getD r1 0) 6) / (1440 : Int32) * (1440 : Int32)) / (60 : Int32)))) ∧ (vp_in 4 7 ∧ (r1 = some (Option.getD r1 0) ∧ (((Option.getD r1 0) < ea_n (ea_wi (ea_wi (ea_wi (ea_wi (ea_wi h (b0 + 29) (Int32.toNatClampNeg 0) (ea_i h (Option.getD r1 0) 7)) (b0 + 29) (Int32.toNatClampNeg 1) (ea_i (ea_wi h (b0 + 29) (Int32.toNatClampNeg 0) (ea_i h (Option.getD r1 0) 7)) (Option.getD r1 0) 3)) (b0 + 29) (Int32.toNatClampNeg 2) (ea_i (ea_wi (ea_wi h (b0 + 29) (Int32.toNatClampNeg 0) (ea_i h (Option.getD r1 0) 7)) (b0 + 29) (Int32.toNatClampNeg 1) (ea_i (ea_wi h (b0 + 29) (Int32.toNatClampNeg 0) (ea_i h (Option.getD r1 0) 7)) (Option.getD r1 0) 3)) (Option.getD r1 0) 4)) (b0 + 29) (Int32.toNatClampNeg 3) (((ea_i (ea_wi (ea_wi (ea_wi h (b0 + 29) (Int32.toNatClampNeg 0) (ea_i h (Option.getD r1 0) 7)) (b0 + 29) (Int32.toNatClampNeg 1) (ea_i (ea_wi h (b0 + 29) (Int32.toNatClampNeg 0) (ea_i h (Option.getD r1 0) 7)) (Option.getD r1 0) 3)) (b0 + 29) (Int32.toNatClampNeg 2) (ea_i (ea_wi (ea_wi h (b0 + 29) (Int32.toNatClampNeg 0) (ea_i h (Option.getD r1 0) 7)) (b0 + 29) (Int32.toNatClampNeg 1) (ea_i (ea_wi h (b0 + 29) (Int32.toNatClampNeg 0) (ea_i h (Option.getD r1 0) 7)) (Option.getD r1 0) 3)) (Option.getD r1 0) 4)) (Option.getD r1 0) 6) - (ea_i (ea_wi (ea_wi (ea_wi h (b0 + 29) (Int32.toNatClampNeg 0) (ea_i h (Option.getD r1 0) 7)) (b0 + 29) (Int32.toNatClampNeg 1) (ea_i (ea_wi h (b0 + 29) (Int32.toNatClampNeg 0) (ea_i h (Option.getD r1 0) 7)) (Option.getD r1 0) 3)) (b0 + 29) (Int32.toNatClampNeg 2) (ea_i (ea_wi (ea_wi h (b0 + 29) (Int32.toNatClampNeg 0) (ea_i h (Option.getD r1 0) 7)) (b0 + 29) (Int32.toNatClampNeg 1) (ea_i (ea_wi h (b0 + 29) (Int32.toNatClampNeg 0) (ea_i h (Option.getD r1 0) 7)) (Option.getD r1 0) 3)) (Option.getD r1 0) 4)) (Option.getD r1 0) 6) / (1440 : Int32) * (1440 : Int32)) / (60 : Int32))) (b0 + 29) (Int32.toNatClampNeg 4) (vX4_dayOf b0 (Option.getD r1 0) (ea_wi (ea_wi (ea_wi (ea_wi h (b0 + 29) (Int32.toNatClampNeg 0) (ea_i h (Option.getD r1 0) 7)) (b0 + 29) (Int32.toNatClampNeg 1) (ea_i (ea_wi h (b0 + 29) (Int32.toNatClampNeg 0) (ea_i h (Option.getD r1 0) 7)) (Option.getD r1 0) 3)) (b0 + 29) (Int32.toNatClampNeg 2) (ea_i (ea_wi (ea_wi h (b0 + 29) (Int32.toNatClampNeg 0) (ea_i h (Option.getD r1 0) 7)) (b0 + 29) (Int32.toNatClampNeg 1) (ea_i (ea_wi h (b0 + 29) (Int32.toNatClampNeg 0) (ea_i h (Option.getD r1 0) 7)) (Option.getD r1 0) 3)) (Option.getD r1 0) 4)) (b0 + 29) (Int32.toNatClampNeg 3) (((ea_i (ea_wi (ea_wi (ea_wi h (b0 + 29) (Int32.toNatClampNeg 0) (ea_i h (Option.getD r1 0) 7)) (b0 + 29) (Int32.toNatClampNeg 1) (ea_i (ea_wi h (b0 + 29) (Int32.toNatClampNeg 0) (ea_i h (Option.getD r1 0) 7)) (Option.getD r1 0) 3)) (b0 + 29) (Int32.toNatClampNeg 2) (ea_i (ea_wi (ea_wi h (b0 + 29) (Int32.toNatClampNeg 0) (ea_i h (Option.getD r1 0) 7)) (b0 + 29) (Int32.toNatClampNeg 1) (ea_i (ea_wi h (b0 + 29) (Int32.toNatClampNeg 0) (ea_i h (Option.getD r1 0) 7)) (Option.getD r1 0) 3)) (Option.getD r1 0) 4)) (Option.getD r1 0) 6) - (ea_i (ea_wi (ea_wi (ea_wi h (b0 + 29) (Int32.toNatClampNeg 0) (ea_i h (Option.getD r1 0) 7)) (b0 + 29) (Int32.toNatClampNeg 1) (ea_i (ea_wi h (b0 + 29) (Int32.toNatClampNeg 0) (ea_i h (Option.getD r1 0) 7)) (Option.getD r1 0) 3)) (b0 + 29) (Int32.toNatClampNeg 2) (ea_i (ea_wi (ea_wi h (b0 + 29) (Int32.toNatClampNeg 0) (ea_i h (Option.getD r1 0) 7)) (b0 + 29) (Int32.toNatClampNeg 1) (ea_i (ea_wi h (b0 + 29) (Int32.toNatClampNeg 0) (ea_i h (Option.getD r1 0) 7)) (Option.getD r1 0) 3)) (Option.getD r1 0) 4)) (Option.getD r1 0) 6) / (1440 : Int32) * (1440 : Int32)) / (60 : Int32))))) ∧ ea_c (ea_wi (ea_wi (ea_wi (ea_wi (ea_wi h (b0 + 29) (Int32.toNatClampNeg 0) (ea_i h (Option.getD r1 0) 7)) (b0 + 29) (Int32.toNatClampNeg 1) (ea_i (ea_wi h (b0 + 29) (Int32.toNatClampNeg 0) (ea_i h (Option.getD r1 0) 7)) (Option.getD r1 0) 3)) (b0 + 29) (Int32.toNatClampNeg 2) (ea_i (ea_wi (ea_wi h (b0 + 29) (Int32.toNatClampNeg 0) (ea_i h (Option.getD r1 0) 7)) (b0 + 29) (Int32.toNatClampNeg 1) (ea_i (ea_wi h (b0 + 29) (Int32.toNatClampNeg 0) (ea_i h (Option.getD r1 0) 7)) (Option.getD r1 0) 3)) (Option.getD r1 0) 4)) (b0 + 29) (Int32.toNatClampNeg 3) (((ea_i (ea_wi (ea_wi (ea_wi h (b0 + 29) (Int32.toNatClampNeg 0) (ea_i h (Option.getD r1 0) 7)) (b0 + 29) (Int32.toNatClampNeg 1) (ea_i (ea_wi h (b0 + 29) (Int32.toNatClampNeg 0) (ea_i h (Option.getD r1 0) 7)) (Option.getD r1 0) 3)) (b0 + 29) (Int32.toNatClampNeg 2) (ea_i (ea_wi (ea_wi h (b0 + 29) (Int32.toNatClampNeg 0) (ea_i h (Option.getD r1 0) 7)) (b0 + 29) (Int32.toNatClampNeg 1) (ea_i (ea_wi h (b0 + 29) (Int32.toNatClampNeg 0) (ea_i h (Option.getD r1 0) 7)) (Option.getD r1 0) 3)) (Option.getD r1 0) 4)) (Option.getD r1 0) 6) - (ea_i (ea_wi (ea_wi (ea_wi h (b0 + 29) (Int32.toNatClampNeg 0) (ea_i h (Option.getD r1 0) 7)) (b0 + 29) (Int32.toNatClampNeg 1) (ea_i (ea_wi h (b0 + 29) (Int32.toNatClampNeg 0) (ea_i h (Option.getD r1 0) 7)) (Option.getD r1 0) 3)) (b0 + 29) (Int32.toNatClampNeg 2) (ea_i (ea_wi (ea_wi h (b0 + 29) (Int32.toNatClampNeg 0) (ea_i h (Option.getD r1 0) 7)) (b0 + 29) (Int32.toNatClampNeg 1) (ea_i (ea_wi h (b0 + 29) (Int32.toNatClampNeg 0) (ea_i h (Option.getD r1 0) 7)) (Option.getD r1 0) 3)) (Option.getD r1 0) 4)) (Option.getD r1 0) 6) / (1440 : Int32) * (1440 : Int32)) / (60 : Int32))) (b0 + 29) (Int32.toNatClampNeg 4) (vX4_dayOf b0 (Option.getD r1 0) (ea_wi (ea_wi (ea_wi (ea_wi h (b0 + 29) (Int32.toNatClampNeg 0) (ea_i h (Option.getD r1 0) 7)) (b0 + 29) (Int32.toNatClampNeg 1) (ea_i (ea_wi h (b0 + 29) (Int32.toNatClampNeg 0) (ea_i h (Option.getD r1 0) 7)) (Option.getD r1 0) 3)) (b0 + 29) (Int32.toNatClampNeg 2) (ea_i (ea_wi (ea_wi h (b0 + 29) (Int32.toNatClampNeg 0) (ea_i h (Option.getD r1 0) 7)) (b0 + 29) (Int32.toNatClampNeg 1) (ea_i (ea_wi h (b0 + 29) (Int32.toNatClampNeg 0) (ea_i h (Option.getD r1 0) 7)) (Option.getD r1 0) 3)) (Option.getD r1 0) 4)) (b0 + 29) (Int32.toNatClampNeg 3) (((ea_i (ea_wi (ea_wi (ea_wi h (b0 + 29) (Int32.toNatClampNeg 0) (ea_i h (Option.getD r1 0) 7)) (b0 + 29) (Int32.toNatClampNeg 1) (ea_i (ea_wi h (b0 + 29) (Int32.toNatClampNeg 0) (ea_i h (Option.getD r1 0) 7)) (Option.getD r1 0) 3)) (b0 + 29) (Int32.toNatClampNeg 2) (ea_i (ea_wi (ea_wi h (b0 + 29) (Int32.toNatClampNeg 0) (ea_i h (Option.getD r1 0) 7)) (b0 + 29) (Int32.toNatClampNeg 1) (ea_i (ea_wi h (b0 + 29) (Int32.toNatClampNeg 0) (ea_i h (Option.getD r1 0) 7)) (Option.getD r1 0) 3)) (Option.getD r1 0) 4)) (Option.getD r1 0) 6) - (ea_i (ea_wi (ea_wi (ea_wi h (b0 + 29) (Int32.toNatClampNeg 0) (ea_i h (Option.getD r1 0) 7)) (b0 + 29) (Int32.toNatClampNeg 1) (ea_i (ea_wi h (b0 + 29) (Int32.toNatClampNeg 0) (ea_i h (Option.getD r1 0) 7)) (Option.getD r1 0) 3)) (b0 + 29) (Int32.toNatClampNeg 2) (ea_i (ea_wi (ea_wi h (b0 + 29) (Int32.toNatClampNeg 0) (ea_i h (Option.getD r1 0) 7)) (b0 + 29) (Int32.toNatClampNeg 1) (ea_i (ea_wi h (b0 + 29) (Int32.toNatClampNeg 0) (ea_i h (Option.getD r1 0) 7)) (Option.getD r1 0) 3)) (Option.getD r1 0) 4)) (Option.getD r1 0) 6) / (1440 : Int32) * (1440 : Int32)) / (60 : Int32))))) (Option.getD r1 0) = 4) ∧ (vp_in 5 7 ∧ (r1 = some (Option.getD r1 0) ∧ (((Option.getD r1 0) < ea_n (ea_wi (ea_wi (ea_wi (ea_wi (ea_wi (ea_wi h (b0 + 29) (Int32.toNatClampNeg 0) (ea_i h (Option.getD r1 0) 7)) (b0 + 29) (Int32.toNatClampNeg 1) (ea_i (ea_wi h (b0 + 29) (Int32.toNatClampNeg 0) (ea_i h (Option.getD r1 0) 7)) (Option.getD r1 0) 3)) (b0 + 29) (Int32.toNatClampNeg 2) (ea_i (ea_wi (ea_wi h (b0 + 29) (Int32.toNatClampNeg 0) (ea_i h (Option.getD r1 0) 7)) (b0 + 29) (Int32.toNatClampNeg 1) (ea_i (ea_wi h (b0 + 29) (Int32.toNatClampNeg 0) (ea_i h (Option.getD r1 0) 7)) (Option.getD r1 0) 3)) (Option.getD r1 0) 4)) (b0 + 29) (Int32.toNatClampNeg 3) (((ea_i (ea_wi (ea_wi (ea_wi h (b0 + 29) (Int32.toNatClampNeg 0) (ea_i h (Option.getD r1 0) 7)) (b0 + 29) (Int32.toNatClampNeg 1) (ea_i (ea_wi h (b0 + 29) (Int32.toNatClampNeg 0) (ea_i h (Option.getD r1 0) 7)) (Option.getD r1 0) 3)) (b0 + 29) (Int32.toNatClampNeg 2) (ea_i (ea_wi (ea_wi h (b0 + 29) (Int32.toNatClampNeg 0) (ea_i h (Option.getD r1 0) 7)) (b0 + 29) (Int32.toNatClampNeg 1) (ea_i (ea_wi h (b0 + 29) (Int32.toNatClampNeg 0) (ea_i h (Option.getD r1 0) 7)) (Option.getD r1 0) 3)) (Option.getD r1 0) 4)) (Option.getD r1 0) 6) - (ea_i (ea_wi (ea_wi (ea_wi h (b0 + 29) (Int32.toNatClampNeg 0) (ea_i h (Option.getD r1 0) 7)) (b0 + 29) (Int32.toNatClampNeg 1) (ea_i (ea_wi h (b0 + 29) (Int32.toNatClampNeg 0) (ea_i h (Option.getD r1 0) 7)) (Option.getD r1 0) 3)) (b0 + 29) (Int32.toNatClampNeg 2) (ea_i (ea_wi (ea_wi h (b0 + 29) (Int32.toNatClampNeg 0) (ea_i h (Option.getD r1 0) 7)) (b0 + 29) (Int32.toNatClampNeg 1) (ea_i (ea_wi h (b0 + 29) (Int32.toNatClampNeg 0) (ea_i h (Option.getD r1 0) 7)) (Option.getD r1 0) 3)) (Option.getD r1 0) 4)) (Option.getD r1 0) 6) / (1440 : Int32) * (1440 : Int32)) / (60 : Int32))) (b0 + 29) (Int32.toNatClampNeg 4) (vX4_dayOf b0 (Option.getD r1 0) (ea_wi (ea_wi (ea_wi (ea_wi h (b0 + 29) (Int32.toNatClampNeg 0) (ea_i h (Option.getD r1 0) 7)) (b0 + 29) (Int32.toNatClampNeg 1) (ea_i (ea_wi h (b0 + 29) (Int32.toNatClampNeg 0) (ea_i h (Option.getD r1 0) 7)) (Option.getD r1 0) 3)) (b0 + 29) (Int32.toNatClampNeg 2) (ea_i (ea_wi (ea_wi h (b0 + 29) (Int32.toNatClampNeg 0) (ea_i h (Option.getD r1 0) 7)) (b0 + 29) (Int32.toNatClampNeg 1) (ea_i (ea_wi h (b0 + 29) (Int32.toNatClampNeg 0) (ea_i h (Option.getD r1 0) 7)) (Option.getD r1 0) 3)) (Option.getD r1 0) 4)) (b0 + 29) (Int32.toNatClampNeg 3) (((ea_i (ea_wi (ea_wi (ea_wi h (b0 + 29) (Int32.toNatClampNeg 0) (ea_i h (Option.getD r1 0) 7)) (b0 + 29) (Int32.toNatClampNeg 1) (ea_i (ea_wi h (b0 + 29) (Int32.toNatClampNeg 0) (ea_i h (Option.getD r1 0) 7)) (Option.getD r1 0) 3)) (b0 + 29) (Int32.toNatClampNeg 2) (ea_i (ea_wi (ea_wi h (b0 + 29) (Int32.toNatClampNeg 0) (ea_i h (Option.getD r1 0) 7)) (b0 + 29) (Int32.toNatClampNeg 1) (ea_i (ea_wi h (b0 + 29) (Int32.toNatClampNeg 0) (ea_i h (Option.getD r1 0) 7)) (Option.getD r1 0) 3)) (Option.getD r1 0) 4)) (Option.getD r1 0) 6) - (ea_i (ea_wi (ea_wi (ea_wi h (b0 + 29) (Int32.toNatClampNeg 0) (ea_i h (Option.getD r1 0) 7)) (b0 + 29) (Int32.toNatClampNeg 1) (ea_i (ea_wi h (b0 + 29) (Int32.toNatClampNeg 0) (ea_i h (Option.getD r1 0) 7)) (Option.getD r1 0) 3)) (b0 + 29) (Int32.toNatClampNeg 2) (ea_i (ea_wi (ea_wi h (b0 + 29) (Int32.toNatClampNeg 0) (ea_i h (Option.getD r1 0) 7)) (b0 + 29) (Int32.toNatClampNeg 1) (ea_i (ea_wi h (b0 + 29) (Int32.toNatClampNeg 0) (ea_i h (Option.getD r1 0) 7)) (Option.getD r1 0) 3)) (Option.getD r1 0) 4)) (Option.getD r1 0) 6) / (1440 : Int32) * (1440 : Int32)) / (60 : Int32))))) (b0 + 29) (Int32.toNatClampNeg 5) (ea_i (ea_wi (ea_wi (ea_wi (ea_wi (ea_wi h (b0 + 29) (Int32.toNatClampNeg 0) (ea_i h (Option.getD r1 0) 7)) (b0 + 29) (Int32.toNatClampNeg 1) (ea_i (ea_wi h (b0 + 29) (Int32.toNatClampNeg 0) (ea_i h (Option.getD r1 0) 7)) (Option.getD r1 0) 3)) (b0 + 29) (Int32.toNatClampNeg 2) (ea_i (ea_wi (ea_wi h (b0 + 29) (Int32.toNatClampNeg 0) (ea_i h (Option.getD r1 0) 7)) (b0 + 29) (Int32.toNatClampNeg 1) (ea_i (ea_wi h (b0 + 29) (Int32.toNatClampNeg 0) (ea_i h (Option.getD r1 0) 7)) (Option.getD r1 0) 3)) (Option.getD r1 0) 4)) (b0 + 29) (Int32.toNatClampNeg 3) (((ea_i (ea_wi (ea_wi (ea_wi h (b0 + 29) (Int32.toNatClampNeg 0) (ea_i h (Option.getD r1 0) 7)) (b0 + 29) (Int32.toNatClampNeg 1) (ea_i (ea_wi h (b0 + 29) (Int32.toNatClampNeg 0) (ea_i h (Option.getD r1 0) 7)) (Option.getD r1 0) 3)) (b0 + 29) (Int32.toNatClampNeg 2) (ea_i (ea_wi (ea_wi h (b0 + 29) (Int32.toNatClampNeg 0) (ea_i h (Option.getD r1 0) 7)) (b0 + 29) (Int32.toNatClampNeg 1) (ea_i (ea_wi h (b0 + 29) (Int32.toNatClampNeg 0) (ea_i h (Option.getD r1 0) 7)) (Option.getD r1 0) 3)) (Option.getD r1 0) 4)) (Option.getD r1 0) 6) - (ea_i (ea_wi (ea_wi (ea_wi h (b0 + 29) (Int32.toNatClampNeg 0) (ea_i h (Option.getD r1 0) 7)) (b0 + 29) (Int32.toNatClampNeg 1) (ea_i (ea_wi h (b0 + 29) (Int32.toNatClampNeg 0) (ea_i h (Option.getD r1 0) 7)) (Option.getD r1 0) 3)) (b0 + 29) (Int32.toNatClampNeg 2) (ea_i (ea_wi (ea_wi h (b0 + 29) (Int32.toNatClampNeg 0) (ea_i h (Option.getD r1 0) 7)) (b0 + 29) (Int32.toNatClampNeg 1) (ea_i (ea_wi h (b0 + 29) (Int32.toNatClampNeg 0) (ea_i h (Option.getD r1 0) 7)) (Option.getD r1 0) 3)) (Option.getD r1 0) 4)) (Option.getD r1 0) 6) / (1440 : Int32) * (1440 : Int32)) / (60 : Int32))) (b0 + 29) (Int32.toNatClampNeg 4) (vX4_dayOf b0 (Option.getD r1 0) (ea_wi (ea_wi (ea_wi (ea_wi h (b0 + 29) (Int32.toNatClampNeg 0) (ea_i h (Option.getD r1 0) 7)) (b0 + 29) (Int32.toNatClampNeg 1) (ea_i (ea_wi h (b0 + 29) (Int32.toNatClampNeg 0) (ea_i h (Option.getD r1 0) 7)) (Option.getD r1 0) 3)) (b0 + 29) (Int32.toNatClampNeg 2) (ea_i (ea_wi (ea_wi h (b0 + 29) (Int32.toNatClampNeg 0) (ea_i h (Option.getD r1 0) 7)) (b0 + 29) (Int32.toNatClampNeg 1) (ea_i (ea_wi h (b0 + 29) (Int32.toNatClampNeg 0) (ea_i h (Option.getD r1 0) 7)) (Option.getD r1 0) 3)) (Option.getD r1 0) 4)) (b0 + 29) (Int32.toNatClampNeg 3) (((ea_i (ea_wi (ea_wi (ea_wi h (b0 + 29) (Int32.toNatClampNeg 0) (ea_i h (Option.getD r1 0) 7)) (b0 + 29) (Int32.toNatClampNeg 1) (ea_i (ea_wi h (b0 + 29) (Int32.toNatClampNeg 0) (ea_i h (Option.getD r1 0) 7)) (Option.getD r1 0) 3)) (b0 + 29) (Int32.toNatClampNeg 2) (ea_i (ea_wi (ea_wi h (b0 + 29) (Int32.toNatClampNeg 0) (ea_i h (Option.getD r1 0) 7)) (b0 + 29) (Int32.toNatClampNeg 1) (ea_i (ea_wi h (b0 + 29) (Int32.toNatClampNeg 0) (ea_i h (Option.getD r1 0) 7)) (Option.getD r1 0) 3)) (Option.getD r1 0) 4)) (Option.getD r1 0) 6) - (ea_i (ea_wi (ea_wi (ea_wi h (b0 + 29) (Int32.toNatClampNeg 0) (ea_i h (Option.getD r1 0) 7)) (b0 + 29) (Int32.toNatClampNeg 1) (ea_i (ea_wi h (b0 + 29) (Int32.toNatClampNeg 0) (ea_i h (Option.getD r1 0) 7)) (Option.getD r1 0) 3)) (b0 + 29) (Int32.toNatClampNeg 2) (ea_i (ea_wi (ea_wi h (b0 + 29) (Int32.toNatClampNeg 0) (ea_i h (Option.getD r1 0) 7)) (b0 + 29) (Int32.toNatClampNeg 1) (ea_i (ea_wi h (b0 + 29) (Int32.toNatClampNeg 0) (ea_i h (Option.getD r1 0) 7)) (Option.getD r1 0) 3)) (Option.getD r1 0) 4)) (Option.getD r1 0) 6) / (1440 : Int32) * (1440 : Int32)) / (60 : Int32))))) (Option.getD r1 0) 0)) ∧ ea_c (ea_wi (ea_wi (ea_wi (ea_wi (ea_wi (ea_wi h (b0 + 29) (Int32.toNatClampNeg 0) (ea_i h (Option.getD r1 0) 7)) (b0 + 29) (Int32.toNatClampNeg 1) (ea_i (ea_wi h (b0 + 29) (Int32.toNatClampNeg 0) (ea_i h (Option.getD r1 0) 7)) (Option.getD r1 0) 3)) (b0 + 29) (Int32.toNatClampNeg 2) (ea_i (ea_wi (ea_wi h (b0 + 29) (Int32.toNatClampNeg 0) (ea_i h (Option.getD r1 0) 7)) (b0 + 29) (Int32.toNatClampNeg 1) (ea_i (ea_wi h (b0 + 29) (Int32.toNatClampNeg 0) (ea_i h (Option.getD r1 0) 7)) (Option.getD r1 0) 3)) (Option.getD r1 0) 4)) (b0 + 29) (Int32.toNatClampNeg 3) (((ea_i (ea_wi (ea_wi (ea_wi h (b0 + 29) (Int32.toNatClampNeg 0) (ea_i h (Option.getD r1 0) 7)) (b0 + 29) (Int32.toNatClampNeg 1) (ea_i (ea_wi h (b0 + 29) (Int32.toNatClampNeg 0) (ea_i h (Option.getD r1 0) 7)) (Option.getD r1 0) 3)) (b0 + 29) (Int32.toNatClampNeg 2) (ea_i (ea_wi (ea_wi h (b0 + 29) (Int32.toNatClampNeg 0) (ea_i h (Option.getD r1 0) 7)) (b0 + 29) (Int32.toNatClampNeg 1) (ea_i (ea_wi h (b0 + 29) (Int32.toNatClampNeg 0) (ea_i h (Option.getD r1 0) 7)) (Option.getD r1 0) 3)) (Option.getD r1 0) 4)) (Option.getD r1 0) 6) - (ea_i (ea_wi (ea_wi (ea_wi h (b0 + 29) (Int32.toNatClampNeg 0) (ea_i h (Option.getD r1 0) 7)) (b0 + 29) (Int32.toNatClampNeg 1) (ea_i (ea_wi h (b0 + 29) (Int32.toNatClampNeg 0) (ea_i h (Option.getD r1 0) 7)) (Option.getD r1 0) 3)) (b0 + 29) (Int32.toNatClampNeg 2) (ea_i (ea_wi (ea_wi h (b0 + 29) (Int32.toNatClampNeg 0) (ea_i h (Option.getD r1 0) 7)) (b0 + 29) (Int32.toNatClampNeg 1) (ea_i (ea_wi h (b0 + 29) (Int32.toNatClampNeg 0) (ea_i h (Option.getD r1 0) 7)) (Option.getD r1 0) 3)) (Option.getD r1 0) 4)) (Option.getD r1 0) 6) / (1440 : Int32) * (1440 : Int32)) / (60 : Int32))) (b0 + 29) (Int32.toNatClampNeg 4) (vX4_dayOf b0 (Option.getD r1 0) (ea_wi (ea_wi (ea_wi (ea_wi h (b0 + 29) (Int32.toNatClampNeg 0) (ea_i h (Option.getD r1 0) 7)) (b0 + 29) (Int32.toNatClampNeg 1) (ea_i (ea_wi h (b0 + 29) (Int32.toNatClampNeg 0) (ea_i h (Option.getD r1 0) 7)) (Option.getD r1 0) 3)) (b0 + 29) (Int32.toNatClampNeg 2) (ea_i (ea_wi (ea_wi h (b0 + 29) (Int32.toNatClampNeg 0) (ea_i h (Option.getD r1 0) 7)) (b0 + 29) (Int32.toNatClampNeg 1) (ea_i (ea_wi h (b0 + 29) (Int32.toNatClampNeg 0) (ea_i h (Option.getD r1 0) 7)) (Option.getD r1 0) 3)) (Option.getD r1 0) 4)) (b0 + 29) (Int32.toNatClampNeg 3) (((ea_i (ea_wi (ea_wi (ea_wi h (b0 + 29) (Int32.toNatClampNeg 0) (ea_i h (Option.getD r1 0) 7)) (b0 + 29) (Int32.toNatClampNeg 1) (ea_i (ea_wi h (b0 + 29) (Int32.toNatClampNeg 0) (ea_i h (Option.getD r1 0) 7)) (Option.getD r1 0) 3)) (b0 + 29) (Int32.toNatClampNeg 2) (ea_i (ea_wi (ea_wi h (b0 + 29) (Int32.toNatClampNeg 0) (ea_i h (Option.getD r1 0) 7)) (b0 + 29) (Int32.toNatClampNeg 1) (ea_i (ea_wi h (b0 + 29) (Int32.toNatClampNeg 0) (ea_i h (Option.getD r1 0) 7)) (Option.getD r1 0) 3)) (Option.getD r1 0) 4)) (Option.getD r1 0) 6) - (ea_i (ea_wi (ea_wi (ea_wi h (b0 + 29) (Int32.toNatClampNeg 0) (ea_i h (Option.getD r1 0) 7)) (b0 + 29) (Int32.toNatClampNeg 1) (ea_i (ea_wi h (b0 + 29) (Int32.toNatClampNeg 0) (ea_i h (Option.getD r1 0) 7)) (Option.getD r1 0) 3)) (b0 + 29) (Int32.toNatClampNeg 2) (ea_i (ea_wi (ea_wi h (b0 + 29) (Int32.toNatClampNeg 0) (ea_i h (Option.getD r1 0) 7)) (b0 + 29) (Int32.toNatClampNeg 1) (ea_i (ea_wi h (b0 + 29) (Int32.toNatClampNeg 0) (ea_i h (Option.getD r1 0) 7)) (Option.getD r1 0) 3)) (Option.getD r1 0) 4)) (Option.getD r1 0) 6) / (1440 : Int32) * (1440 : Int32)) / (60 : Int32))))) (b0 + 29) (Int32.toNatClampNeg 5) (ea_i (ea_wi (ea_wi (ea_wi (ea_wi (ea_wi h (b0 + 29) (Int32.toNatClampNeg 0) (ea_i h (Option.getD r1 0) 7)) (b0 + 29) (Int32.toNatClampNeg 1) (ea_i (ea_wi h (b0 + 29) (Int32.toNatClampNeg 0) (ea_i h (Option.getD r1 0) 7)) (Option.getD r1 0) 3)) (b0 + 29) (Int32.toNatClampNeg 2) (ea_i (ea_wi (ea_wi h (b0 + 29) (Int32.toNatClampNeg 0) (ea_i h (Option.getD r1 0) 7)) (b0 + 29) (Int32.toNatClampNeg 1) (ea_i (ea_wi h (b0 + 29) (Int32.toNatClampNeg 0) (ea_i h (Option.getD r1 0) 7)) (Option.getD r1 0) 3)) (Option.getD r1 0) 4)) (b0 + 29) (Int32.toNatClampNeg 3) (((ea_i (ea_wi (ea_wi (ea_wi h (b0 + 29) (Int32.toNatClampNeg 0) (ea_i h (Option.getD r1 0) 7)) (b0 + 29) (Int32.toNatClampNeg 1) (ea_i (ea_wi h (b0 + 29) (Int32.toNatClampNeg 0) (ea_i h (Option.getD r1 0) 7)) (Option.getD r1 0) 3)) (b0 + 29) (Int32.toNatClampNeg 2) (ea_i (ea_wi (ea_wi h (b0 + 29) (Int32.toNatClampNeg 0) (ea_i h (Option.getD r1 0) 7)) (b0 + 29) (Int32.toNatClampNeg 1) (ea_i (ea_wi h (b0 + 29) (Int32.toNatClampNeg 0) (ea_i h (Option.getD r1 0) 7)) (Option.getD r1 0) 3)) (Option.getD r1 0) 4)) (Option.getD r1 0) 6) - (ea_i (ea_wi (ea_wi (ea_wi h (b0 + 29) (Int32.toNatClampNeg 0) (ea_i h (Option.getD r1 0) 7)) (b0 + 29) (Int32.toNatClampNeg 1) (ea_i (ea_wi h (b0 + 29) (Int32.toNatClampNeg 0) (ea_i h (Option.getD r1 0) 7)) (Option.getD r1 0) 3)) (b0 + 29) (Int32.toNatClampNeg 2) (ea_i (ea_wi (ea_wi h (b0 + 29) (Int32.toNatClampNeg 0) (ea_i h (Option.getD r1 0) 7)) (b0 + 29) (Int32.toNatClampNeg 1) (ea_i (ea_wi h (b0 + 29) (Int32.toNatClampNeg 0) (ea_i h (Option.getD r1 0) 7)) (Option.getD r1 0) 3)) (Option.getD r1 0) 4)) (Option.getD r1 0) 6) / (1440 : Int32) * (1440 : Int32)) / (60 : Int32))) (b0 + 29) (Int32.toNatClampNeg 4) (vX4_dayOf b0 (Option.getD r1 0) (ea_wi (ea_wi (ea_wi (ea_wi h (b0 + 29) (Int32.toNatClampNeg 0) (ea_i h (Option.getD r1 0) 7)) (b0 + 29) (Int32.toNatClampNeg 1) (ea_i (ea_wi h (b0 + 29) (Int32.toNatClampNeg 0) (ea_i h (Option.getD r1 0) 7)) (Option.getD r1 0) 3)) (b0 + 29) (Int32.toNatClampNeg 2) (ea_i (ea_wi (ea_wi h (b0 + 29) (Int32.toNatClampNeg 0) (ea_i h (Option.getD r1 0) 7)) (b0 + 29) (Int32.toNatClampNeg 1) (ea_i (ea_wi h (b0 + 29) (Int32.toNatClampNeg 0) (ea_i h (Option.getD r1 0) 7)) (Option.getD r1 0) 3)) (Option.getD r1 0) 4)) (b0 + 29) (Int32.toNatClampNeg 3) (((ea_i (ea_wi (ea_wi (ea_wi h (b0 + 29) (Int32.toNatClampNeg 0) (ea_i h (Option.getD r1 0) 7)) (b0 + 29) (Int32.toNatClampNeg 1) (ea_i (ea_wi h (b0 + 29) (Int32.toNatClampNeg 0) (ea_i h (Option.getD r1 0) 7)) (Option.getD r1 0) 3)) (b0 + 29) (Int32.toNatClampNeg 2) (ea_i (ea_wi (ea_wi h (b0 + 29) (Int32.toNatClampNeg 0) (ea_i h (Option.getD r1 0) 7)) (b0 + 29) (Int32.toNatClampNeg 1) (ea_i (ea_wi h (b0 + 29) (Int32.toNatClampNeg 0) (ea_i h (Option.getD r1 0) 7)) (Option.getD r1 0) 3)) (Option.getD r1 0) 4)) (Option.getD r1 0) 6) - (ea_i (ea_wi (ea_wi (ea_wi h (b0 + 29) (Int32.toNatClampNeg 0) (ea_i h (Option.getD r1 0) 7)) (b0 + 29) (Int32.toNatClampNeg 1) (ea_i (ea_wi h (b0 + 29) (Int32.toNatClampNeg 0) (ea_i h (Option.getD r1 0) 7)) (Option.getD r1 0) 3)) (b0 + 29) (Int32.toNatClampNeg 2) (ea_i (ea_wi (ea_wi h (b0 + 29) (Int32.toNatClampNeg 0) (ea_i h (Option.getD r1 0) 7)) (b0 + 29) (Int32.toNatClampNeg 1) (ea_i (ea_wi h (b0 + 29) (Int32.toNatClampNeg 0) (ea_i h (Option.getD r1 0) 7)) (Option.getD r1 0) 3)) (Option.getD r1 0) 4)) (Option.getD r1 0) 6) / (1440 : Int32) * (1440 : Int32)) / (60 : Int32))))) (Option.getD r1 0) 0)) (Option.getD r1 0) = 4) ∧ (((ea_i (ea_wi (ea_wi (ea_wi (ea_wi (ea_wi (ea_wi h (b0 + 29) (Int32.toNatClampNeg 0) (ea_i h (Option.getD r1 0) 7)) (b0 + 29) (Int32.toNatClampNeg 1) (ea_i (ea_wi h (b0 + 29) (Int32.toNatClampNeg 0) (ea_i h (Option.getD r1 0) 7)) (Option.getD r1 0) 3)) (b0 + 29) (Int32.toNatClampNeg 2) (ea_i (ea_wi (ea_wi h (b0 + 29) (Int32.toNatClampNeg 0) (ea_i h (Option.getD r1 0) 7)) (b0 + 29) (Int32.toNatClampNeg 1) (ea_i (ea_wi h (b0 + 29) (Int32.toNatClampNeg 0) (ea_i h (Option.getD r1 0) 7)) (Option.getD r1 0) 3)) (Option.getD r1 0) 4)) (b0 + 29) (Int32.toNatClampNeg 3) (((ea_i (ea_wi (ea_wi (ea_wi h (b0 + 29) (Int32.toNatClampNeg 0) (ea_i h (Option.getD r1 0) 7)) (b0 + 29) (Int32.toNatClampNeg 1) (ea_i (ea_wi h (b0 + 29) (Int32.toNatClampNeg 0) (ea_i h (Option.getD r1 0) 7)) (Option.getD r1 0) 3)) (b0 + 29) (Int32.toNatClampNeg 2) (ea_i (ea_wi (ea_wi h (b0 + 29) (Int32.toNatClampNeg 0) (ea_i h (Option.getD r1 0) 7)) (b0 + 29) (Int32.toNatClampNeg 1) (ea_i (ea_wi h (b0 + 29) (Int32.toNatClampNeg 0) (ea_i h (Option.getD r1 0) 7)) (Option.getD r1 0) 3)) (Option.getD r1 0) 4)) (Option.getD r1 0) 6) - (ea_i (ea_wi (ea_wi (ea_wi h (b0 + 29) (Int32.toNatClampNeg 0) (ea_i h (Option.getD r1 0) 7)) (b0 + 29) (Int32.toNatClampNeg 1) (ea_i (ea_wi h (b0 + 29) (Int32.toNatClampNeg 0) (ea_i h (Option.getD r1 0) 7)) (Option.getD r1 0) 3)) (b0 + 29) (Int32.toNatClampNeg 2) (ea_i (ea_wi (ea_wi h (b0 + 29) (Int32.toNatClampNeg 0) (ea_i h (Option.getD r1 0) 7)) (b0 + 29) (Int32.toNatClampNeg 1) (ea_i (ea_wi h (b0 + 29) (Int32.toNatClampNeg 0) (ea_i h (Option.getD r1 0) 7)) (Option.getD r1 0) 3)) (Option.getD r1 0) 4)) (Option.getD r1 0) 6) / (1440 : Int32) * (1440 : Int32)) / (60 : Int32))) (b0 + 29) (Int32.toNatClampNeg 4) (vX4_dayOf b0 (Option.getD r1 0) (ea_wi (ea_wi (ea_wi (ea_wi h (b0 + 29) (Int32.toNatClampNeg 0) (ea_i h (Option.getD r1 0) 7)) (b0 + 29) (Int32.toNatClampNeg 1) (ea_i (ea_wi h (b0 + 29) (Int32.toNatClampNeg 0) (ea_i h (Option.getD r1 0) 7)) (Option.getD r1 0) 3)) (b0 + 29) (Int32.toNatClampNeg 2) (ea_i (ea_wi (ea_wi h (b0 + 29) (Int32.toNatClampNeg 0) (ea_i h (Option.getD r1 0) 7)) (b0 + 29) (Int32.toNatClampNeg 1) (ea_i (ea_wi h (b0 + 29) (Int32.toNatClampNeg 0) (ea_i h (Option.getD r1 0) 7)) (Option.getD r1 0) 3)) (Option.getD r1 0) 4)) (b0 + 29) (Int32.toNatClampNeg 3) (((ea_i (ea_wi (ea_wi (ea_wi h (b0 + 29) (Int32.toNatClampNeg 0) (ea_i h (Option.getD r1 0) 7)) (b0 + 29) (Int32.toNatClampNeg 1) (ea_i (ea_wi h (b0 + 29) (Int32.toNatClampNeg 0) (ea_i h (Option.getD r1 0) 7)) (Option.getD r1 0) 3)) (b0 + 29) (Int32.toNatClampNeg 2) (ea_i (ea_wi (ea_wi h (b0 + 29) (Int32.toNatClampNeg 0) (ea_i h (Option.getD r1 0) 7)) (b0 + 29) (Int32.toNatClampNeg 1) (ea_i (ea_wi h (b0 + 29) (Int32.toNatClampNeg 0) (ea_i h (Option.getD r1 0) 7)) (Option.getD r1 0) 3)) (Option.getD r1 0) 4)) (Option.getD r1 0) 6) - (ea_i (ea_wi (ea_wi (ea_wi h (b0 + 29) (Int32.toNatClampNeg 0) (ea_i h (Option.getD r1 0) 7)) (b0 + 29) (Int32.toNatClampNeg 1) (ea_i (ea_wi h (b0 + 29) (Int32.toNatClampNeg 0) (ea_i h (Option.getD r1 0) 7)) (Option.getD r1 0) 3)) (b0 + 29) (Int32.toNatClampNeg 2) (ea_i (ea_wi (ea_wi h (b0 + 29) (Int32.toNatClampNeg 0) (ea_i h (Option.getD r1 0) 7)) (b0 + 29) (Int32.toNatClampNeg 1) (ea_i (ea_wi h (b0 + 29) (Int32.toNatClampNeg 0) (ea_i h (Option.getD r1 0) 7)) (Option.getD r1 0) 3)) (Option.getD r1 0) 4)) (Option.getD r1 0) 6) / (1440 : Int32) * (1440 : Int32)) / (60 : Int32))))) (b0 + 29) (Int32.toNatClampNeg 5) (ea_i (ea_wi (ea_wi (ea_wi (ea_wi (ea_wi h (b0 + 29) (Int32.toNatClampNeg 0) (ea_i h (Option.getD r1 0) 7)) (b0 + 29) (Int32.toNatClampNeg 1) (ea_i (ea_wi h (b0 + 29) (Int32.toNatClampNeg 0) (ea_i h (Option.getD r1 0) 7)) (Option.getD r1 0) 3)) (b0 + 29) (Int32.toNatClampNeg 2) (ea_i (ea_wi (ea_wi h (b0 + 29) (Int32.toNatClampNeg 0) (ea_i h (Option.getD r1 0) 7)) (b0 + 29) (Int32.toNatClampNeg 1) (ea_i (ea_wi h (b0 + 29) (Int32.toNatClampNeg 0) (ea_i h (Option.getD r1 0) 7)) (Option.getD r1 0) 3)) (Option.getD r1 0) 4)) (b0 + 29) (Int32.toNatClampNeg 3) (((ea_i (ea_wi (ea_wi (ea_wi h (b0 + 29) (Int32.toNatClampNeg 0) (ea_i h (Option.getD r1 0) 7)) (b0 + 29) (Int32.toNatClampNeg 1) (ea_i (ea_wi h (b0 + 29) (Int32.toNatClampNeg 0) (ea_i h (Option.getD r1 0) 7)) (Option.getD r1 0) 3)) (b0 + 29) (Int32.toNatClampNeg 2) (ea_i (ea_wi (ea_wi h (b0 + 29) (Int32.toNatClampNeg 0) (ea_i h (Option.getD r1 0) 7)) (b0 + 29) (Int32.toNatClampNeg 1) (ea_i (ea_wi h (b0 + 29) (Int32.toNatClampNeg 0) (ea_i h (Option.getD r1 0) 7)) (Option.getD r1 0) 3)) (Option.getD r1 0) 4)) (Option.getD r1 0) 6) - (ea_i (ea_wi (ea_wi (ea_wi h (b0 + 29) (Int32.toNatClampNeg 0) (ea_i h (Option.getD r1 0) 7)) (b0 + 29) (Int32.toNatClampNeg 1) (ea_i (ea_wi h (b0 + 29) (Int32.toNatClampNeg 0) (ea_i h (Option.getD r1 0) 7)) (Option.getD r1 0) 3)) (b0 + 29) (Int32.toNatClampNeg 2) (ea_i (ea_wi (ea_wi h (b0 + 29) (Int32.toNatClampNeg 0) (ea_i h (Option.getD r1 0) 7)) (b0 + 29) (Int32.toNatClampNeg 1) (ea_i (ea_wi h (b0 + 29) (Int32.toNatClampNeg 0) (ea_i h (Option.getD r1 0) 7)) (Option.getD r1 0) 3)) (Option.getD r1 0) 4)) (Option.getD r1 0) 6) / (1440 : Int32) * (1440 : Int32)) / (60 : Int32))) (b0 + 29) (Int32.toNatClampNeg 4) (vX4_dayOf b0 (Option.getD r1 0) (ea_wi (ea_wi (ea_wi (ea_wi h (b0 + 29) (Int32.toNatClampNeg 0) (ea_i h (Option.getD r1 0) 7)) (b0 + 29) (Int32.toNatClampNeg 1) (ea_i (ea_wi h (b0 + 29) (Int32.toNatClampNeg 0) (ea_i h (Option.getD r1 0) 7)) (Option.getD r1 0) 3)) (b0 + 29) (Int32.toNatClampNeg 2) (ea_i (ea_wi (ea_wi h (b0 + 29) (Int32.toNatClampNeg 0) (ea_i h (Option.getD r1 0) 7)) (b0 + 29) (Int32.toNatClampNeg 1) (ea_i (ea_wi h (b0 + 29) (Int32.toNatClampNeg 0) (ea_i h (Option.getD r1 0) 7)) (Option.getD r1 0) 3)) (Option.getD r1 0) 4)) (b0 + 29) (Int32.toNatClampNeg 3) (((ea_i (ea_wi (ea_wi (ea_wi h (b0 + 29) (Int32.toNatClampNeg 0) (ea_i h (Option.getD r1 0) 7)) (b0 + 29) (Int32.toNatClampNeg 1) (ea_i (ea_wi h (b0 + 29) (Int32.toNatClampNeg 0) (ea_i h (Option.getD r1 0) 7)) (Option.getD r1 0) 3)) (b0 + 29) (Int32.toNatClampNeg 2) (ea_i (ea_wi (ea_wi h (b0 + 29) (Int32.toNatClampNeg 0) (ea_i h (Option.getD r1 0) 7)) (b0 + 29) (Int32.toNatClampNeg 1) (ea_i (ea_wi h (b0 + 29) (Int32.toNatClampNeg 0) (ea_i h (Option.getD r1 0) 7)) (Option.getD r1 0) 3)) (Option.getD r1 0) 4)) (Option.getD r1 0) 6) - (ea_i (ea_wi (ea_wi (ea_wi h (b0 + 29) (Int32.toNatClampNeg 0) (ea_i h (Option.getD r1 0) 7)) (b0 + 29) (Int32.toNatClampNeg 1) (ea_i (ea_wi h (b0 + 29) (Int32.toNatClampNeg 0) (ea_i h (Option.getD r1 0) 7)) (Option.getD r1 0) 3)) (b0 + 29) (Int32.toNatClampNeg 2) (ea_i (ea_wi (ea_wi h (b0 + 29) (Int32.toNatClampNeg 0) (ea_i h (Option.getD r1 0) 7)) (b0 + 29) (Int32.toNatClampNeg 1) (ea_i (ea_wi h (b0 + 29) (Int32.toNatClampNeg 0) (ea_i h (Option.getD r1 0) 7)) (Option.getD r1 0) 3)) (Option.getD r1 0) 4)) (Option.getD r1 0) 6) / (1440 : Int32) * (1440 : Int32)) / (60 : Int32))))) (Option.getD r1 0) 0)) (Option.getD r1 0) 8) = (0 : Int32) → vp_in 6 7) ∧ (¬ (ea_i (ea_wi (ea_wi (ea_wi (ea_wi (ea_wi (ea_wi h (b0 + 29) (Int32.toNatClampNeg 0) (ea_i h (Option.getD r1 0) 7)) (b0 + 29) (Int32.toNatClampNeg 1) (ea_i (ea_wi h (b0 + 29) (Int32.toNatClampNeg 0) (ea_i h (Option.getD r1 0) 7)) (Option.getD r1 0) 3)) (b0 + 29) (Int32.toNatClampNeg 2) (ea_i (ea_wi (ea_wi h (b0 + 29) (Int32.toNatClampNeg 0) (ea_i h (Option.getD r1 0) 7)) (b0 + 29) (Int32.toNatClampNeg 1) (ea_i (ea_wi h (b0 + 29) (Int32.toNatClampNeg 0) (ea_i h (Option.getD r1 0) 7)) (Option.getD r1 0) 3)) (Option.getD r1 0) 4)) (b0 + 29) (Int32.toNatClampNeg 3) (((ea_i (ea_wi (ea_wi (ea_wi h (b0 + 29) (Int32.toNatClampNeg 0) (ea_i h (Option.getD r1 0) 7)) (b0 + 29) (Int32.toNatClampNeg 1) (ea_i (ea_wi h (b0 + 29) (Int32.toNatClampNeg 0) (ea_i h (Option.getD r1 0) 7)) (Option.getD r1 0) 3)) (b0 + 29) (Int32.toNatClampNeg 2) (ea_i (ea_wi (ea_wi h (b0 + 29) (Int32.toNatClampNeg 0) (ea_i h (Option.getD r1 0) 7)) (b0 + 29) (Int32.toNatClampNeg 1) (ea_i (ea_wi h (b0 + 29) (Int32.toNatClampNeg 0) (ea_i h (Option.getD r1 0) 7)) (Option.getD r1 0) 3)) (Option.getD r1 0) 4)) (Option.getD r1 0) 6) - (ea_i (ea_wi (ea_wi (ea_wi h (b0 + 29) (Int32.toNatClampNeg 0) (ea_i h (Option.getD r1 0) 7)) (b0 + 29) (Int32.toNatClampNeg 1) (ea_i (ea_wi h (b0 + 29) (Int32.toNatClampNeg 0) (ea_i h (Option.getD r1 0) 7)) (Option.getD r1 0) 3)) (b0 + 29) (Int32.toNatClampNeg 2) (ea_i (ea_wi (ea_wi h (b0 + 29) (Int32.toNatClampNeg 0) (ea_i h (Option.getD r1 0) 7)) (b0 + 29) (Int32.toNatClampNeg 1) (ea_i (ea_wi h (b0 + 29) (Int32.toNatClampNeg 0) (ea_i h (Option.getD r1 0) 7)) (Option.getD r1 0) 3)) (Option.getD r1 0) 4)) (Option.getD r1 0) 6) / (1440 : Int32) * (1440 : Int32)) / (60 : Int32))) (b0 + 29) (Int32.toNatClampNeg 4) (vX4_dayOf b0 (Option.getD r1 0) (ea_wi (ea_wi (ea_wi (ea_wi h (b0 + 29) (Int32.toNatClampNeg 0) (ea_i h (Option.getD r1 0) 7)) (b0 + 29) (Int32.toNatClampNeg 1) (ea_i (ea_wi h (b0 + 29) (Int32.toNatClampNeg 0) (ea_i h (Option.getD r1 0) 7)) (Option.getD r1 0) 3)) (b0 + 29) (Int32.toNatClampNeg 2) (ea_i (ea_wi (ea_wi h (b0 + 29) (Int32.toNatClampNeg 0) (ea_i h (Option.getD r1 0) 7)) (b0 + 29) (Int32.toNatClampNeg 1) (ea_i (ea_wi h (b0 + 29) (Int32.toNatClampNeg 0) (ea_i h (Option.getD r1 0) 7)) (Option.getD r1 0) 3)) (Option.getD r1 0) 4)) (b0 + 29) (Int32.toNatClampNeg 3) (((ea_i (ea_wi (ea_wi (ea_wi h (b0 + 29) (Int32.toNatClampNeg 0) (ea_i h (Option.getD r1 0) 7)) (b0 + 29) (Int32.toNatClampNeg 1) (ea_i (ea_wi h (b0 + 29) (Int32.toNatClampNeg 0) (ea_i h (Option.getD r1 0) 7)) (Option.getD r1 0) 3)) (b0 + 29) (Int32.toNatClampNeg 2) (ea_i (ea_wi (ea_wi h (b0 + 29) (Int32.toNatClampNeg 0) (ea_i h (Option.getD r1 0) 7)) (b0 + 29) (Int32.toNatClampNeg 1) (ea_i (ea_wi h (b0 + 29) (Int32.toNatClampNeg 0) (ea_i h (Option.getD r1 0) 7)) (Option.getD r1 0) 3)) (Option.getD r1 0) 4)) (Option.getD r1 0) 6) - (ea_i (ea_wi (ea_wi (ea_wi h (b0 + 29) (Int32.toNatClampNeg 0) (ea_i h (Option.getD r1 0) 7)) (b0 + 29) (Int32.toNatClampNeg 1) (ea_i (ea_wi h (b0 + 29) (Int32.toNatClampNeg 0) (ea_i h (Option.getD r1 0) 7)) (Option.getD r1 0) 3)) (b0 + 29) (Int32.toNatClampNeg 2) (ea_i (ea_wi (ea_wi h (b0 + 29) (Int32.toNatClampNeg 0) (ea_i h (Option.getD r1 0) 7)) (b0 + 29) (Int32.toNatClampNeg 1) (ea_i (ea_wi h (b0 + 29) (Int32.toNatClampNeg 0) (ea_i h (Option.getD r1 0) 7)) (Option.getD r1 0) 3)) (Option.getD r1 0) 4)) (Option.getD r1 0) 6) / (1440 : Int32) * (1440 : Int32)) / (60 : Int32))))) (b0 + 29) (Int32.toNatClampNeg 5) (ea_i (ea_wi (ea_wi (ea_wi (ea_wi (ea_wi h (b0 + 29) (Int32.toNatClampNeg 0) (ea_i h (Option.getD r1 0) 7)) (b0 + 29) (Int32.toNatClampNeg 1) (ea_i (ea_wi h (b0 + 29) (Int32.toNatClampNeg 0) (ea_i h (Option.getD r1 0) 7)) (Option.getD r1 0) 3)) (b0 + 29) (Int32.toNatClampNeg 2) (ea_i (ea_wi (ea_wi h (b0 + 29) (Int32.toNatClampNeg 0) (ea_i h (Option.getD r1 0) 7)) (b0 + 29) (Int32.toNatClampNeg 1) (ea_i (ea_wi h (b0 + 29) (Int32.toNatClampNeg 0) (ea_i h (Option.getD r1 0) 7)) (Option.getD r1 0) 3)) (Option.getD r1 0) 4)) (b0 + 29) (Int32.toNatClampNeg 3) (((ea_i (ea_wi (ea_wi (ea_wi h (b0 + 29) (Int32.toNatClampNeg 0) (ea_i h (Option.getD r1 0) 7)) (b0 + 29) (Int32.toNatClampNeg 1) (ea_i (ea_wi h (b0 + 29) (Int32.toNatClampNeg 0) (ea_i h (Option.getD r1 0) 7)) (Option.getD r1 0) 3)) (b0 + 29) (Int32.toNatClampNeg 2) (ea_i (ea_wi (ea_wi h (b0 + 29) (Int32.toNatClampNeg 0) (ea_i h (Option.getD r1 0) 7)) (b0 + 29) (Int32.toNatClampNeg 1) (ea_i (ea_wi h (b0 + 29) (Int32.toNatClampNeg 0) (ea_i h (Option.getD r1 0) 7)) (Option.getD r1 0) 3)) (Option.getD r1 0) 4)) (Option.getD r1 0) 6) - (ea_i (ea_wi (ea_wi (ea_wi h (b0 + 29) (Int32.toNatClampNeg 0) (ea_i h (Option.getD r1 0) 7)) (b0 + 29) (Int32.toNatClampNeg 1) (ea_i (ea_wi h (b0 + 29) (Int32.toNatClampNeg 0) (ea_i h (Option.getD r1 0) 7)) (Option.getD r1 0) 3)) (b0 + 29) (Int32.toNatClampNeg 2) (ea_i (ea_wi (ea_wi h (b0 + 29) (Int32.toNatClampNeg 0) (ea_i h (Option.getD r1 0) 7)) (b0 + 29) (Int32.toNatClampNeg 1) (ea_i (ea_wi h (b0 + 29) (Int32.toNatClampNeg 0) (ea_i h (Option.getD r1 0) 7)) (Option.getD r1 0) 3)) (Option.getD r1 0) 4)) (Option.getD r1 0) 6) / (1440 : Int32) * (1440 : Int32)) / (60 : Int32))) (b0 + 29) (Int32.toNatClampNeg 4) (vX4_dayOf b0 (Option.getD r1 0) (ea_wi (ea_wi (ea_wi (ea_wi h (b0 + 29) (Int32.toNatClampNeg 0) (ea_i h (Option.getD r1 0) 7)) (b0 + 29) (Int32.toNatClampNeg 1) (ea_i (ea_wi h (b0 + 29) (Int32.toNatClampNeg 0) (ea_i h (Option.getD r1 0) 7)) (Option.getD r1 0) 3)) (b0 + 29) (Int32.toNatClampNeg 2) (ea_i (ea_wi (ea_wi h (b0 + 29) (Int32.toNatClampNeg 0) (ea_i h (Option.getD r1 0) 7)) (b0 + 29) (Int32.toNatClampNeg 1) (ea_i (ea_wi h (b0 + 29) (Int32.toNatClampNeg 0) (ea_i h (Option.getD r1 0) 7)) (Option.getD r1 0) 3)) (Option.getD r1 0) 4)) (b0 + 29) (Int32.toNatClampNeg 3) (((ea_i (ea_wi (ea_wi (ea_wi h (b0 + 29) (Int32.toNatClampNeg 0) (ea_i h (Option.getD r1 0) 7)) (b0 + 29) (Int32.toNatClampNeg 1) (ea_i (ea_wi h (b0 + 29) (Int32.toNatClampNeg 0) (ea_i h (Option.getD r1 0) 7)) (Option.getD r1 0) 3)) (b0 + 29) (Int32.toNatClampNeg 2) (ea_i (ea_wi (ea_wi h (b0 + 29) (Int32.toNatClampNeg 0) (ea_i h (Option.getD r1 0) 7)) (b0 + 29) (Int32.toNatClampNeg 1) (ea_i (ea_wi h (b0 + 29) (Int32.toNatClampNeg 0) (ea_i h (Option.getD r1 0) 7)) (Option.getD r1 0) 3)) (Option.getD r1 0) 4)) (Option.getD r1 0) 6) - (ea_i (ea_wi (ea_wi (ea_wi h (b0 + 29) (Int32.toNatClampNeg 0) (ea_i h (Option.getD r1 0) 7)) (b0 + 29) (Int32.toNatClampNeg 1) (ea_i (ea_wi h (b0 + 29) (Int32.toNatClampNeg 0) (ea_i h (Option.getD r1 0) 7)) (Option.getD r1 0) 3)) (b0 + 29) (Int32.toNatClampNeg 2) (ea_i (ea_wi (ea_wi h (b0 + 29) (Int32.toNatClampNeg 0) (ea_i h (Option.getD r1 0) 7)) (b0 + 29) (Int32.toNatClampNeg 1) (ea_i (ea_wi h (b0 + 29) (Int32.toNatClampNeg 0) (ea_i h (Option.getD r1 0) 7)) (Option.getD r1 0) 3)) (Option.getD r1 0) 4)) (Option.getD r1 0) 6) / (1440 : Int32) * (1440 : Int32)) / (60 : Int32))))) (Option.getD r1 0) 0)) (Option.getD r1 0) 8) = (0 : Int32) → vp_in 6 7))))))))))))))))))))))
theorem shX8_ask {b0 : Nat} {r1 : Option Nat} {h : ea_H} (hs : ShC b0 h) : ShC b0 (wX8_ask b0 r1 h) := (ShC_it (ShC_wi (ShC_wi (ShC_wi (ShC_wi (ShC_wi (ShC_wi (ShC_wi hs))))))) (ShC_wi (ShC_wi (ShC_wi (ShC_wi (ShC_wi (ShC_wi (ShC_wi hs))))))))
theorem sX8_ask {d : Nat} {b0 : Nat} {r1 : Option Nat} {h : ea_H} (hd : 2 ≤ d) (hs : ShC b0 h) (K : okX8_ask b0 r1 h) : ea_Met mX8_ask d [vR (some (b0 + 21)), vR r1] h none (wX8_ask b0 r1 h) := by
  obtain ⟨Y, EY⟩ : ∃ z, z = wX8_ask b0 r1 h := ⟨_, rfl⟩
  rw [← EY]
  unfold wX8_ask at EY
  unfold okX8_ask at K
  refine ea_enter rfl (Nat.le_of_ble_eq_true rfl) ?_
  refine ea_aload_n (pc := 0) dX8_ask_0 rfl 0 rfl ?_
  refine ea_getR (pc := 1) dX8_ask_1 ec_8 (k := 3) (Nat.le_of_ble_eq_true rfl) rfl (Or.inl ew_338) (hs.1 21 (by decide)).1 (hs.1 21 (by decide)).2.1 (hs.2 21 3 rfl) ?_
  refine ea_iconst (pc := 4) dX8_ask_4 (v := 0) rfl ?_
  refine ea_aload_n (pc := 5) dX8_ask_5 rfl 1 rfl ?_
  obtain ⟨e1, f2, K⟩ := K
  refine ea_deref0 e1 ?_
  refine ea_getI (pc := 6) dX8_ask_6 ec_4 (k := 7) (Nat.le_of_ble_eq_true rfl) rfl (Or.inl ew_952) f2.1 f2.2 ?_
  obtain ⟨z3, K⟩ := K
  refine ea_iast (pc := 9) dX8_ask_9 (hs.1 29 (by decide)).1 (hs.1 29 (by decide)).2.1 (ea_vpl (hs.1 29 (by decide)).2.2 z3) ?_
  have hs4 : ShC b0 (ea_wi h (b0 + 29) (Int32.toNatClampNeg 0) (ea_i h (Option.getD r1 0) 7)) := ShC_wi hs
  refine ea_aload_n (pc := 10) dX8_ask_10 rfl 0 rfl ?_
  refine ea_getR (pc := 11) dX8_ask_11 ec_8 (k := 3) (Nat.le_of_ble_eq_true rfl) rfl (Or.inl ew_338) (hs4.1 21 (by decide)).1 (hs4.1 21 (by decide)).2.1 (hs4.2 21 3 rfl) ?_
  refine ea_iconst (pc := 14) dX8_ask_14 (v := 1) rfl ?_
  refine ea_aload_n (pc := 15) dX8_ask_15 rfl 1 rfl ?_
  obtain ⟨e5, f6, K⟩ := K
  refine ea_deref0 e5 ?_
  refine ea_getI (pc := 16) dX8_ask_16 ec_4 (k := 3) (Nat.le_of_ble_eq_true rfl) rfl (Or.inl ew_942) f6.1 f6.2 ?_
  obtain ⟨z7, K⟩ := K
  refine ea_iast (pc := 19) dX8_ask_19 (hs4.1 29 (by decide)).1 (hs4.1 29 (by decide)).2.1 (ea_vpl (hs4.1 29 (by decide)).2.2 z7) ?_
  have hs8 : ShC b0 (ea_wi (ea_wi h (b0 + 29) (Int32.toNatClampNeg 0) (ea_i h (Option.getD r1 0) 7)) (b0 + 29) (Int32.toNatClampNeg 1) (ea_i (ea_wi h (b0 + 29) (Int32.toNatClampNeg 0) (ea_i h (Option.getD r1 0) 7)) (Option.getD r1 0) 3)) := ShC_wi hs4
  refine ea_aload_n (pc := 20) dX8_ask_20 rfl 0 rfl ?_
  refine ea_getR (pc := 21) dX8_ask_21 ec_8 (k := 3) (Nat.le_of_ble_eq_true rfl) rfl (Or.inl ew_338) (hs8.1 21 (by decide)).1 (hs8.1 21 (by decide)).2.1 (hs8.2 21 3 rfl) ?_
  refine ea_iconst (pc := 24) dX8_ask_24 (v := 2) rfl ?_
  refine ea_aload_n (pc := 25) dX8_ask_25 rfl 1 rfl ?_
  obtain ⟨e9, f10, K⟩ := K
  refine ea_deref0 e9 ?_
  refine ea_getI (pc := 26) dX8_ask_26 ec_4 (k := 4) (Nat.le_of_ble_eq_true rfl) rfl (Or.inl ew_945) f10.1 f10.2 ?_
  obtain ⟨z11, K⟩ := K
  refine ea_iast (pc := 29) dX8_ask_29 (hs8.1 29 (by decide)).1 (hs8.1 29 (by decide)).2.1 (ea_vpl (hs8.1 29 (by decide)).2.2 z11) ?_
  have hs12 : ShC b0 (ea_wi (ea_wi (ea_wi h (b0 + 29) (Int32.toNatClampNeg 0) (ea_i h (Option.getD r1 0) 7)) (b0 + 29) (Int32.toNatClampNeg 1) (ea_i (ea_wi h (b0 + 29) (Int32.toNatClampNeg 0) (ea_i h (Option.getD r1 0) 7)) (Option.getD r1 0) 3)) (b0 + 29) (Int32.toNatClampNeg 2) (ea_i (ea_wi (ea_wi h (b0 + 29) (Int32.toNatClampNeg 0) (ea_i h (Option.getD r1 0) 7)) (b0 + 29) (Int32.toNatClampNeg 1) (ea_i (ea_wi h (b0 + 29) (Int32.toNatClampNeg 0) (ea_i h (Option.getD r1 0) 7)) (Option.getD r1 0) 3)) (Option.getD r1 0) 4)) := ShC_wi hs8
  refine ea_aload_n (pc := 30) dX8_ask_30 rfl 0 rfl ?_
  refine ea_getR (pc := 31) dX8_ask_31 ec_8 (k := 3) (Nat.le_of_ble_eq_true rfl) rfl (Or.inl ew_338) (hs12.1 21 (by decide)).1 (hs12.1 21 (by decide)).2.1 (hs12.2 21 3 rfl) ?_
  refine ea_iconst (pc := 34) dX8_ask_34 (v := 3) rfl ?_
  refine ea_aload_n (pc := 35) dX8_ask_35 rfl 1 rfl ?_
  obtain ⟨e13, f14, K⟩ := K
  refine ea_deref0 e13 ?_
  refine ea_getI (pc := 36) dX8_ask_36 ec_4 (k := 6) (Nat.le_of_ble_eq_true rfl) rfl (Or.inl ew_950) f14.1 f14.2 ?_
  refine ea_sipush (pc := 39) dX8_ask_39 (v := 1440) rfl ?_
  refine ea_irem (pc := 42) dX8_ask_42 (by decide) ?_
  refine ea_bipush (pc := 43) dX8_ask_43 (v := 60) rfl ?_
  refine ea_idiv (pc := 45) dX8_ask_45 (by decide) ?_
  obtain ⟨z15, K⟩ := K
  refine ea_iast (pc := 46) dX8_ask_46 (hs12.1 29 (by decide)).1 (hs12.1 29 (by decide)).2.1 (ea_vpl (hs12.1 29 (by decide)).2.2 z15) ?_
  have hs16 : ShC b0 (ea_wi (ea_wi (ea_wi (ea_wi h (b0 + 29) (Int32.toNatClampNeg 0) (ea_i h (Option.getD r1 0) 7)) (b0 + 29) (Int32.toNatClampNeg 1) (ea_i (ea_wi h (b0 + 29) (Int32.toNatClampNeg 0) (ea_i h (Option.getD r1 0) 7)) (Option.getD r1 0) 3)) (b0 + 29) (Int32.toNatClampNeg 2) (ea_i (ea_wi (ea_wi h (b0 + 29) (Int32.toNatClampNeg 0) (ea_i h (Option.getD r1 0) 7)) (b0 + 29) (Int32.toNatClampNeg 1) (ea_i (ea_wi h (b0 + 29) (Int32.toNatClampNeg 0) (ea_i h (Option.getD r1 0) 7)) (Option.getD r1 0) 3)) (Option.getD r1 0) 4)) (b0 + 29) (Int32.toNatClampNeg 3) (((ea_i (ea_wi (ea_wi (ea_wi h (b0 + 29) (Int32.toNatClampNeg 0) (ea_i h (Option.getD r1 0) 7)) (b0 + 29) (Int32.toNatClampNeg 1) (ea_i (ea_wi h (b0 + 29) (Int32.toNatClampNeg 0) (ea_i h (Option.getD r1 0) 7)) (Option.getD r1 0) 3)) (b0 + 29) (Int32.toNatClampNeg 2) (ea_i (ea_wi (ea_wi h (b0 + 29) (Int32.toNatClampNeg 0) (ea_i h (Option.getD r1 0) 7)) (b0 + 29) (Int32.toNatClampNeg 1) (ea_i (ea_wi h (b0 + 29) (Int32.toNatClampNeg 0) (ea_i h (Option.getD r1 0) 7)) (Option.getD r1 0) 3)) (Option.getD r1 0) 4)) (Option.getD r1 0) 6) - (ea_i (ea_wi (ea_wi (ea_wi h (b0 + 29) (Int32.toNatClampNeg 0) (ea_i h (Option.getD r1 0) 7)) (b0 + 29) (Int32.toNatClampNeg 1) (ea_i (ea_wi h (b0 + 29) (Int32.toNatClampNeg 0) (ea_i h (Option.getD r1 0) 7)) (Option.getD r1 0) 3)) (b0 + 29) (Int32.toNatClampNeg 2) (ea_i (ea_wi (ea_wi h (b0 + 29) (Int32.toNatClampNeg 0) (ea_i h (Option.getD r1 0) 7)) (b0 + 29) (Int32.toNatClampNeg 1) (ea_i (ea_wi h (b0 + 29) (Int32.toNatClampNeg 0) (ea_i h (Option.getD r1 0) 7)) (Option.getD r1 0) 3)) (Option.getD r1 0) 4)) (Option.getD r1 0) 6) / (1440 : Int32) * (1440 : Int32)) / (60 : Int32))) := ShC_wi hs12
  refine ea_aload_n (pc := 47) dX8_ask_47 rfl 0 rfl ?_
  refine ea_getR (pc := 48) dX8_ask_48 ec_8 (k := 3) (Nat.le_of_ble_eq_true rfl) rfl (Or.inl ew_338) (hs16.1 21 (by decide)).1 (hs16.1 21 (by decide)).2.1 (hs16.2 21 3 rfl) ?_
  refine ea_iconst (pc := 51) dX8_ask_51 (v := 4) rfl ?_
  refine ea_aload_n (pc := 52) dX8_ask_52 rfl 1 rfl ?_
  obtain ⟨e17, f18, z19, K⟩ := K
  refine ea_deref0 e17 ?_
  refine ea_callV (pc := 53) (d' := d - 1) (As := []) (st := [vI 4, vR (some (b0 + 29))]) dX8_ask_53 kX4_dayOf (sX4_dayOf (d := d - 1) (by omega) hs16 z19) (by omega) rfl (Nat.le_of_ble_eq_true rfl) ew_1040 ew_1033 ew_1034 (ci := 4) rfl (by decide) f18.1 f18.2 ?_
  obtain ⟨z20, K⟩ := K
  refine ea_iast (pc := 56) dX8_ask_56 (hs16.1 29 (by decide)).1 (hs16.1 29 (by decide)).2.1 (ea_vpl (hs16.1 29 (by decide)).2.2 z20) ?_
  have hs21 : ShC b0 (ea_wi (ea_wi (ea_wi (ea_wi (ea_wi h (b0 + 29) (Int32.toNatClampNeg 0) (ea_i h (Option.getD r1 0) 7)) (b0 + 29) (Int32.toNatClampNeg 1) (ea_i (ea_wi h (b0 + 29) (Int32.toNatClampNeg 0) (ea_i h (Option.getD r1 0) 7)) (Option.getD r1 0) 3)) (b0 + 29) (Int32.toNatClampNeg 2) (ea_i (ea_wi (ea_wi h (b0 + 29) (Int32.toNatClampNeg 0) (ea_i h (Option.getD r1 0) 7)) (b0 + 29) (Int32.toNatClampNeg 1) (ea_i (ea_wi h (b0 + 29) (Int32.toNatClampNeg 0) (ea_i h (Option.getD r1 0) 7)) (Option.getD r1 0) 3)) (Option.getD r1 0) 4)) (b0 + 29) (Int32.toNatClampNeg 3) (((ea_i (ea_wi (ea_wi (ea_wi h (b0 + 29) (Int32.toNatClampNeg 0) (ea_i h (Option.getD r1 0) 7)) (b0 + 29) (Int32.toNatClampNeg 1) (ea_i (ea_wi h (b0 + 29) (Int32.toNatClampNeg 0) (ea_i h (Option.getD r1 0) 7)) (Option.getD r1 0) 3)) (b0 + 29) (Int32.toNatClampNeg 2) (ea_i (ea_wi (ea_wi h (b0 + 29) (Int32.toNatClampNeg 0) (ea_i h (Option.getD r1 0) 7)) (b0 + 29) (Int32.toNatClampNeg 1) (ea_i (ea_wi h (b0 + 29) (Int32.toNatClampNeg 0) (ea_i h (Option.getD r1 0) 7)) (Option.getD r1 0) 3)) (Option.getD r1 0) 4)) (Option.getD r1 0) 6) - (ea_i (ea_wi (ea_wi (ea_wi h (b0 + 29) (Int32.toNatClampNeg 0) (ea_i h (Option.getD r1 0) 7)) (b0 + 29) (Int32.toNatClampNeg 1) (ea_i (ea_wi h (b0 + 29) (Int32.toNatClampNeg 0) (ea_i h (Option.getD r1 0) 7)) (Option.getD r1 0) 3)) (b0 + 29) (Int32.toNatClampNeg 2) (ea_i (ea_wi (ea_wi h (b0 + 29) (Int32.toNatClampNeg 0) (ea_i h (Option.getD r1 0) 7)) (b0 + 29) (Int32.toNatClampNeg 1) (ea_i (ea_wi h (b0 + 29) (Int32.toNatClampNeg 0) (ea_i h (Option.getD r1 0) 7)) (Option.getD r1 0) 3)) (Option.getD r1 0) 4)) (Option.getD r1 0) 6) / (1440 : Int32) * (1440 : Int32)) / (60 : Int32))) (b0 + 29) (Int32.toNatClampNeg 4) (vX4_dayOf b0 (Option.getD r1 0) (ea_wi (ea_wi (ea_wi (ea_wi h (b0 + 29) (Int32.toNatClampNeg 0) (ea_i h (Option.getD r1 0) 7)) (b0 + 29) (Int32.toNatClampNeg 1) (ea_i (ea_wi h (b0 + 29) (Int32.toNatClampNeg 0) (ea_i h (Option.getD r1 0) 7)) (Option.getD r1 0) 3)) (b0 + 29) (Int32.toNatClampNeg 2) (ea_i (ea_wi (ea_wi h (b0 + 29) (Int32.toNatClampNeg 0) (ea_i h (Option.getD r1 0) 7)) (b0 + 29) (Int32.toNatClampNeg 1) (ea_i (ea_wi h (b0 + 29) (Int32.toNatClampNeg 0) (ea_i h (Option.getD r1 0) 7)) (Option.getD r1 0) 3)) (Option.getD r1 0) 4)) (b0 + 29) (Int32.toNatClampNeg 3) (((ea_i (ea_wi (ea_wi (ea_wi h (b0 + 29) (Int32.toNatClampNeg 0) (ea_i h (Option.getD r1 0) 7)) (b0 + 29) (Int32.toNatClampNeg 1) (ea_i (ea_wi h (b0 + 29) (Int32.toNatClampNeg 0) (ea_i h (Option.getD r1 0) 7)) (Option.getD r1 0) 3)) (b0 + 29) (Int32.toNatClampNeg 2) (ea_i (ea_wi (ea_wi h (b0 + 29) (Int32.toNatClampNeg 0) (ea_i h (Option.getD r1 0) 7)) (b0 + 29) (Int32.toNatClampNeg 1) (ea_i (ea_wi h (b0 + 29) (Int32.toNatClampNeg 0) (ea_i h (Option.getD r1 0) 7)) (Option.getD r1 0) 3)) (Option.getD r1 0) 4)) (Option.getD r1 0) 6) - (ea_i (ea_wi (ea_wi (ea_wi h (b0 + 29) (Int32.toNatClampNeg 0) (ea_i h (Option.getD r1 0) 7)) (b0 + 29) (Int32.toNatClampNeg 1) (ea_i (ea_wi h (b0 + 29) (Int32.toNatClampNeg 0) (ea_i h (Option.getD r1 0) 7)) (Option.getD r1 0) 3)) (b0 + 29) (Int32.toNatClampNeg 2) (ea_i (ea_wi (ea_wi h (b0 + 29) (Int32.toNatClampNeg 0) (ea_i h (Option.getD r1 0) 7)) (b0 + 29) (Int32.toNatClampNeg 1) (ea_i (ea_wi h (b0 + 29) (Int32.toNatClampNeg 0) (ea_i h (Option.getD r1 0) 7)) (Option.getD r1 0) 3)) (Option.getD r1 0) 4)) (Option.getD r1 0) 6) / (1440 : Int32) * (1440 : Int32)) / (60 : Int32))))) := ShC_wi hs16
  refine ea_aload_n (pc := 57) dX8_ask_57 rfl 0 rfl ?_
  refine ea_getR (pc := 58) dX8_ask_58 ec_8 (k := 3) (Nat.le_of_ble_eq_true rfl) rfl (Or.inl ew_338) (hs21.1 21 (by decide)).1 (hs21.1 21 (by decide)).2.1 (hs21.2 21 3 rfl) ?_
  refine ea_iconst (pc := 61) dX8_ask_61 (v := 5) rfl ?_
  refine ea_aload_n (pc := 62) dX8_ask_62 rfl 1 rfl ?_
  obtain ⟨e22, f23, K⟩ := K
  refine ea_deref0 e22 ?_
  refine ea_getI (pc := 63) dX8_ask_63 ec_4 (k := 0) (Nat.le_of_ble_eq_true rfl) rfl (Or.inl ew_934) f23.1 f23.2 ?_
  obtain ⟨z24, K⟩ := K
  refine ea_iast (pc := 66) dX8_ask_66 (hs21.1 29 (by decide)).1 (hs21.1 29 (by decide)).2.1 (ea_vpl (hs21.1 29 (by decide)).2.2 z24) ?_
  have hs25 : ShC b0 (ea_wi (ea_wi (ea_wi (ea_wi (ea_wi (ea_wi h (b0 + 29) (Int32.toNatClampNeg 0) (ea_i h (Option.getD r1 0) 7)) (b0 + 29) (Int32.toNatClampNeg 1) (ea_i (ea_wi h (b0 + 29) (Int32.toNatClampNeg 0) (ea_i h (Option.getD r1 0) 7)) (Option.getD r1 0) 3)) (b0 + 29) (Int32.toNatClampNeg 2) (ea_i (ea_wi (ea_wi h (b0 + 29) (Int32.toNatClampNeg 0) (ea_i h (Option.getD r1 0) 7)) (b0 + 29) (Int32.toNatClampNeg 1) (ea_i (ea_wi h (b0 + 29) (Int32.toNatClampNeg 0) (ea_i h (Option.getD r1 0) 7)) (Option.getD r1 0) 3)) (Option.getD r1 0) 4)) (b0 + 29) (Int32.toNatClampNeg 3) (((ea_i (ea_wi (ea_wi (ea_wi h (b0 + 29) (Int32.toNatClampNeg 0) (ea_i h (Option.getD r1 0) 7)) (b0 + 29) (Int32.toNatClampNeg 1) (ea_i (ea_wi h (b0 + 29) (Int32.toNatClampNeg 0) (ea_i h (Option.getD r1 0) 7)) (Option.getD r1 0) 3)) (b0 + 29) (Int32.toNatClampNeg 2) (ea_i (ea_wi (ea_wi h (b0 + 29) (Int32.toNatClampNeg 0) (ea_i h (Option.getD r1 0) 7)) (b0 + 29) (Int32.toNatClampNeg 1) (ea_i (ea_wi h (b0 + 29) (Int32.toNatClampNeg 0) (ea_i h (Option.getD r1 0) 7)) (Option.getD r1 0) 3)) (Option.getD r1 0) 4)) (Option.getD r1 0) 6) - (ea_i (ea_wi (ea_wi (ea_wi h (b0 + 29) (Int32.toNatClampNeg 0) (ea_i h (Option.getD r1 0) 7)) (b0 + 29) (Int32.toNatClampNeg 1) (ea_i (ea_wi h (b0 + 29) (Int32.toNatClampNeg 0) (ea_i h (Option.getD r1 0) 7)) (Option.getD r1 0) 3)) (b0 + 29) (Int32.toNatClampNeg 2) (ea_i (ea_wi (ea_wi h (b0 + 29) (Int32.toNatClampNeg 0) (ea_i h (Option.getD r1 0) 7)) (b0 + 29) (Int32.toNatClampNeg 1) (ea_i (ea_wi h (b0 + 29) (Int32.toNatClampNeg 0) (ea_i h (Option.getD r1 0) 7)) (Option.getD r1 0) 3)) (Option.getD r1 0) 4)) (Option.getD r1 0) 6) / (1440 : Int32) * (1440 : Int32)) / (60 : Int32))) (b0 + 29) (Int32.toNatClampNeg 4) (vX4_dayOf b0 (Option.getD r1 0) (ea_wi (ea_wi (ea_wi (ea_wi h (b0 + 29) (Int32.toNatClampNeg 0) (ea_i h (Option.getD r1 0) 7)) (b0 + 29) (Int32.toNatClampNeg 1) (ea_i (ea_wi h (b0 + 29) (Int32.toNatClampNeg 0) (ea_i h (Option.getD r1 0) 7)) (Option.getD r1 0) 3)) (b0 + 29) (Int32.toNatClampNeg 2) (ea_i (ea_wi (ea_wi h (b0 + 29) (Int32.toNatClampNeg 0) (ea_i h (Option.getD r1 0) 7)) (b0 + 29) (Int32.toNatClampNeg 1) (ea_i (ea_wi h (b0 + 29) (Int32.toNatClampNeg 0) (ea_i h (Option.getD r1 0) 7)) (Option.getD r1 0) 3)) (Option.getD r1 0) 4)) (b0 + 29) (Int32.toNatClampNeg 3) (((ea_i (ea_wi (ea_wi (ea_wi h (b0 + 29) (Int32.toNatClampNeg 0) (ea_i h (Option.getD r1 0) 7)) (b0 + 29) (Int32.toNatClampNeg 1) (ea_i (ea_wi h (b0 + 29) (Int32.toNatClampNeg 0) (ea_i h (Option.getD r1 0) 7)) (Option.getD r1 0) 3)) (b0 + 29) (Int32.toNatClampNeg 2) (ea_i (ea_wi (ea_wi h (b0 + 29) (Int32.toNatClampNeg 0) (ea_i h (Option.getD r1 0) 7)) (b0 + 29) (Int32.toNatClampNeg 1) (ea_i (ea_wi h (b0 + 29) (Int32.toNatClampNeg 0) (ea_i h (Option.getD r1 0) 7)) (Option.getD r1 0) 3)) (Option.getD r1 0) 4)) (Option.getD r1 0) 6) - (ea_i (ea_wi (ea_wi (ea_wi h (b0 + 29) (Int32.toNatClampNeg 0) (ea_i h (Option.getD r1 0) 7)) (b0 + 29) (Int32.toNatClampNeg 1) (ea_i (ea_wi h (b0 + 29) (Int32.toNatClampNeg 0) (ea_i h (Option.getD r1 0) 7)) (Option.getD r1 0) 3)) (b0 + 29) (Int32.toNatClampNeg 2) (ea_i (ea_wi (ea_wi h (b0 + 29) (Int32.toNatClampNeg 0) (ea_i h (Option.getD r1 0) 7)) (b0 + 29) (Int32.toNatClampNeg 1) (ea_i (ea_wi h (b0 + 29) (Int32.toNatClampNeg 0) (ea_i h (Option.getD r1 0) 7)) (Option.getD r1 0) 3)) (Option.getD r1 0) 4)) (Option.getD r1 0) 6) / (1440 : Int32) * (1440 : Int32)) / (60 : Int32))))) (b0 + 29) (Int32.toNatClampNeg 5) (ea_i (ea_wi (ea_wi (ea_wi (ea_wi (ea_wi h (b0 + 29) (Int32.toNatClampNeg 0) (ea_i h (Option.getD r1 0) 7)) (b0 + 29) (Int32.toNatClampNeg 1) (ea_i (ea_wi h (b0 + 29) (Int32.toNatClampNeg 0) (ea_i h (Option.getD r1 0) 7)) (Option.getD r1 0) 3)) (b0 + 29) (Int32.toNatClampNeg 2) (ea_i (ea_wi (ea_wi h (b0 + 29) (Int32.toNatClampNeg 0) (ea_i h (Option.getD r1 0) 7)) (b0 + 29) (Int32.toNatClampNeg 1) (ea_i (ea_wi h (b0 + 29) (Int32.toNatClampNeg 0) (ea_i h (Option.getD r1 0) 7)) (Option.getD r1 0) 3)) (Option.getD r1 0) 4)) (b0 + 29) (Int32.toNatClampNeg 3) (((ea_i (ea_wi (ea_wi (ea_wi h (b0 + 29) (Int32.toNatClampNeg 0) (ea_i h (Option.getD r1 0) 7)) (b0 + 29) (Int32.toNatClampNeg 1) (ea_i (ea_wi h (b0 + 29) (Int32.toNatClampNeg 0) (ea_i h (Option.getD r1 0) 7)) (Option.getD r1 0) 3)) (b0 + 29) (Int32.toNatClampNeg 2) (ea_i (ea_wi (ea_wi h (b0 + 29) (Int32.toNatClampNeg 0) (ea_i h (Option.getD r1 0) 7)) (b0 + 29) (Int32.toNatClampNeg 1) (ea_i (ea_wi h (b0 + 29) (Int32.toNatClampNeg 0) (ea_i h (Option.getD r1 0) 7)) (Option.getD r1 0) 3)) (Option.getD r1 0) 4)) (Option.getD r1 0) 6) - (ea_i (ea_wi (ea_wi (ea_wi h (b0 + 29) (Int32.toNatClampNeg 0) (ea_i h (Option.getD r1 0) 7)) (b0 + 29) (Int32.toNatClampNeg 1) (ea_i (ea_wi h (b0 + 29) (Int32.toNatClampNeg 0) (ea_i h (Option.getD r1 0) 7)) (Option.getD r1 0) 3)) (b0 + 29) (Int32.toNatClampNeg 2) (ea_i (ea_wi (ea_wi h (b0 + 29) (Int32.toNatClampNeg 0) (ea_i h (Option.getD r1 0) 7)) (b0 + 29) (Int32.toNatClampNeg 1) (ea_i (ea_wi h (b0 + 29) (Int32.toNatClampNeg 0) (ea_i h (Option.getD r1 0) 7)) (Option.getD r1 0) 3)) (Option.getD r1 0) 4)) (Option.getD r1 0) 6) / (1440 : Int32) * (1440 : Int32)) / (60 : Int32))) (b0 + 29) (Int32.toNatClampNeg 4) (vX4_dayOf b0 (Option.getD r1 0) (ea_wi (ea_wi (ea_wi (ea_wi h (b0 + 29) (Int32.toNatClampNeg 0) (ea_i h (Option.getD r1 0) 7)) (b0 + 29) (Int32.toNatClampNeg 1) (ea_i (ea_wi h (b0 + 29) (Int32.toNatClampNeg 0) (ea_i h (Option.getD r1 0) 7)) (Option.getD r1 0) 3)) (b0 + 29) (Int32.toNatClampNeg 2) (ea_i (ea_wi (ea_wi h (b0 + 29) (Int32.toNatClampNeg 0) (ea_i h (Option.getD r1 0) 7)) (b0 + 29) (Int32.toNatClampNeg 1) (ea_i (ea_wi h (b0 + 29) (Int32.toNatClampNeg 0) (ea_i h (Option.getD r1 0) 7)) (Option.getD r1 0) 3)) (Option.getD r1 0) 4)) (b0 + 29) (Int32.toNatClampNeg 3) (((ea_i (ea_wi (ea_wi (ea_wi h (b0 + 29) (Int32.toNatClampNeg 0) (ea_i h (Option.getD r1 0) 7)) (b0 + 29) (Int32.toNatClampNeg 1) (ea_i (ea_wi h (b0 + 29) (Int32.toNatClampNeg 0) (ea_i h (Option.getD r1 0) 7)) (Option.getD r1 0) 3)) (b0 + 29) (Int32.toNatClampNeg 2) (ea_i (ea_wi (ea_wi h (b0 + 29) (Int32.toNatClampNeg 0) (ea_i h (Option.getD r1 0) 7)) (b0 + 29) (Int32.toNatClampNeg 1) (ea_i (ea_wi h (b0 + 29) (Int32.toNatClampNeg 0) (ea_i h (Option.getD r1 0) 7)) (Option.getD r1 0) 3)) (Option.getD r1 0) 4)) (Option.getD r1 0) 6) - (ea_i (ea_wi (ea_wi (ea_wi h (b0 + 29) (Int32.toNatClampNeg 0) (ea_i h (Option.getD r1 0) 7)) (b0 + 29) (Int32.toNatClampNeg 1) (ea_i (ea_wi h (b0 + 29) (Int32.toNatClampNeg 0) (ea_i h (Option.getD r1 0) 7)) (Option.getD r1 0) 3)) (b0 + 29) (Int32.toNatClampNeg 2) (ea_i (ea_wi (ea_wi h (b0 + 29) (Int32.toNatClampNeg 0) (ea_i h (Option.getD r1 0) 7)) (b0 + 29) (Int32.toNatClampNeg 1) (ea_i (ea_wi h (b0 + 29) (Int32.toNatClampNeg 0) (ea_i h (Option.getD r1 0) 7)) (Option.getD r1 0) 3)) (Option.getD r1 0) 4)) (Option.getD r1 0) 6) / (1440 : Int32) * (1440 : Int32)) / (60 : Int32))))) (Option.getD r1 0) 0)) := ShC_wi hs21
  refine ea_aload_n (pc := 67) dX8_ask_67 rfl 0 rfl ?_
  refine ea_getR (pc := 68) dX8_ask_68 ec_8 (k := 3) (Nat.le_of_ble_eq_true rfl) rfl (Or.inl ew_338) (hs25.1 21 (by decide)).1 (hs25.1 21 (by decide)).2.1 (hs25.2 21 3 rfl) ?_
  refine ea_bipush (pc := 71) dX8_ask_71 (v := 6) rfl ?_
  refine ea_aload_n (pc := 73) dX8_ask_73 rfl 1 rfl ?_
  obtain ⟨e26, f27, K⟩ := K
  refine ea_deref0 e26 ?_
  refine ea_getI (pc := 74) dX8_ask_74 ec_4 (k := 8) (Nat.le_of_ble_eq_true rfl) rfl (Or.inl ew_954) f27.1 f27.2 ?_
  refine ea_if_eq (pc := 77) (tgt := 84) dX8_ask_77 rfl (fun c32 => ?_) (fun c32 => ?_)
  · have EY := EY.trans (if_pos c32)
    have K := K.1 c32
    refine ea_iconst (pc := 84) dX8_ask_84 (v := 0) rfl ?_
    have z28 := K
    refine ea_iast (pc := 85) dX8_ask_85 (hs25.1 29 (by decide)).1 (hs25.1 29 (by decide)).2.1 (ea_vpl (hs25.1 29 (by decide)).2.2 z28) ?_
    have hs29 : ShC b0 (ea_wi (ea_wi (ea_wi (ea_wi (ea_wi (ea_wi (ea_wi h (b0 + 29) (Int32.toNatClampNeg 0) (ea_i h (Option.getD r1 0) 7)) (b0 + 29) (Int32.toNatClampNeg 1) (ea_i (ea_wi h (b0 + 29) (Int32.toNatClampNeg 0) (ea_i h (Option.getD r1 0) 7)) (Option.getD r1 0) 3)) (b0 + 29) (Int32.toNatClampNeg 2) (ea_i (ea_wi (ea_wi h (b0 + 29) (Int32.toNatClampNeg 0) (ea_i h (Option.getD r1 0) 7)) (b0 + 29) (Int32.toNatClampNeg 1) (ea_i (ea_wi h (b0 + 29) (Int32.toNatClampNeg 0) (ea_i h (Option.getD r1 0) 7)) (Option.getD r1 0) 3)) (Option.getD r1 0) 4)) (b0 + 29) (Int32.toNatClampNeg 3) (((ea_i (ea_wi (ea_wi (ea_wi h (b0 + 29) (Int32.toNatClampNeg 0) (ea_i h (Option.getD r1 0) 7)) (b0 + 29) (Int32.toNatClampNeg 1) (ea_i (ea_wi h (b0 + 29) (Int32.toNatClampNeg 0) (ea_i h (Option.getD r1 0) 7)) (Option.getD r1 0) 3)) (b0 + 29) (Int32.toNatClampNeg 2) (ea_i (ea_wi (ea_wi h (b0 + 29) (Int32.toNatClampNeg 0) (ea_i h (Option.getD r1 0) 7)) (b0 + 29) (Int32.toNatClampNeg 1) (ea_i (ea_wi h (b0 + 29) (Int32.toNatClampNeg 0) (ea_i h (Option.getD r1 0) 7)) (Option.getD r1 0) 3)) (Option.getD r1 0) 4)) (Option.getD r1 0) 6) - (ea_i (ea_wi (ea_wi (ea_wi h (b0 + 29) (Int32.toNatClampNeg 0) (ea_i h (Option.getD r1 0) 7)) (b0 + 29) (Int32.toNatClampNeg 1) (ea_i (ea_wi h (b0 + 29) (Int32.toNatClampNeg 0) (ea_i h (Option.getD r1 0) 7)) (Option.getD r1 0) 3)) (b0 + 29) (Int32.toNatClampNeg 2) (ea_i (ea_wi (ea_wi h (b0 + 29) (Int32.toNatClampNeg 0) (ea_i h (Option.getD r1 0) 7)) (b0 + 29) (Int32.toNatClampNeg 1) (ea_i (ea_wi h (b0 + 29) (Int32.toNatClampNeg 0) (ea_i h (Option.getD r1 0) 7)) (Option.getD r1 0) 3)) (Option.getD r1 0) 4)) (Option.getD r1 0) 6) / (1440 : Int32) * (1440 : Int32)) / (60 : Int32))) (b0 + 29) (Int32.toNatClampNeg 4) (vX4_dayOf b0 (Option.getD r1 0) (ea_wi (ea_wi (ea_wi (ea_wi h (b0 + 29) (Int32.toNatClampNeg 0) (ea_i h (Option.getD r1 0) 7)) (b0 + 29) (Int32.toNatClampNeg 1) (ea_i (ea_wi h (b0 + 29) (Int32.toNatClampNeg 0) (ea_i h (Option.getD r1 0) 7)) (Option.getD r1 0) 3)) (b0 + 29) (Int32.toNatClampNeg 2) (ea_i (ea_wi (ea_wi h (b0 + 29) (Int32.toNatClampNeg 0) (ea_i h (Option.getD r1 0) 7)) (b0 + 29) (Int32.toNatClampNeg 1) (ea_i (ea_wi h (b0 + 29) (Int32.toNatClampNeg 0) (ea_i h (Option.getD r1 0) 7)) (Option.getD r1 0) 3)) (Option.getD r1 0) 4)) (b0 + 29) (Int32.toNatClampNeg 3) (((ea_i (ea_wi (ea_wi (ea_wi h (b0 + 29) (Int32.toNatClampNeg 0) (ea_i h (Option.getD r1 0) 7)) (b0 + 29) (Int32.toNatClampNeg 1) (ea_i (ea_wi h (b0 + 29) (Int32.toNatClampNeg 0) (ea_i h (Option.getD r1 0) 7)) (Option.getD r1 0) 3)) (b0 + 29) (Int32.toNatClampNeg 2) (ea_i (ea_wi (ea_wi h (b0 + 29) (Int32.toNatClampNeg 0) (ea_i h (Option.getD r1 0) 7)) (b0 + 29) (Int32.toNatClampNeg 1) (ea_i (ea_wi h (b0 + 29) (Int32.toNatClampNeg 0) (ea_i h (Option.getD r1 0) 7)) (Option.getD r1 0) 3)) (Option.getD r1 0) 4)) (Option.getD r1 0) 6) - (ea_i (ea_wi (ea_wi (ea_wi h (b0 + 29) (Int32.toNatClampNeg 0) (ea_i h (Option.getD r1 0) 7)) (b0 + 29) (Int32.toNatClampNeg 1) (ea_i (ea_wi h (b0 + 29) (Int32.toNatClampNeg 0) (ea_i h (Option.getD r1 0) 7)) (Option.getD r1 0) 3)) (b0 + 29) (Int32.toNatClampNeg 2) (ea_i (ea_wi (ea_wi h (b0 + 29) (Int32.toNatClampNeg 0) (ea_i h (Option.getD r1 0) 7)) (b0 + 29) (Int32.toNatClampNeg 1) (ea_i (ea_wi h (b0 + 29) (Int32.toNatClampNeg 0) (ea_i h (Option.getD r1 0) 7)) (Option.getD r1 0) 3)) (Option.getD r1 0) 4)) (Option.getD r1 0) 6) / (1440 : Int32) * (1440 : Int32)) / (60 : Int32))))) (b0 + 29) (Int32.toNatClampNeg 5) (ea_i (ea_wi (ea_wi (ea_wi (ea_wi (ea_wi h (b0 + 29) (Int32.toNatClampNeg 0) (ea_i h (Option.getD r1 0) 7)) (b0 + 29) (Int32.toNatClampNeg 1) (ea_i (ea_wi h (b0 + 29) (Int32.toNatClampNeg 0) (ea_i h (Option.getD r1 0) 7)) (Option.getD r1 0) 3)) (b0 + 29) (Int32.toNatClampNeg 2) (ea_i (ea_wi (ea_wi h (b0 + 29) (Int32.toNatClampNeg 0) (ea_i h (Option.getD r1 0) 7)) (b0 + 29) (Int32.toNatClampNeg 1) (ea_i (ea_wi h (b0 + 29) (Int32.toNatClampNeg 0) (ea_i h (Option.getD r1 0) 7)) (Option.getD r1 0) 3)) (Option.getD r1 0) 4)) (b0 + 29) (Int32.toNatClampNeg 3) (((ea_i (ea_wi (ea_wi (ea_wi h (b0 + 29) (Int32.toNatClampNeg 0) (ea_i h (Option.getD r1 0) 7)) (b0 + 29) (Int32.toNatClampNeg 1) (ea_i (ea_wi h (b0 + 29) (Int32.toNatClampNeg 0) (ea_i h (Option.getD r1 0) 7)) (Option.getD r1 0) 3)) (b0 + 29) (Int32.toNatClampNeg 2) (ea_i (ea_wi (ea_wi h (b0 + 29) (Int32.toNatClampNeg 0) (ea_i h (Option.getD r1 0) 7)) (b0 + 29) (Int32.toNatClampNeg 1) (ea_i (ea_wi h (b0 + 29) (Int32.toNatClampNeg 0) (ea_i h (Option.getD r1 0) 7)) (Option.getD r1 0) 3)) (Option.getD r1 0) 4)) (Option.getD r1 0) 6) - (ea_i (ea_wi (ea_wi (ea_wi h (b0 + 29) (Int32.toNatClampNeg 0) (ea_i h (Option.getD r1 0) 7)) (b0 + 29) (Int32.toNatClampNeg 1) (ea_i (ea_wi h (b0 + 29) (Int32.toNatClampNeg 0) (ea_i h (Option.getD r1 0) 7)) (Option.getD r1 0) 3)) (b0 + 29) (Int32.toNatClampNeg 2) (ea_i (ea_wi (ea_wi h (b0 + 29) (Int32.toNatClampNeg 0) (ea_i h (Option.getD r1 0) 7)) (b0 + 29) (Int32.toNatClampNeg 1) (ea_i (ea_wi h (b0 + 29) (Int32.toNatClampNeg 0) (ea_i h (Option.getD r1 0) 7)) (Option.getD r1 0) 3)) (Option.getD r1 0) 4)) (Option.getD r1 0) 6) / (1440 : Int32) * (1440 : Int32)) / (60 : Int32))) (b0 + 29) (Int32.toNatClampNeg 4) (vX4_dayOf b0 (Option.getD r1 0) (ea_wi (ea_wi (ea_wi (ea_wi h (b0 + 29) (Int32.toNatClampNeg 0) (ea_i h (Option.getD r1 0) 7)) (b0 + 29) (Int32.toNatClampNeg 1) (ea_i (ea_wi h (b0 + 29) (Int32.toNatClampNeg 0) (ea_i h (Option.getD r1 0) 7)) (Option.getD r1 0) 3)) (b0 + 29) (Int32.toNatClampNeg 2) (ea_i (ea_wi (ea_wi h (b0 + 29) (Int32.toNatClampNeg 0) (ea_i h (Option.getD r1 0) 7)) (b0 + 29) (Int32.toNatClampNeg 1) (ea_i (ea_wi h (b0 + 29) (Int32.toNatClampNeg 0) (ea_i h (Option.getD r1 0) 7)) (Option.getD r1 0) 3)) (Option.getD r1 0) 4)) (b0 + 29) (Int32.toNatClampNeg 3) (((ea_i (ea_wi (ea_wi (ea_wi h (b0 + 29) (Int32.toNatClampNeg 0) (ea_i h (Option.getD r1 0) 7)) (b0 + 29) (Int32.toNatClampNeg 1) (ea_i (ea_wi h (b0 + 29) (Int32.toNatClampNeg 0) (ea_i h (Option.getD r1 0) 7)) (Option.getD r1 0) 3)) (b0 + 29) (Int32.toNatClampNeg 2) (ea_i (ea_wi (ea_wi h (b0 + 29) (Int32.toNatClampNeg 0) (ea_i h (Option.getD r1 0) 7)) (b0 + 29) (Int32.toNatClampNeg 1) (ea_i (ea_wi h (b0 + 29) (Int32.toNatClampNeg 0) (ea_i h (Option.getD r1 0) 7)) (Option.getD r1 0) 3)) (Option.getD r1 0) 4)) (Option.getD r1 0) 6) - (ea_i (ea_wi (ea_wi (ea_wi h (b0 + 29) (Int32.toNatClampNeg 0) (ea_i h (Option.getD r1 0) 7)) (b0 + 29) (Int32.toNatClampNeg 1) (ea_i (ea_wi h (b0 + 29) (Int32.toNatClampNeg 0) (ea_i h (Option.getD r1 0) 7)) (Option.getD r1 0) 3)) (b0 + 29) (Int32.toNatClampNeg 2) (ea_i (ea_wi (ea_wi h (b0 + 29) (Int32.toNatClampNeg 0) (ea_i h (Option.getD r1 0) 7)) (b0 + 29) (Int32.toNatClampNeg 1) (ea_i (ea_wi h (b0 + 29) (Int32.toNatClampNeg 0) (ea_i h (Option.getD r1 0) 7)) (Option.getD r1 0) 3)) (Option.getD r1 0) 4)) (Option.getD r1 0) 6) / (1440 : Int32) * (1440 : Int32)) / (60 : Int32))))) (Option.getD r1 0) 0)) (b0 + 29) (Int32.toNatClampNeg 6) 0) := ShC_wi hs25
    subst EY
    exact ea_return (pc := 86) dX8_ask_86 rfl
  · have EY := EY.trans (if_neg c32)
    have K := K.2 c32
    refine ea_iconst (pc := 80) dX8_ask_80 (v := 1) rfl ?_
    refine ea_goto (pc := 81) (tgt := 85) dX8_ask_81 rfl ?_
    have z30 := K
    refine ea_iast (pc := 85) dX8_ask_85 (hs25.1 29 (by decide)).1 (hs25.1 29 (by decide)).2.1 (ea_vpl (hs25.1 29 (by decide)).2.2 z30) ?_
    have hs31 : ShC b0 (ea_wi (ea_wi (ea_wi (ea_wi (ea_wi (ea_wi (ea_wi h (b0 + 29) (Int32.toNatClampNeg 0) (ea_i h (Option.getD r1 0) 7)) (b0 + 29) (Int32.toNatClampNeg 1) (ea_i (ea_wi h (b0 + 29) (Int32.toNatClampNeg 0) (ea_i h (Option.getD r1 0) 7)) (Option.getD r1 0) 3)) (b0 + 29) (Int32.toNatClampNeg 2) (ea_i (ea_wi (ea_wi h (b0 + 29) (Int32.toNatClampNeg 0) (ea_i h (Option.getD r1 0) 7)) (b0 + 29) (Int32.toNatClampNeg 1) (ea_i (ea_wi h (b0 + 29) (Int32.toNatClampNeg 0) (ea_i h (Option.getD r1 0) 7)) (Option.getD r1 0) 3)) (Option.getD r1 0) 4)) (b0 + 29) (Int32.toNatClampNeg 3) (((ea_i (ea_wi (ea_wi (ea_wi h (b0 + 29) (Int32.toNatClampNeg 0) (ea_i h (Option.getD r1 0) 7)) (b0 + 29) (Int32.toNatClampNeg 1) (ea_i (ea_wi h (b0 + 29) (Int32.toNatClampNeg 0) (ea_i h (Option.getD r1 0) 7)) (Option.getD r1 0) 3)) (b0 + 29) (Int32.toNatClampNeg 2) (ea_i (ea_wi (ea_wi h (b0 + 29) (Int32.toNatClampNeg 0) (ea_i h (Option.getD r1 0) 7)) (b0 + 29) (Int32.toNatClampNeg 1) (ea_i (ea_wi h (b0 + 29) (Int32.toNatClampNeg 0) (ea_i h (Option.getD r1 0) 7)) (Option.getD r1 0) 3)) (Option.getD r1 0) 4)) (Option.getD r1 0) 6) - (ea_i (ea_wi (ea_wi (ea_wi h (b0 + 29) (Int32.toNatClampNeg 0) (ea_i h (Option.getD r1 0) 7)) (b0 + 29) (Int32.toNatClampNeg 1) (ea_i (ea_wi h (b0 + 29) (Int32.toNatClampNeg 0) (ea_i h (Option.getD r1 0) 7)) (Option.getD r1 0) 3)) (b0 + 29) (Int32.toNatClampNeg 2) (ea_i (ea_wi (ea_wi h (b0 + 29) (Int32.toNatClampNeg 0) (ea_i h (Option.getD r1 0) 7)) (b0 + 29) (Int32.toNatClampNeg 1) (ea_i (ea_wi h (b0 + 29) (Int32.toNatClampNeg 0) (ea_i h (Option.getD r1 0) 7)) (Option.getD r1 0) 3)) (Option.getD r1 0) 4)) (Option.getD r1 0) 6) / (1440 : Int32) * (1440 : Int32)) / (60 : Int32))) (b0 + 29) (Int32.toNatClampNeg 4) (vX4_dayOf b0 (Option.getD r1 0) (ea_wi (ea_wi (ea_wi (ea_wi h (b0 + 29) (Int32.toNatClampNeg 0) (ea_i h (Option.getD r1 0) 7)) (b0 + 29) (Int32.toNatClampNeg 1) (ea_i (ea_wi h (b0 + 29) (Int32.toNatClampNeg 0) (ea_i h (Option.getD r1 0) 7)) (Option.getD r1 0) 3)) (b0 + 29) (Int32.toNatClampNeg 2) (ea_i (ea_wi (ea_wi h (b0 + 29) (Int32.toNatClampNeg 0) (ea_i h (Option.getD r1 0) 7)) (b0 + 29) (Int32.toNatClampNeg 1) (ea_i (ea_wi h (b0 + 29) (Int32.toNatClampNeg 0) (ea_i h (Option.getD r1 0) 7)) (Option.getD r1 0) 3)) (Option.getD r1 0) 4)) (b0 + 29) (Int32.toNatClampNeg 3) (((ea_i (ea_wi (ea_wi (ea_wi h (b0 + 29) (Int32.toNatClampNeg 0) (ea_i h (Option.getD r1 0) 7)) (b0 + 29) (Int32.toNatClampNeg 1) (ea_i (ea_wi h (b0 + 29) (Int32.toNatClampNeg 0) (ea_i h (Option.getD r1 0) 7)) (Option.getD r1 0) 3)) (b0 + 29) (Int32.toNatClampNeg 2) (ea_i (ea_wi (ea_wi h (b0 + 29) (Int32.toNatClampNeg 0) (ea_i h (Option.getD r1 0) 7)) (b0 + 29) (Int32.toNatClampNeg 1) (ea_i (ea_wi h (b0 + 29) (Int32.toNatClampNeg 0) (ea_i h (Option.getD r1 0) 7)) (Option.getD r1 0) 3)) (Option.getD r1 0) 4)) (Option.getD r1 0) 6) - (ea_i (ea_wi (ea_wi (ea_wi h (b0 + 29) (Int32.toNatClampNeg 0) (ea_i h (Option.getD r1 0) 7)) (b0 + 29) (Int32.toNatClampNeg 1) (ea_i (ea_wi h (b0 + 29) (Int32.toNatClampNeg 0) (ea_i h (Option.getD r1 0) 7)) (Option.getD r1 0) 3)) (b0 + 29) (Int32.toNatClampNeg 2) (ea_i (ea_wi (ea_wi h (b0 + 29) (Int32.toNatClampNeg 0) (ea_i h (Option.getD r1 0) 7)) (b0 + 29) (Int32.toNatClampNeg 1) (ea_i (ea_wi h (b0 + 29) (Int32.toNatClampNeg 0) (ea_i h (Option.getD r1 0) 7)) (Option.getD r1 0) 3)) (Option.getD r1 0) 4)) (Option.getD r1 0) 6) / (1440 : Int32) * (1440 : Int32)) / (60 : Int32))))) (b0 + 29) (Int32.toNatClampNeg 5) (ea_i (ea_wi (ea_wi (ea_wi (ea_wi (ea_wi h (b0 + 29) (Int32.toNatClampNeg 0) (ea_i h (Option.getD r1 0) 7)) (b0 + 29) (Int32.toNatClampNeg 1) (ea_i (ea_wi h (b0 + 29) (Int32.toNatClampNeg 0) (ea_i h (Option.getD r1 0) 7)) (Option.getD r1 0) 3)) (b0 + 29) (Int32.toNatClampNeg 2) (ea_i (ea_wi (ea_wi h (b0 + 29) (Int32.toNatClampNeg 0) (ea_i h (Option.getD r1 0) 7)) (b0 + 29) (Int32.toNatClampNeg 1) (ea_i (ea_wi h (b0 + 29) (Int32.toNatClampNeg 0) (ea_i h (Option.getD r1 0) 7)) (Option.getD r1 0) 3)) (Option.getD r1 0) 4)) (b0 + 29) (Int32.toNatClampNeg 3) (((ea_i (ea_wi (ea_wi (ea_wi h (b0 + 29) (Int32.toNatClampNeg 0) (ea_i h (Option.getD r1 0) 7)) (b0 + 29) (Int32.toNatClampNeg 1) (ea_i (ea_wi h (b0 + 29) (Int32.toNatClampNeg 0) (ea_i h (Option.getD r1 0) 7)) (Option.getD r1 0) 3)) (b0 + 29) (Int32.toNatClampNeg 2) (ea_i (ea_wi (ea_wi h (b0 + 29) (Int32.toNatClampNeg 0) (ea_i h (Option.getD r1 0) 7)) (b0 + 29) (Int32.toNatClampNeg 1) (ea_i (ea_wi h (b0 + 29) (Int32.toNatClampNeg 0) (ea_i h (Option.getD r1 0) 7)) (Option.getD r1 0) 3)) (Option.getD r1 0) 4)) (Option.getD r1 0) 6) - (ea_i (ea_wi (ea_wi (ea_wi h (b0 + 29) (Int32.toNatClampNeg 0) (ea_i h (Option.getD r1 0) 7)) (b0 + 29) (Int32.toNatClampNeg 1) (ea_i (ea_wi h (b0 + 29) (Int32.toNatClampNeg 0) (ea_i h (Option.getD r1 0) 7)) (Option.getD r1 0) 3)) (b0 + 29) (Int32.toNatClampNeg 2) (ea_i (ea_wi (ea_wi h (b0 + 29) (Int32.toNatClampNeg 0) (ea_i h (Option.getD r1 0) 7)) (b0 + 29) (Int32.toNatClampNeg 1) (ea_i (ea_wi h (b0 + 29) (Int32.toNatClampNeg 0) (ea_i h (Option.getD r1 0) 7)) (Option.getD r1 0) 3)) (Option.getD r1 0) 4)) (Option.getD r1 0) 6) / (1440 : Int32) * (1440 : Int32)) / (60 : Int32))) (b0 + 29) (Int32.toNatClampNeg 4) (vX4_dayOf b0 (Option.getD r1 0) (ea_wi (ea_wi (ea_wi (ea_wi h (b0 + 29) (Int32.toNatClampNeg 0) (ea_i h (Option.getD r1 0) 7)) (b0 + 29) (Int32.toNatClampNeg 1) (ea_i (ea_wi h (b0 + 29) (Int32.toNatClampNeg 0) (ea_i h (Option.getD r1 0) 7)) (Option.getD r1 0) 3)) (b0 + 29) (Int32.toNatClampNeg 2) (ea_i (ea_wi (ea_wi h (b0 + 29) (Int32.toNatClampNeg 0) (ea_i h (Option.getD r1 0) 7)) (b0 + 29) (Int32.toNatClampNeg 1) (ea_i (ea_wi h (b0 + 29) (Int32.toNatClampNeg 0) (ea_i h (Option.getD r1 0) 7)) (Option.getD r1 0) 3)) (Option.getD r1 0) 4)) (b0 + 29) (Int32.toNatClampNeg 3) (((ea_i (ea_wi (ea_wi (ea_wi h (b0 + 29) (Int32.toNatClampNeg 0) (ea_i h (Option.getD r1 0) 7)) (b0 + 29) (Int32.toNatClampNeg 1) (ea_i (ea_wi h (b0 + 29) (Int32.toNatClampNeg 0) (ea_i h (Option.getD r1 0) 7)) (Option.getD r1 0) 3)) (b0 + 29) (Int32.toNatClampNeg 2) (ea_i (ea_wi (ea_wi h (b0 + 29) (Int32.toNatClampNeg 0) (ea_i h (Option.getD r1 0) 7)) (b0 + 29) (Int32.toNatClampNeg 1) (ea_i (ea_wi h (b0 + 29) (Int32.toNatClampNeg 0) (ea_i h (Option.getD r1 0) 7)) (Option.getD r1 0) 3)) (Option.getD r1 0) 4)) (Option.getD r1 0) 6) - (ea_i (ea_wi (ea_wi (ea_wi h (b0 + 29) (Int32.toNatClampNeg 0) (ea_i h (Option.getD r1 0) 7)) (b0 + 29) (Int32.toNatClampNeg 1) (ea_i (ea_wi h (b0 + 29) (Int32.toNatClampNeg 0) (ea_i h (Option.getD r1 0) 7)) (Option.getD r1 0) 3)) (b0 + 29) (Int32.toNatClampNeg 2) (ea_i (ea_wi (ea_wi h (b0 + 29) (Int32.toNatClampNeg 0) (ea_i h (Option.getD r1 0) 7)) (b0 + 29) (Int32.toNatClampNeg 1) (ea_i (ea_wi h (b0 + 29) (Int32.toNatClampNeg 0) (ea_i h (Option.getD r1 0) 7)) (Option.getD r1 0) 3)) (Option.getD r1 0) 4)) (Option.getD r1 0) 6) / (1440 : Int32) * (1440 : Int32)) / (60 : Int32))))) (Option.getD r1 0) 0)) (b0 + 29) (Int32.toNatClampNeg 6) 1) := ShC_wi hs25
    subst EY
    exact ea_return (pc := 86) dX8_ask_86 rfl
