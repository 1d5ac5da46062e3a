/-! the class, 3 -/
noncomputable def gX11_differing (b0 : Nat) : Nat → Nat → Int32 → Int32 → Int32 → Int32 → ea_H → Option (Int32 × ea_H)
  | 0, _, _, _, _, _, _ => none
  | f + 1, lbl, x1, x2, x3, x4, h =>
    if lbl = 0 then (gX11_differing b0 f 5 (x1 : Int32) (x2 : Int32) (0 : Int32) (0 : Int32) h) else
    if lbl = 5 then (if (ea_i h (b0 + 32) 0) ≤ x4 then (some (x3, h)) else (gd ((okX11_differs b0 (x4 : Int32) (x1 : Int32) (x2 : Int32) h)) (if (vX11_differs b0 (x4 : Int32) (x1 : Int32) (x2 : Int32) h) = (0 : Int32) then (gX11_differing b0 f 5 (x1 : Int32) (x2 : Int32) (x3 : Int32) ((x4 + (1 : Int32)) : Int32) h) else (gX11_differing b0 f 5 (x1 : Int32) (x2 : Int32) ((x3 + (1 : Int32)) : Int32) ((x4 + (1 : Int32)) : Int32) h)))) else none
theorem tX11_differing {d : Nat} {b0 : Nat} {h0 : ea_H} (hd : 3 ≤ d) : ∀ (f lbl : Nat) (x1 : Int32) (x2 : Int32) (x3 : Int32) (x4 : Int32) (h : ea_H) (r : Int32) (h' : ea_H), gX11_differing b0 f lbl x1 x2 x3 x4 h = some (r, h') → ShC b0 h → (lbl = 0 → ea_W mX11_differing d h0 (some (vI r)) h' 0 [(0, vR (some (b0 + 0))), (1, vI x1), (2, vI x2)] [] h) ∧ (lbl = 5 → ea_W mX11_differing d h0 (some (vI r)) h' 5 [(0, vR (some (b0 + 0))), (1, vI x1), (2, vI x2), (3, vI x3), (4, vI x4)] [] h) := by
  intro f
  induction f with
  | zero => intro lbl x1 x2 x3 x4 h r h' E; cases E
  | succ f ih =>
    intro lbl x1 x2 x3 x4 h r h' E hs
    unfold gX11_differing at E
    refine ⟨?_, ?_⟩
    · intro el
      subst el
      have E := (if_pos rfl).symm.trans E
      refine ea_iconst (pc := 0) dX11_differing_0 (v := 0) rfl ?_
      refine ea_istore_n (pc := 1) (lv' := [(0, vR (some (b0 + 0))), (1, vI x1), (2, vI x2), (3, vI 0)]) dX11_differing_1 rfl (Nat.le_of_ble_eq_true rfl) [1, 2, 3, 0] rfl ?_
      refine ea_iconst (pc := 2) dX11_differing_2 (v := 0) rfl ?_
      refine ea_istore (pc := 3) (lv' := [(0, vR (some (b0 + 0))), (1, vI x1), (2, vI x2), (3, vI 0), (4, vI 0)]) dX11_differing_3 (Nat.le_of_ble_eq_true rfl) [1, 2, 3, 4, 0] rfl ?_
      exact ((ih 5 (x1 : Int32) (x2 : Int32) (0 : Int32) (0 : Int32) h _ _ E hs).2 rfl)
    intro el
    subst el
    have E := (if_neg (by decide)).symm.trans E
    have E := (if_pos rfl).symm.trans E
    refine ea_iload (pc := 5) dX11_differing_5 4 rfl ?_
    refine ea_aload_n (pc := 7) dX11_differing_7 rfl 0 rfl ?_
    refine ea_getR (pc := 8) dX11_differing_8 ec_11 (k := 6) (Nat.le_of_ble_eq_true rfl) rfl (Or.inl ew_443) (hs.1 0 (by decide)).1 (hs.1 0 (by decide)).2.1 (hs.2 0 6 rfl) ?_
    refine ea_getI (pc := 11) dX11_differing_11 ec_1 (k := 0) (Nat.le_of_ble_eq_true rfl) rfl (Or.inl ew_360) (hs.1 32 (by decide)).1 (hs.1 32 (by decide)).2.1 ?_
    refine ea_icmp_ge (pc := 14) (tgt := 37) dX11_differing_14 rfl (fun c3 => ?_) (fun c3 => ?_)
    · have E := (if_pos c3).symm.trans E
      refine ea_iload_n (pc := 37) dX11_differing_37 rfl 3 rfl ?_
      cases E
      exact ea_ireturn (pc := 38) dX11_differing_38 rfl rfl
    · have E := (if_neg c3).symm.trans E
      refine ea_aload_n (pc := 17) dX11_differing_17 rfl 0 rfl ?_
      refine ea_iload (pc := 18) dX11_differing_18 4 rfl ?_
      refine ea_iload_n (pc := 20) dX11_differing_20 rfl 1 rfl ?_
      refine ea_iload_n (pc := 21) dX11_differing_21 rfl 2 rfl ?_
      obtain ⟨z1, E⟩ := gd_some E
      refine ea_callV (pc := 22) (d' := d - 1) (As := [vI x4, vI x1, vI x2]) (st := []) dX11_differing_22 kX11_differs (sX11_differs (d := d - 1) (by omega) hs z1) (by omega) rfl (Nat.le_of_ble_eq_true rfl) ew_1174 ew_1176 ew_41 (ci := 11) rfl (by decide) (hs.1 0 (by decide)).1 (hs.1 0 (by decide)).2.1 ?_
      refine ea_if_eq (pc := 25) (tgt := 31) dX11_differing_25 rfl (fun c2 => ?_) (fun c2 => ?_)
      · have E := (if_pos c2).symm.trans E
        refine ea_iinc (pc := 31) (v := 1) (lv' := [(0, vR (some (b0 + 0))), (1, vI x1), (2, vI x2), (3, vI x3), (4, vI (x4 + (1 : Int32)))]) dX11_differing_31 4 rfl rfl (Nat.le_of_ble_eq_true rfl) [1, 2, 3, 4, 0] rfl ?_
        refine ea_goto (pc := 34) (tgt := 5) dX11_differing_34 rfl ?_
        exact ((ih 5 (x1 : Int32) (x2 : Int32) (x3 : Int32) ((x4 + (1 : Int32)) : Int32) h _ _ E hs).2 rfl)
      · have E := (if_neg c2).symm.trans E
        refine ea_iinc (pc := 28) (v := 1) (lv' := [(0, vR (some (b0 + 0))), (1, vI x1), (2, vI x2), (3, vI (x3 + (1 : Int32))), (4, vI x4)]) dX11_differing_28 3 rfl rfl (Nat.le_of_ble_eq_true rfl) [1, 2, 3, 0, 4] rfl ?_
        refine ea_iinc (pc := 31) (v := 1) (lv' := [(0, vR (some (b0 + 0))), (1, vI x1), (2, vI x2), (3, vI (x3 + (1 : Int32))), (4, vI (x4 + (1 : Int32)))]) dX11_differing_31 4 rfl rfl (Nat.le_of_ble_eq_true rfl) [1, 2, 3, 4, 0] rfl ?_
        refine ea_goto (pc := 34) (tgt := 5) dX11_differing_34 rfl ?_
        exact ((ih 5 (x1 : Int32) (x2 : Int32) ((x3 + (1 : Int32)) : Int32) ((x4 + (1 : Int32)) : Int32) h _ _ E hs).2 rfl)
noncomputable def qX11_differing (b0 : Nat) (x1 : Int32) (x2 : Int32) (h : ea_H) : Option (Int32 × ea_H) := gX11_differing b0 1000000000 0 x1 x2 0 0 h
def okX11_differing (b0 : Nat) (x1 : Int32) (x2 : Int32) (h : ea_H) : Prop := ∃ x, qX11_differing b0 x1 x2 h = some x
noncomputable def vX11_differing (b0 : Nat) (x1 : Int32) (x2 : Int32) (h : ea_H) : Int32 := ((qX11_differing b0 x1 x2 h).getD (0, h)).1
noncomputable def wX11_differing (b0 : Nat) (x1 : Int32) (x2 : Int32) (h : ea_H) : ea_H := ((qX11_differing b0 x1 x2 h).getD (0, h)).2
theorem sX11_differing {d : Nat} {b0 : Nat} {x1 : Int32} {x2 : Int32} {h : ea_H} (hd : 3 ≤ d) (hs : ShC b0 h) (K : okX11_differing b0 x1 x2 h) : ea_Met mX11_differing d [vR (some (b0 + 0)), vI x1, vI x2] h (some (vI (vX11_differing b0 x1 x2 h))) (wX11_differing b0 x1 x2 h) := by
  obtain ⟨⟨x, y⟩, K⟩ := K
  unfold wX11_differing vX11_differing
  rw [K]
  unfold qX11_differing at K
  exact ea_enter rfl (Nat.le_of_ble_eq_true rfl) ((tX11_differing hd 1000000000 0 x1 x2 0 0 h x y K hs).1 rfl)
theorem zX11_differing {b0 : Nat} : ∀ (f lbl : Nat) (x1 : Int32) (x2 : Int32) (x3 : Int32) (x4 : Int32) (h : ea_H) (r : Int32) (h' : ea_H), gX11_differing b0 f lbl x1 x2 x3 x4 h = some (r, h') → ShC b0 h → ShC b0 h' := by
  intro f
  induction f with
  | zero => intro lbl x1 x2 x3 x4 h r h' E; cases E
  | succ f ih =>
    intro lbl x1 x2 x3 x4 h r h' E hs
    unfold gX11_differing at E
    by_cases el0 : lbl = 0
    · have E := (if_pos el0).symm.trans E
      exact ih 5 (x1 : Int32) (x2 : Int32) (0 : Int32) (0 : Int32) h _ _ E hs
    have E := (if_neg el0).symm.trans E
    by_cases el1 : lbl = 5
    · have E := (if_pos el1).symm.trans E
      by_cases c3 : (ea_i h (b0 + 32) 0) ≤ x4
      · have E := (if_pos c3).symm.trans E
        cases E
        exact hs
      have E := (if_neg c3).symm.trans E
      obtain ⟨z1, E⟩ := gd_some E
      by_cases c2 : (vX11_differs b0 (x4 : Int32) (x1 : Int32) (x2 : Int32) h) = (0 : Int32)
      · have E := (if_pos c2).symm.trans E
        exact ih 5 (x1 : Int32) (x2 : Int32) (x3 : Int32) ((x4 + (1 : Int32)) : Int32) h _ _ E hs
      have E := (if_neg c2).symm.trans E
      exact ih 5 (x1 : Int32) (x2 : Int32) ((x3 + (1 : Int32)) : Int32) ((x4 + (1 : Int32)) : Int32) h _ _ E hs
    have E := (if_neg el1).symm.trans E
    cases E
theorem shX11_differing {b0 : Nat} {x1 : Int32} {x2 : Int32} {h : ea_H} (hs : ShC b0 h) : ShC b0 (wX11_differing b0 x1 x2 h) := by
  unfold wX11_differing
  cases K : qX11_differing b0 x1 x2 h with
  | none => exact hs
  | some x => obtain ⟨x, y⟩ := x; unfold qX11_differing at K; exact zX11_differing _ _ _ _ _ _ _ _ _ K hs
noncomputable def gX11_differingLetter (b0 : Nat) : Nat → Nat → Int32 → Int32 → Int32 → Int32 → Int32 → ea_H → Option (Int32 × ea_H)
  | 0, _, _, _, _, _, _, _ => none
  | f + 1, lbl, x1, x2, x3, x4, x5, h =>
    if lbl = 0 then (gX11_differingLetter b0 f 6 (x1 : Int32) (x2 : Int32) (x3 : Int32) (0 : Int32) (0 : Int32) h) else
    if lbl = 6 then (if (ea_i h (b0 + 32) 0) ≤ x5 then (some (((-1) : Int32), h)) else (gd ((okX11_differs b0 (x5 : Int32) (x1 : Int32) (x2 : Int32) h)) (if (vX11_differs b0 (x5 : Int32) (x1 : Int32) (x2 : Int32) h) = (0 : Int32) then (gX11_differingLetter b0 f 6 (x1 : Int32) (x2 : Int32) (x3 : Int32) (x4 : Int32) ((x5 + (1 : Int32)) : Int32) h) else (if x4 = x3 then (some (x5, h)) else (gX11_differingLetter b0 f 6 (x1 : Int32) (x2 : Int32) (x3 : Int32) ((x4 + (1 : Int32)) : Int32) ((x5 + (1 : Int32)) : Int32) h))))) else none
theorem tX11_differingLetter {d : Nat} {b0 : Nat} {h0 : ea_H} (hd : 3 ≤ d) : ∀ (f lbl : Nat) (x1 : Int32) (x2 : Int32) (x3 : Int32) (x4 : Int32) (x5 : Int32) (h : ea_H) (r : Int32) (h' : ea_H), gX11_differingLetter b0 f lbl x1 x2 x3 x4 x5 h = some (r, h') → ShC b0 h → (lbl = 0 → ea_W mX11_differingLetter d h0 (some (vI r)) h' 0 [(0, vR (some (b0 + 0))), (1, vI x1), (2, vI x2), (3, vI x3)] [] h) ∧ (lbl = 6 → ea_W mX11_differingLetter d h0 (some (vI r)) h' 6 [(0, vR (some (b0 + 0))), (1, vI x1), (2, vI x2), (3, vI x3), (4, vI x4), (5, vI x5)] [] h) := by
  intro f
  induction f with
  | zero => intro lbl x1 x2 x3 x4 x5 h r h' E; cases E
  | succ f ih =>
    intro lbl x1 x2 x3 x4 x5 h r h' E hs
    unfold gX11_differingLetter at E
    refine ⟨?_, ?_⟩
    · intro el
      subst el
      have E := (if_pos rfl).symm.trans E
      refine ea_iconst (pc := 0) dX11_differingLetter_0 (v := 0) rfl ?_
      refine ea_istore (pc := 1) (lv' := [(0, vR (some (b0 + 0))), (1, vI x1), (2, vI x2), (3, vI x3), (4, vI 0)]) dX11_differingLetter_1 (Nat.le_of_ble_eq_true rfl) [1, 2, 3, 4, 0] rfl ?_
      refine ea_iconst (pc := 3) dX11_differingLetter_3 (v := 0) rfl ?_
      refine ea_istore (pc := 4) (lv' := [(0, vR (some (b0 + 0))), (1, vI x1), (2, vI x2), (3, vI x3), (4, vI 0), (5, vI 0)]) dX11_differingLetter_4 (Nat.le_of_ble_eq_true rfl) [1, 2, 3, 4, 5, 0] rfl ?_
      exact ((ih 6 (x1 : Int32) (x2 : Int32) (x3 : Int32) (0 : Int32) (0 : Int32) h _ _ E hs).2 rfl)
    intro el
    subst el
    have E := (if_neg (by decide)).symm.trans E
    have E := (if_pos rfl).symm.trans E
    refine ea_iload (pc := 6) dX11_differingLetter_6 5 rfl ?_
    refine ea_aload_n (pc := 8) dX11_differingLetter_8 rfl 0 rfl ?_
    refine ea_getR (pc := 9) dX11_differingLetter_9 ec_11 (k := 6) (Nat.le_of_ble_eq_true rfl) rfl (Or.inl ew_443) (hs.1 0 (by decide)).1 (hs.1 0 (by decide)).2.1 (hs.2 0 6 rfl) ?_
    refine ea_getI (pc := 12) dX11_differingLetter_12 ec_1 (k := 0) (Nat.le_of_ble_eq_true rfl) rfl (Or.inl ew_360) (hs.1 32 (by decide)).1 (hs.1 32 (by decide)).2.1 ?_
    refine ea_icmp_ge (pc := 15) (tgt := 47) dX11_differingLetter_15 rfl (fun c4 => ?_) (fun c4 => ?_)
    · have E := (if_pos c4).symm.trans E
      refine ea_iconst (pc := 47) dX11_differingLetter_47 (v := (-1)) rfl ?_
      cases E
      exact ea_ireturn (pc := 48) dX11_differingLetter_48 rfl rfl
    · have E := (if_neg c4).symm.trans E
      refine ea_aload_n (pc := 18) dX11_differingLetter_18 rfl 0 rfl ?_
      refine ea_iload (pc := 19) dX11_differingLetter_19 5 rfl ?_
      refine ea_iload_n (pc := 21) dX11_differingLetter_21 rfl 1 rfl ?_
      refine ea_iload_n (pc := 22) dX11_differingLetter_22 rfl 2 rfl ?_
      obtain ⟨z1, E⟩ := gd_some E
      refine ea_callV (pc := 23) (d' := d - 1) (As := [vI x5, vI x1, vI x2]) (st := []) dX11_differingLetter_23 kX11_differs (sX11_differs (d := d - 1) (by omega) hs z1) (by omega) rfl (Nat.le_of_ble_eq_true rfl) ew_1174 ew_1176 ew_41 (ci := 11) rfl (by decide) (hs.1 0 (by decide)).1 (hs.1 0 (by decide)).2.1 ?_
      refine ea_if_eq (pc := 26) (tgt := 41) dX11_differingLetter_26 rfl (fun c3 => ?_) (fun c3 => ?_)
      · have E := (if_pos c3).symm.trans E
        refine ea_iinc (pc := 41) (v := 1) (lv' := [(0, vR (some (b0 + 0))), (1, vI x1), (2, vI x2), (3, vI x3), (4, vI x4), (5, vI (x5 + (1 : Int32)))]) dX11_differingLetter_41 5 rfl rfl (Nat.le_of_ble_eq_true rfl) [1, 2, 3, 4, 5, 0] rfl ?_
        refine ea_goto (pc := 44) (tgt := 6) dX11_differingLetter_44 rfl ?_
        exact ((ih 6 (x1 : Int32) (x2 : Int32) (x3 : Int32) (x4 : Int32) ((x5 + (1 : Int32)) : Int32) h _ _ E hs).2 rfl)
      · have E := (if_neg c3).symm.trans E
        refine ea_iload (pc := 29) dX11_differingLetter_29 4 rfl ?_
        refine ea_iload_n (pc := 31) dX11_differingLetter_31 rfl 3 rfl ?_
        refine ea_icmp_ne (pc := 32) (tgt := 38) dX11_differingLetter_32 rfl (fun c2 => ?_) (fun c2 => ?_)
        · have E := (if_neg c2).symm.trans E
          refine ea_iinc (pc := 38) (v := 1) (lv' := [(0, vR (some (b0 + 0))), (1, vI x1), (2, vI x2), (3, vI x3), (4, vI (x4 + (1 : Int32))), (5, vI x5)]) dX11_differingLetter_38 4 rfl rfl (Nat.le_of_ble_eq_true rfl) [1, 2, 3, 4, 0, 5] rfl ?_
          refine ea_iinc (pc := 41) (v := 1) (lv' := [(0, vR (some (b0 + 0))), (1, vI x1), (2, vI x2), (3, vI x3), (4, vI (x4 + (1 : Int32))), (5, vI (x5 + (1 : Int32)))]) dX11_differingLetter_41 5 rfl rfl (Nat.le_of_ble_eq_true rfl) [1, 2, 3, 4, 5, 0] rfl ?_
          refine ea_goto (pc := 44) (tgt := 6) dX11_differingLetter_44 rfl ?_
          exact ((ih 6 (x1 : Int32) (x2 : Int32) (x3 : Int32) ((x4 + (1 : Int32)) : Int32) ((x5 + (1 : Int32)) : Int32) h _ _ E hs).2 rfl)
        · have E := (if_pos c2).symm.trans E
          refine ea_iload (pc := 35) dX11_differingLetter_35 5 rfl ?_
          cases E
          exact ea_ireturn (pc := 37) dX11_differingLetter_37 rfl rfl
noncomputable def qX11_differingLetter (b0 : Nat) (x1 : Int32) (x2 : Int32) (x3 : Int32) (h : ea_H) : Option (Int32 × ea_H) := gX11_differingLetter b0 1000000000 0 x1 x2 x3 0 0 h
def okX11_differingLetter (b0 : Nat) (x1 : Int32) (x2 : Int32) (x3 : Int32) (h : ea_H) : Prop := ∃ x, qX11_differingLetter b0 x1 x2 x3 h = some x
noncomputable def vX11_differingLetter (b0 : Nat) (x1 : Int32) (x2 : Int32) (x3 : Int32) (h : ea_H) : Int32 := ((qX11_differingLetter b0 x1 x2 x3 h).getD (0, h)).1
noncomputable def wX11_differingLetter (b0 : Nat) (x1 : Int32) (x2 : Int32) (x3 : Int32) (h : ea_H) : ea_H := ((qX11_differingLetter b0 x1 x2 x3 h).getD (0, h)).2
theorem sX11_differingLetter {d : Nat} {b0 : Nat} {x1 : Int32} {x2 : Int32} {x3 : Int32} {h : ea_H} (hd : 3 ≤ d) (hs : ShC b0 h) (K : okX11_differingLetter b0 x1 x2 x3 h) : ea_Met mX11_differingLetter d [vR (some (b0 + 0)), vI x1, vI x2, vI x3] h (some (vI (vX11_differingLetter b0 x1 x2 x3 h))) (wX11_differingLetter b0 x1 x2 x3 h) := by
  obtain ⟨⟨x, y⟩, K⟩ := K
  unfold wX11_differingLetter vX11_differingLetter
  rw [K]
  unfold qX11_differingLetter at K
  exact ea_enter rfl (Nat.le_of_ble_eq_true rfl) ((tX11_differingLetter hd 1000000000 0 x1 x2 x3 0 0 h x y K hs).1 rfl)
theorem zX11_differingLetter {b0 : Nat} : ∀ (f lbl : Nat) (x1 : Int32) (x2 : Int32) (x3 : Int32) (x4 : Int32) (x5 : Int32) (h : ea_H) (r : Int32) (h' : ea_H), gX11_differingLetter b0 f lbl x1 x2 x3 x4 x5 h = some (r, h') → ShC b0 h → ShC b0 h' := by
  intro f
  induction f with
  | zero => intro lbl x1 x2 x3 x4 x5 h r h' E; cases E
  | succ f ih =>
    intro lbl x1 x2 x3 x4 x5 h r h' E hs
    unfold gX11_differingLetter at E
    by_cases el0 : lbl = 0
    · have E := (if_pos el0).symm.trans E
      exact ih 6 (x1 : Int32) (x2 : Int32) (x3 : Int32) (0 : Int32) (0 : Int32) h _ _ E hs
    have E := (if_neg el0).symm.trans E
    by_cases el1 : lbl = 6
    · have E := (if_pos el1).symm.trans E
      by_cases c4 : (ea_i h (b0 + 32) 0) ≤ x5
      · have E := (if_pos c4).symm.trans E
        cases E
        exact hs
      have E := (if_neg c4).symm.trans E
      obtain ⟨z1, E⟩ := gd_some E
      by_cases c3 : (vX11_differs b0 (x5 : Int32) (x1 : Int32) (x2 : Int32) h) = (0 : Int32)
      · have E := (if_pos c3).symm.trans E
        exact ih 6 (x1 : Int32) (x2 : Int32) (x3 : Int32) (x4 : Int32) ((x5 + (1 : Int32)) : Int32) h _ _ E hs
      have E := (if_neg c3).symm.trans E
      by_cases c2 : x4 = x3
      · have E := (if_pos c2).symm.trans E
        cases E
        exact hs
      have E := (if_neg c2).symm.trans E
      exact ih 6 (x1 : Int32) (x2 : Int32) (x3 : Int32) ((x4 + (1 : Int32)) : Int32) ((x5 + (1 : Int32)) : Int32) h _ _ E hs
    have E := (if_neg el1).symm.trans E
    cases E
theorem shX11_differingLetter {b0 : Nat} {x1 : Int32} {x2 : Int32} {x3 : Int32} {h : ea_H} (hs : ShC b0 h) : ShC b0 (wX11_differingLetter b0 x1 x2 x3 h) := by
  unfold wX11_differingLetter
  cases K : qX11_differingLetter b0 x1 x2 x3 h with
  | none => exact hs
  | some x => obtain ⟨x, y⟩ := x; unfold qX11_differingLetter at K; exact zX11_differingLetter _ _ _ _ _ _ _ _ _ _ K hs
noncomputable def vX11_isUnderWay (b0 : Nat) (x1 : Int32) (x2 : Int32) (h : ea_H) : Int32 := (if (vX9_goneFrom b0 (x1 : Int32) (x2 : Int32) ((ea_i h (b0 + 0) 11) : Int32) h) = ((-1) : Int32) then (0 : Int32) else (if (vX9_comesAt b0 (x1 : Int32) (x2 : Int32) (((vX9_goneFrom b0 (x1 : Int32) (x2 : Int32) ((ea_i h (b0 + 0) 11) : Int32) h) + (1 : Int32)) : Int32) (wX9_goneFrom b0 (x1 : Int32) (x2 : Int32) ((ea_i h (b0 + 0) 11) : Int32) h)) ≤ (ea_i (wX9_goneFrom b0 (x1 : Int32) (x2 : Int32) ((ea_i h (b0 + 0) 11) : Int32) h) (b0 + 0) 11) then (0 : Int32) else (1 : Int32)))
noncomputable def wX11_isUnderWay (b0 : Nat) (x1 : Int32) (x2 : Int32) (h : ea_H) : ea_H := (wX9_goneFrom b0 (x1 : Int32) (x2 : Int32) ((ea_i h (b0 + 0) 11) : Int32) h)
def okX11_isUnderWay (b0 : Nat) (x1 : Int32) (x2 : Int32) (h : ea_H) : Prop := (okX9_goneFrom b0 (x1 : Int32) (x2 : Int32) ((ea_i h (b0 + 0) 11) : Int32) h) ∧ (((vX9_goneFrom b0 (x1 : Int32) (x2 : Int32) ((ea_i h (b0 + 0) 11) : Int32) h) = ((-1) : Int32) → True) ∧ (¬ (vX9_goneFrom b0 (x1 : Int32) (x2 : Int32) ((ea_i h (b0 + 0) 11) : Int32) h) = ((-1) : Int32) → (okX9_comesAt b0 (x1 : Int32) (x2 : Int32) (((vX9_goneFrom b0 (x1 : Int32) (x2 : Int32) ((ea_i h (b0 + 0) 11) : Int32) h) + (1 : Int32)) : Int32) (wX9_goneFrom b0 (x1 : Int32) (x2 : Int32) ((ea_i h (b0 + 0) 11) : Int32) h))))
theorem bo_vX11_isUnderWay (b0 : Nat) (x1 : Int32) (x2 : Int32) (h : ea_H) : vX11_isUnderWay b0 x1 x2 h = 0 ∨ vX11_isUnderWay b0 x1 x2 h = 1 := (ea_itB (Or.inl rfl) (ea_itB (Or.inl rfl) (Or.inr rfl)))
theorem shX11_isUnderWay {b0 : Nat} {x1 : Int32} {x2 : Int32} {h : ea_H} (hs : ShC b0 h) : ShC b0 (wX11_isUnderWay b0 x1 x2 h) := (shX9_goneFrom hs)
theorem sX11_isUnderWay {d : Nat} {b0 : Nat} {x1 : Int32} {x2 : Int32} {h : ea_H} (hd : 3 ≤ d) (hs : ShC b0 h) (K : okX11_isUnderWay b0 x1 x2 h) : ea_Met mX11_isUnderWay d [vR (some (b0 + 0)), vI x1, vI x2] h (some (vI (vX11_isUnderWay b0 x1 x2 h))) (wX11_isUnderWay b0 x1 x2 h) := by
  obtain ⟨X, EX⟩ : ∃ z, z = vX11_isUnderWay b0 x1 x2 h := ⟨_, rfl⟩
  rw [← EX]
  unfold vX11_isUnderWay at EX
  obtain ⟨Y, EY⟩ : ∃ z, z = wX11_isUnderWay b0 x1 x2 h := ⟨_, rfl⟩
  rw [← EY]
  unfold wX11_isUnderWay at EY
  unfold okX11_isUnderWay at K
  refine ea_enter rfl (Nat.le_of_ble_eq_true rfl) ?_
  refine ea_aload_n (pc := 0) dX11_isUnderWay_0 rfl 0 rfl ?_
  refine ea_getR (pc := 1) dX11_isUnderWay_1 ec_11 (k := 1) (Nat.le_of_ble_eq_true rfl) rfl (Or.inl ew_438) (hs.1 0 (by decide)).1 (hs.1 0 (by decide)).2.1 (hs.2 0 1 rfl) ?_
  refine ea_iload_n (pc := 4) dX11_isUnderWay_4 rfl 1 rfl ?_
  refine ea_iload_n (pc := 5) dX11_isUnderWay_5 rfl 2 rfl ?_
  refine ea_aload_n (pc := 6) dX11_isUnderWay_6 rfl 0 rfl ?_
  refine ea_getI (pc := 7) dX11_isUnderWay_7 ec_11 (k := 11) (Nat.le_of_ble_eq_true rfl) rfl (Or.inl ew_448) (hs.1 0 (by decide)).1 (hs.1 0 (by decide)).2.1 ?_
  obtain ⟨z1, K⟩ := K
  refine ea_callV (pc := 10) (d' := d - 1) (As := [vI x1, vI x2, vI (ea_i h (b0 + 0) 11)]) (st := []) dX11_isUnderWay_10 kX9_goneFrom (sX9_goneFrom (d := d - 1) (by omega) hs z1) (by omega) rfl (Nat.le_of_ble_eq_true rfl) ew_1153 ew_1154 ew_1155 (ci := 9) rfl (by decide) (hs.1 5 (by decide)).1 (hs.1 5 (by decide)).2.1 ?_
  have hs2 : ShC b0 (wX9_goneFrom b0 (x1 : Int32) (x2 : Int32) ((ea_i h (b0 + 0) 11) : Int32) h) := shX9_goneFrom hs
  refine ea_istore_n (pc := 13) (lv' := [(0, vR (some (b0 + 0))), (1, vI x1), (2, vI x2), (3, vI (vX9_goneFrom b0 (x1 : Int32) (x2 : Int32) ((ea_i h (b0 + 0) 11) : Int32) h))]) dX11_isUnderWay_13 rfl (Nat.le_of_ble_eq_true rfl) [1, 2, 3, 0] rfl ?_
  refine ea_iload_n (pc := 14) dX11_isUnderWay_14 rfl 3 rfl ?_
  refine ea_iconst (pc := 15) dX11_isUnderWay_15 (v := (-1)) rfl ?_
  refine ea_icmp_eq (pc := 16) (tgt := 42) dX11_isUnderWay_16 rfl (fun c5 => ?_) (fun c5 => ?_)
  · have EX := EX.trans (if_pos c5)
    refine ea_iconst (pc := 42) dX11_isUnderWay_42 (v := 0) rfl ?_
    subst EX
    subst EY
    exact ea_ireturn (pc := 43) dX11_isUnderWay_43 rfl (ea_bn (Or.inl rfl))
  · have EX := EX.trans (if_neg c5)
    have K := K.2 c5
    refine ea_aload_n (pc := 19) dX11_isUnderWay_19 rfl 0 rfl ?_
    refine ea_getR (pc := 20) dX11_isUnderWay_20 ec_11 (k := 1) (Nat.le_of_ble_eq_true rfl) rfl (Or.inl ew_438) (hs2.1 0 (by decide)).1 (hs2.1 0 (by decide)).2.1 (hs2.2 0 1 rfl) ?_
    refine ea_iload_n (pc := 23) dX11_isUnderWay_23 rfl 1 rfl ?_
    refine ea_iload_n (pc := 24) dX11_isUnderWay_24 rfl 2 rfl ?_
    refine ea_iload_n (pc := 25) dX11_isUnderWay_25 rfl 3 rfl ?_
    refine ea_iconst (pc := 26) dX11_isUnderWay_26 (v := 1) rfl ?_
    refine ea_iadd (pc := 27) dX11_isUnderWay_27 ?_
    have z3 := K
    refine ea_callV (pc := 28) (d' := d - 1) (As := [vI x1, vI x2, vI ((vX9_goneFrom b0 (x1 : Int32) (x2 : Int32) ((ea_i h (b0 + 0) 11) : Int32) h) + (1 : Int32))]) (st := []) dX11_isUnderWay_28 kX9_comesAt (sX9_comesAt (d := d - 1) (by omega) hs2 z3) (by omega) rfl (Nat.le_of_ble_eq_true rfl) ew_551 ew_552 ew_553 (ci := 9) rfl (by decide) (hs2.1 5 (by decide)).1 (hs2.1 5 (by decide)).2.1 ?_
    refine ea_aload_n (pc := 31) dX11_isUnderWay_31 rfl 0 rfl ?_
    refine ea_getI (pc := 32) dX11_isUnderWay_32 ec_11 (k := 11) (Nat.le_of_ble_eq_true rfl) rfl (Or.inl ew_448) (hs2.1 0 (by decide)).1 (hs2.1 0 (by decide)).2.1 ?_
    refine ea_icmp_le (pc := 35) (tgt := 42) dX11_isUnderWay_35 rfl (fun c4 => ?_) (fun c4 => ?_)
    · have EX := EX.trans (if_pos c4)
      refine ea_iconst (pc := 42) dX11_isUnderWay_42 (v := 0) rfl ?_
      subst EX
      subst EY
      exact ea_ireturn (pc := 43) dX11_isUnderWay_43 rfl (ea_bn (Or.inl rfl))
    · have EX := EX.trans (if_neg c4)
      refine ea_iconst (pc := 38) dX11_isUnderWay_38 (v := 1) rfl ?_
      refine ea_goto (pc := 39) (tgt := 43) dX11_isUnderWay_39 rfl ?_
      subst EX
      subst EY
      exact ea_ireturn (pc := 43) dX11_isUnderWay_43 rfl (ea_bn (Or.inr rfl))
noncomputable def gX1_sort_at32 (b0 : Nat) : Nat → Nat → Int32 → Int32 → Int32 → Int32 → Int32 → Int32 → ea_H → Option (Unit × ea_H)
  | 0, _, _, _, _, _, _, _, _ => none
  | f + 1, lbl, x1, x2, x3, x4, x5, x6, h =>
    if lbl = 0 then (gd (vp_in x2 10) (if (x3 + (1 : Int32)) < (ea_i h (b0 + 6) (Int32.toNatClampNeg x2)) then (gd (vp_in ((((8 : Int32) * x2) + x3) + (1 : Int32)) 80) (gd (vp_in (((8 : Int32) * x2) + x3) 80) (gd ((okX3_begin b0 (((ea_i h (b0 + 8) (Int32.toNatClampNeg ((((8 : Int32) * x2) + x3) + (1 : Int32)))) - (ea_i h (b0 + 9) (Int32.toNatClampNeg (((8 : Int32) * x2) + x3)))) : Int32) h)) (gX1_sort_at32 b0 f 57 (x1 : Int32) (x2 : Int32) 0 (0 : Int32) 0 0 (wX3_begin b0 (((ea_i h (b0 + 8) (Int32.toNatClampNeg ((((8 : Int32) * x2) + x3) + (1 : Int32)))) - (ea_i h (b0 + 9) (Int32.toNatClampNeg (((8 : Int32) * x2) + x3)))) : Int32) h))))) else (some ((), h)))) else
    if lbl = 57 then (gd (vp_in x2 10) (if (ea_i h (b0 + 6) (Int32.toNatClampNeg x2)) ≤ x4 then (some ((), h)) else (gd (vp_in (((8 : Int32) * x2) + x4) 80) (gX1_sort_at32 b0 f 91 (x1 : Int32) (x2 : Int32) 0 (x4 : Int32) ((ea_i h (b0 + 7) (Int32.toNatClampNeg (((8 : Int32) * x2) + x4))) : Int32) (0 : Int32) h)))) else
    if lbl = 91 then (if (ea_i h (b0 + 32) 0) ≤ x6 then (gX1_sort_at32 b0 f 57 (x1 : Int32) (x2 : Int32) 0 ((x4 + (1 : Int32)) : Int32) 0 0 h) else (gd ((okX1_isAboard_at32 b0 (x6 : Int32) (x1 : Int32) h)) (if (vX1_isAboard_at32 b0 (x6 : Int32) (x1 : Int32) h) = (0 : Int32) then (gX1_sort_at32 b0 f 91 (x1 : Int32) (x2 : Int32) 0 (x4 : Int32) (x5 : Int32) ((x6 + (1 : Int32)) : Int32) h) else (gd (vp_in x6 120) (if (ea_i h (b0 + 37) (Int32.toNatClampNeg x6)) = (0 : Int32) then (gd (vp_in x6 120) (if (ea_i h (b0 + 35) (Int32.toNatClampNeg x6)) = x4 then (gd ((okX3_sortsOne b0 (x2 : Int32) (x5 : Int32) h)) (gd (vp_in x6 120) (gd (((vX3_sortsOne b0 (x2 : Int32) (x5 : Int32) h) = 0 ∨ (vX3_sortsOne b0 (x2 : Int32) (x5 : Int32) h) = 1)) (gX1_sort_at32 b0 f 91 (x1 : Int32) (x2 : Int32) 0 (x4 : Int32) (x5 : Int32) ((x6 + (1 : Int32)) : Int32) (ea_wi (wX3_sortsOne b0 (x2 : Int32) (x5 : Int32) h) (b0 + 37) (Int32.toNatClampNeg x6) (vX3_sortsOne b0 (x2 : Int32) (x5 : Int32) h)))))) else (gX1_sort_at32 b0 f 91 (x1 : Int32) (x2 : Int32) 0 (x4 : Int32) (x5 : Int32) ((x6 + (1 : Int32)) : Int32) h))) else (gX1_sort_at32 b0 f 91 (x1 : Int32) (x2 : Int32) 0 (x4 : Int32) (x5 : Int32) ((x6 + (1 : Int32)) : Int32) h)))))) else none
theorem tX1_sort_at32 {d : Nat} {b0 : Nat} {h0 : ea_H} (hd : 2 ≤ d) : ∀ (f lbl : Nat) (x1 : Int32) (x2 : Int32) (x3 : Int32) (x4 : Int32) (x5 : Int32) (x6 : Int32) (h : ea_H) (r : Unit) (h' : ea_H), gX1_sort_at32 b0 f lbl x1 x2 x3 x4 x5 x6 h = some (r, h') → ShC b0 h → (lbl = 0 → ea_W mX1_sort d h0 none h' 0 [(0, vR (some (b0 + 32))), (1, vI x1), (2, vI x2), (3, vI x3)] [] h) ∧ (lbl = 57 → ea_W mX1_sort d h0 none h' 57 [(0, vR (some (b0 + 32))), (1, vI x1), (2, vI x2), (4, vI x4)] [] h) ∧ (lbl = 91 → ea_W mX1_sort d h0 none h' 91 [(0, vR (some (b0 + 32))), (1, vI x1), (2, vI x2), (4, vI x4), (5, vI x5), (6, vI x6)] [] h) := by
  intro f
  induction f with
  | zero => intro lbl x1 x2 x3 x4 x5 x6 h r h' E; cases E
  | succ f ih =>
    intro lbl x1 x2 x3 x4 x5 x6 h r h' E hs
    unfold gX1_sort_at32 at E
    refine ⟨?_, ?_⟩
    · intro el
      subst el
      have E := (if_pos rfl).symm.trans E
      refine ea_iload_n (pc := 0) dX1_sort_0 rfl 3 rfl ?_
      refine ea_iconst (pc := 1) dX1_sort_1 (v := 1) rfl ?_
      refine ea_iadd (pc := 2) dX1_sort_2 ?_
      refine ea_aload_n (pc := 3) dX1_sort_3 rfl 0 rfl ?_
      refine ea_getR (pc := 4) dX1_sort_4 ec_1 (k := 11) (Nat.le_of_ble_eq_true rfl) rfl (Or.inl ew_377) (hs.1 32 (by decide)).1 (hs.1 32 (by decide)).2.1 (hs.2 32 11 rfl) ?_
      refine ea_getR (pc := 7) dX1_sort_7 ec_9 (k := 1) (Nat.le_of_ble_eq_true rfl) rfl (Or.inl ew_182) (hs.1 5 (by decide)).1 (hs.1 5 (by decide)).2.1 (hs.2 5 1 rfl) ?_
      refine ea_iload_n (pc := 10) dX1_sort_10 rfl 2 rfl ?_
      obtain ⟨z1, E⟩ := gd_some E
      refine ea_iald (pc := 11) dX1_sort_11 (hs.1 6 (by decide)).1 (hs.1 6 (by decide)).2.1 (ea_vpl (hs.1 6 (by decide)).2.2 z1) ?_
      refine ea_icmp_lt (pc := 12) (tgt := 16) dX1_sort_12 rfl (fun c6 => ?_) (fun c6 => ?_)
      · have E := (if_pos c6).symm.trans E
        refine ea_aload_n (pc := 16) dX1_sort_16 rfl 0 rfl ?_
        refine ea_getR (pc := 17) dX1_sort_17 ec_1 (k := 13) (Nat.le_of_ble_eq_true rfl) rfl (Or.inl ew_379) (hs.1 32 (by decide)).1 (hs.1 32 (by decide)).2.1 (hs.2 32 13 rfl) ?_
        refine ea_aload_n (pc := 20) dX1_sort_20 rfl 0 rfl ?_
        refine ea_getR (pc := 21) dX1_sort_21 ec_1 (k := 11) (Nat.le_of_ble_eq_true rfl) rfl (Or.inl ew_377) (hs.1 32 (by decide)).1 (hs.1 32 (by decide)).2.1 (hs.2 32 11 rfl) ?_
        refine ea_getR (pc := 24) dX1_sort_24 ec_9 (k := 3) (Nat.le_of_ble_eq_true rfl) rfl (Or.inl ew_190) (hs.1 5 (by decide)).1 (hs.1 5 (by decide)).2.1 (hs.2 5 3 rfl) ?_
        refine ea_bipush (pc := 27) dX1_sort_27 (v := 8) rfl ?_
        refine ea_iload_n (pc := 29) dX1_sort_29 rfl 2 rfl ?_
        refine ea_imul (pc := 30) dX1_sort_30 ?_
        refine ea_iload_n (pc := 31) dX1_sort_31 rfl 3 rfl ?_
        refine ea_iadd (pc := 32) dX1_sort_32 ?_
        refine ea_iconst (pc := 33) dX1_sort_33 (v := 1) rfl ?_
        refine ea_iadd (pc := 34) dX1_sort_34 ?_
        obtain ⟨z2, E⟩ := gd_some E
        refine ea_iald (pc := 35) dX1_sort_35 (hs.1 8 (by decide)).1 (hs.1 8 (by decide)).2.1 (ea_vpl (hs.1 8 (by decide)).2.2 z2) ?_
        refine ea_aload_n (pc := 36) dX1_sort_36 rfl 0 rfl ?_
        refine ea_getR (pc := 37) dX1_sort_37 ec_1 (k := 11) (Nat.le_of_ble_eq_true rfl) rfl (Or.inl ew_377) (hs.1 32 (by decide)).1 (hs.1 32 (by decide)).2.1 (hs.2 32 11 rfl) ?_
        refine ea_getR (pc := 40) dX1_sort_40 ec_9 (k := 4) (Nat.le_of_ble_eq_true rfl) rfl (Or.inl ew_193) (hs.1 5 (by decide)).1 (hs.1 5 (by decide)).2.1 (hs.2 5 4 rfl) ?_
        refine ea_bipush (pc := 43) dX1_sort_43 (v := 8) rfl ?_
        refine ea_iload_n (pc := 45) dX1_sort_45 rfl 2 rfl ?_
        refine ea_imul (pc := 46) dX1_sort_46 ?_
        refine ea_iload_n (pc := 47) dX1_sort_47 rfl 3 rfl ?_
        refine ea_iadd (pc := 48) dX1_sort_48 ?_
        obtain ⟨z3, E⟩ := gd_some E
        refine ea_iald (pc := 49) dX1_sort_49 (hs.1 9 (by decide)).1 (hs.1 9 (by decide)).2.1 (ea_vpl (hs.1 9 (by decide)).2.2 z3) ?_
        refine ea_isub (pc := 50) dX1_sort_50 ?_
        obtain ⟨z4, E⟩ := gd_some E
        refine ea_callV (pc := 51) (d' := d - 1) (As := [vI ((ea_i h (b0 + 8) (Int32.toNatClampNeg ((((8 : Int32) * x2) + x3) + (1 : Int32)))) - (ea_i h (b0 + 9) (Int32.toNatClampNeg (((8 : Int32) * x2) + x3))))]) (st := []) dX1_sort_51 kX3_begin (sX3_begin (d := d - 1) (by omega) hs z4) (by omega) rfl (Nat.le_of_ble_eq_true rfl) ew_700 ew_701 ew_702 (ci := 3) rfl (by decide) (hs.1 16 (by decide)).1 (hs.1 16 (by decide)).2.1 ?_
        have hs5 : ShC b0 (wX3_begin b0 (((ea_i h (b0 + 8) (Int32.toNatClampNeg ((((8 : Int32) * x2) + x3) + (1 : Int32)))) - (ea_i h (b0 + 9) (Int32.toNatClampNeg (((8 : Int32) * x2) + x3)))) : Int32) h) := shX3_begin hs
        refine ea_iconst (pc := 54) dX1_sort_54 (v := 0) rfl ?_
        refine ea_istore (pc := 55) (lv' := [(0, vR (some (b0 + 32))), (1, vI x1), (2, vI x2), (4, vI 0)]) dX1_sort_55 (Nat.le_of_ble_eq_true rfl) [1, 2, 3, 0] rfl ?_
        exact ((ih 57 (x1 : Int32) (x2 : Int32) 0 (0 : Int32) 0 0 (wX3_begin b0 (((ea_i h (b0 + 8) (Int32.toNatClampNeg ((((8 : Int32) * x2) + x3) + (1 : Int32)))) - (ea_i h (b0 + 9) (Int32.toNatClampNeg (((8 : Int32) * x2) + x3)))) : Int32) h) _ _ E hs5).2.1 rfl)
      · have E := (if_neg c6).symm.trans E
        cases E
        exact ea_return (pc := 15) dX1_sort_15 rfl
    refine ⟨?_, ?_⟩
    · intro el
      subst el
      have E := (if_neg (by decide)).symm.trans E
      have E := (if_pos rfl).symm.trans E
      refine ea_iload (pc := 57) dX1_sort_57 3 rfl ?_
      refine ea_aload_n (pc := 59) dX1_sort_59 rfl 0 rfl ?_
      refine ea_getR (pc := 60) dX1_sort_60 ec_1 (k := 11) (Nat.le_of_ble_eq_true rfl) rfl (Or.inl ew_377) (hs.1 32 (by decide)).1 (hs.1 32 (by decide)).2.1 (hs.2 32 11 rfl) ?_
      refine ea_getR (pc := 63) dX1_sort_63 ec_9 (k := 1) (Nat.le_of_ble_eq_true rfl) rfl (Or.inl ew_182) (hs.1 5 (by decide)).1 (hs.1 5 (by decide)).2.1 (hs.2 5 1 rfl) ?_
      refine ea_iload_n (pc := 66) dX1_sort_66 rfl 2 rfl ?_
      obtain ⟨z7, E⟩ := gd_some E
      refine ea_iald (pc := 67) dX1_sort_67 (hs.1 6 (by decide)).1 (hs.1 6 (by decide)).2.1 (ea_vpl (hs.1 6 (by decide)).2.2 z7) ?_
      refine ea_icmp_ge (pc := 68) (tgt := 161) dX1_sort_68 rfl (fun c9 => ?_) (fun c9 => ?_)
      · have E := (if_pos c9).symm.trans E
        cases E
        exact ea_return (pc := 161) dX1_sort_161 rfl
      · have E := (if_neg c9).symm.trans E
        refine ea_aload_n (pc := 71) dX1_sort_71 rfl 0 rfl ?_
        refine ea_getR (pc := 72) dX1_sort_72 ec_1 (k := 11) (Nat.le_of_ble_eq_true rfl) rfl (Or.inl ew_377) (hs.1 32 (by decide)).1 (hs.1 32 (by decide)).2.1 (hs.2 32 11 rfl) ?_
        refine ea_getR (pc := 75) dX1_sort_75 ec_9 (k := 2) (Nat.le_of_ble_eq_true rfl) rfl (Or.inl ew_186) (hs.1 5 (by decide)).1 (hs.1 5 (by decide)).2.1 (hs.2 5 2 rfl) ?_
        refine ea_bipush (pc := 78) dX1_sort_78 (v := 8) rfl ?_
        refine ea_iload_n (pc := 80) dX1_sort_80 rfl 2 rfl ?_
        refine ea_imul (pc := 81) dX1_sort_81 ?_
        refine ea_iload (pc := 82) dX1_sort_82 3 rfl ?_
        refine ea_iadd (pc := 84) dX1_sort_84 ?_
        obtain ⟨z8, E⟩ := gd_some E
        refine ea_iald (pc := 85) dX1_sort_85 (hs.1 7 (by decide)).1 (hs.1 7 (by decide)).2.1 (ea_vpl (hs.1 7 (by decide)).2.2 z8) ?_
        refine ea_istore (pc := 86) (lv' := [(0, vR (some (b0 + 32))), (1, vI x1), (2, vI x2), (4, vI x4), (5, vI (ea_i h (b0 + 7) (Int32.toNatClampNeg (((8 : Int32) * x2) + x4))))]) dX1_sort_86 (Nat.le_of_ble_eq_true rfl) [1, 2, 3, 4, 0] rfl ?_
        refine ea_iconst (pc := 88) dX1_sort_88 (v := 0) rfl ?_
        refine ea_istore (pc := 89) (lv' := [(0, vR (some (b0 + 32))), (1, vI x1), (2, vI x2), (4, vI x4), (5, vI (ea_i h (b0 + 7) (Int32.toNatClampNeg (((8 : Int32) * x2) + x4)))), (6, vI 0)]) dX1_sort_89 (Nat.le_of_ble_eq_true rfl) [1, 2, 3, 4, 5, 0] rfl ?_
        exact ((ih 91 (x1 : Int32) (x2 : Int32) 0 (x4 : Int32) ((ea_i h (b0 + 7) (Int32.toNatClampNeg (((8 : Int32) * x2) + x4))) : Int32) (0 : Int32) h _ _ E hs).2.2 rfl)
    intro el
    subst el
    have E := (if_neg (by decide)).symm.trans E
    have E := (if_neg (by decide)).symm.trans E
    have E := (if_pos rfl).symm.trans E
    refine ea_iload (pc := 91) dX1_sort_91 5 rfl ?_
    refine ea_aload_n (pc := 93) dX1_sort_93 rfl 0 rfl ?_
    refine ea_getI (pc := 94) dX1_sort_94 ec_1 (k := 0) (Nat.le_of_ble_eq_true rfl) rfl (Or.inl ew_359) (hs.1 32 (by decide)).1 (hs.1 32 (by decide)).2.1 ?_
    refine ea_icmp_ge (pc := 97) (tgt := 155) dX1_sort_97 rfl (fun c21 => ?_) (fun c21 => ?_)
    · have E := (if_pos c21).symm.trans E
      refine ea_iinc (pc := 155) (v := 1) (lv' := [(0, vR (some (b0 + 32))), (1, vI x1), (2, vI x2), (4, vI (x4 + (1 : Int32)))]) dX1_sort_155 3 rfl rfl (Nat.le_of_ble_eq_true rfl) [1, 2, 3, 0] rfl ?_
      refine ea_goto (pc := 158) (tgt := 57) dX1_sort_158 rfl ?_
      exact ((ih 57 (x1 : Int32) (x2 : Int32) 0 ((x4 + (1 : Int32)) : Int32) 0 0 h _ _ E hs).2.1 rfl)
    · have E := (if_neg c21).symm.trans E
      refine ea_aload_n (pc := 100) dX1_sort_100 rfl 0 rfl ?_
      refine ea_iload (pc := 101) dX1_sort_101 5 rfl ?_
      refine ea_iload_n (pc := 103) dX1_sort_103 rfl 1 rfl ?_
      obtain ⟨z10, E⟩ := gd_some E
      refine ea_callV (pc := 104) (d' := d - 1) (As := [vI x6, vI x1]) (st := []) dX1_sort_104 kX1_isAboard (sX1_isAboard_at32 (d := d - 1) (by omega) hs z10) (by omega) rfl (Nat.le_of_ble_eq_true rfl) ew_704 ew_705 ew_706 (ci := 1) rfl (by decide) (hs.1 32 (by decide)).1 (hs.1 32 (by decide)).2.1 ?_
      refine ea_if_eq (pc := 107) (tgt := 149) dX1_sort_107 rfl (fun c20 => ?_) (fun c20 => ?_)
      · have E := (if_pos c20).symm.trans E
        refine ea_iinc (pc := 149) (v := 1) (lv' := [(0, vR (some (b0 + 32))), (1, vI x1), (2, vI x2), (4, vI x4), (5, vI x5), (6, vI (x6 + (1 : Int32)))]) dX1_sort_149 5 rfl rfl (Nat.le_of_ble_eq_true rfl) [1, 2, 3, 4, 5, 0] rfl ?_
        refine ea_goto (pc := 152) (tgt := 91) dX1_sort_152 rfl ?_
        exact ((ih 91 (x1 : Int32) (x2 : Int32) 0 (x4 : Int32) (x5 : Int32) ((x6 + (1 : Int32)) : Int32) h _ _ E hs).2.2 rfl)
      · have E := (if_neg c20).symm.trans E
        refine ea_aload_n (pc := 110) dX1_sort_110 rfl 0 rfl ?_
        refine ea_getR (pc := 111) dX1_sort_111 ec_1 (k := 5) (Nat.le_of_ble_eq_true rfl) rfl (Or.inl ew_369) (hs.1 32 (by decide)).1 (hs.1 32 (by decide)).2.1 (hs.2 32 5 rfl) ?_
        refine ea_iload (pc := 114) dX1_sort_114 5 rfl ?_
        obtain ⟨z11, E⟩ := gd_some E
        refine ea_zald (pc := 116) dX1_sort_116 (hs.1 37 (by decide)).1 (hs.1 37 (by decide)).2.1 (ea_vpl (hs.1 37 (by decide)).2.2 z11) ?_
        refine ea_if_ne (pc := 117) (tgt := 149) dX1_sort_117 rfl (fun c19 => ?_) (fun c19 => ?_)
        · have E := (if_neg c19).symm.trans E
          refine ea_iinc (pc := 149) (v := 1) (lv' := [(0, vR (some (b0 + 32))), (1, vI x1), (2, vI x2), (4, vI x4), (5, vI x5), (6, vI (x6 + (1 : Int32)))]) dX1_sort_149 5 rfl rfl (Nat.le_of_ble_eq_true rfl) [1, 2, 3, 4, 5, 0] rfl ?_
          refine ea_goto (pc := 152) (tgt := 91) dX1_sort_152 rfl ?_
          exact ((ih 91 (x1 : Int32) (x2 : Int32) 0 (x4 : Int32) (x5 : Int32) ((x6 + (1 : Int32)) : Int32) h _ _ E hs).2.2 rfl)
        · have E := (if_pos c19).symm.trans E
          refine ea_aload_n (pc := 120) dX1_sort_120 rfl 0 rfl ?_
          refine ea_getR (pc := 121) dX1_sort_121 ec_1 (k := 3) (Nat.le_of_ble_eq_true rfl) rfl (Or.inl ew_365) (hs.1 32 (by decide)).1 (hs.1 32 (by decide)).2.1 (hs.2 32 3 rfl) ?_
          refine ea_iload (pc := 124) dX1_sort_124 5 rfl ?_
          obtain ⟨z12, E⟩ := gd_some E
          refine ea_iald (pc := 126) dX1_sort_126 (hs.1 35 (by decide)).1 (hs.1 35 (by decide)).2.1 (ea_vpl (hs.1 35 (by decide)).2.2 z12) ?_
          refine ea_iload (pc := 127) dX1_sort_127 3 rfl ?_
          refine ea_icmp_ne (pc := 129) (tgt := 149) dX1_sort_129 rfl (fun c18 => ?_) (fun c18 => ?_)
          · have E := (if_neg c18).symm.trans E
            refine ea_iinc (pc := 149) (v := 1) (lv' := [(0, vR (some (b0 + 32))), (1, vI x1), (2, vI x2), (4, vI x4), (5, vI x5), (6, vI (x6 + (1 : Int32)))]) dX1_sort_149 5 rfl rfl (Nat.le_of_ble_eq_true rfl) [1, 2, 3, 4, 5, 0] rfl ?_
            refine ea_goto (pc := 152) (tgt := 91) dX1_sort_152 rfl ?_
            exact ((ih 91 (x1 : Int32) (x2 : Int32) 0 (x4 : Int32) (x5 : Int32) ((x6 + (1 : Int32)) : Int32) h _ _ E hs).2.2 rfl)
          · have E := (if_pos c18).symm.trans E
            refine ea_aload_n (pc := 132) dX1_sort_132 rfl 0 rfl ?_
            refine ea_getR (pc := 133) dX1_sort_133 ec_1 (k := 5) (Nat.le_of_ble_eq_true rfl) rfl (Or.inl ew_369) (hs.1 32 (by decide)).1 (hs.1 32 (by decide)).2.1 (hs.2 32 5 rfl) ?_
            refine ea_iload (pc := 136) dX1_sort_136 5 rfl ?_
            refine ea_aload_n (pc := 138) dX1_sort_138 rfl 0 rfl ?_
            refine ea_getR (pc := 139) dX1_sort_139 ec_1 (k := 13) (Nat.le_of_ble_eq_true rfl) rfl (Or.inl ew_379) (hs.1 32 (by decide)).1 (hs.1 32 (by decide)).2.1 (hs.2 32 13 rfl) ?_
            refine ea_iload_n (pc := 142) dX1_sort_142 rfl 2 rfl ?_
            refine ea_iload (pc := 143) dX1_sort_143 4 rfl ?_
            obtain ⟨z13, E⟩ := gd_some E
            refine ea_callV (pc := 145) (d' := d - 1) (As := [vI x2, vI x5]) (st := [vI x6, vR (some (b0 + 37))]) dX1_sort_145 kX3_sortsOne (sX3_sortsOne (d := d - 1) (by omega) hs z13) (by omega) rfl (Nat.le_of_ble_eq_true rfl) ew_708 ew_709 ew_710 (ci := 3) rfl (by decide) (hs.1 16 (by decide)).1 (hs.1 16 (by decide)).2.1 ?_
            have hs14 : ShC b0 (wX3_sortsOne b0 (x2 : Int32) (x5 : Int32) h) := shX3_sortsOne hs
            obtain ⟨z15, E⟩ := gd_some E
            obtain ⟨z17, E⟩ := gd_some E
            refine ea_zast (pc := 148) dX1_sort_148 (y := (vX3_sortsOne b0 (x2 : Int32) (x5 : Int32) h)) (ea_bn z17) (hs14.1 37 (by decide)).1 (hs14.1 37 (by decide)).2.1 (ea_vpl (hs14.1 37 (by decide)).2.2 z15) ?_
            have hs16 : ShC b0 (ea_wi (wX3_sortsOne b0 (x2 : Int32) (x5 : Int32) h) (b0 + 37) (Int32.toNatClampNeg x6) (vX3_sortsOne b0 (x2 : Int32) (x5 : Int32) h)) := ShC_wi hs14
            refine ea_iinc (pc := 149) (v := 1) (lv' := [(0, vR (some (b0 + 32))), (1, vI x1), (2, vI x2), (4, vI x4), (5, vI x5), (6, vI (x6 + (1 : Int32)))]) dX1_sort_149 5 rfl rfl (Nat.le_of_ble_eq_true rfl) [1, 2, 3, 4, 5, 0] rfl ?_
            refine ea_goto (pc := 152) (tgt := 91) dX1_sort_152 rfl ?_
            exact ((ih 91 (x1 : Int32) (x2 : Int32) 0 (x4 : Int32) (x5 : Int32) ((x6 + (1 : Int32)) : Int32) (ea_wi (wX3_sortsOne b0 (x2 : Int32) (x5 : Int32) h) (b0 + 37) (Int32.toNatClampNeg x6) (vX3_sortsOne b0 (x2 : Int32) (x5 : Int32) h)) _ _ E hs16).2.2 rfl)
noncomputable def qX1_sort_at32 (b0 : Nat) (x1 : Int32) (x2 : Int32) (x3 : Int32) (h : ea_H) : Option (Unit × ea_H) := gX1_sort_at32 b0 1000000000 0 x1 x2 x3 0 0 0 h
def okX1_sort_at32 (b0 : Nat) (x1 : Int32) (x2 : Int32) (x3 : Int32) (h : ea_H) : Prop := ∃ x, qX1_sort_at32 b0 x1 x2 x3 h = some x
noncomputable def wX1_sort_at32 (b0 : Nat) (x1 : Int32) (x2 : Int32) (x3 : Int32) (h : ea_H) : ea_H := ((qX1_sort_at32 b0 x1 x2 x3 h).getD ((), h)).2
theorem sX1_sort_at32 {d : Nat} {b0 : Nat} {x1 : Int32} {x2 : Int32} {x3 : Int32} {h : ea_H} (hd : 2 ≤ d) (hs : ShC b0 h) (K : okX1_sort_at32 b0 x1 x2 x3 h) : ea_Met mX1_sort d [vR (some (b0 + 32)), vI x1, vI x2, vI x3] h none (wX1_sort_at32 b0 x1 x2 x3 h) := by
  obtain ⟨⟨x, y⟩, K⟩ := K
  unfold wX1_sort_at32
  rw [K]
  unfold qX1_sort_at32 at K
  exact ea_enter rfl (Nat.le_of_ble_eq_true rfl) ((tX1_sort_at32 hd 1000000000 0 x1 x2 x3 0 0 0 h x y K hs).1 rfl)
theorem zX1_sort_at32 {b0 : Nat} : ∀ (f lbl : Nat) (x1 : Int32) (x2 : Int32) (x3 : Int32) (x4 : Int32) (x5 : Int32) (x6 : Int32) (h : ea_H) (r : Unit) (h' : ea_H), gX1_sort_at32 b0 f lbl x1 x2 x3 x4 x5 x6 h = some (r, h') → ShC b0 h → ShC b0 h' := by
  intro f
  induction f with
  | zero => intro lbl x1 x2 x3 x4 x5 x6 h r h' E; cases E
  | succ f ih =>
    intro lbl x1 x2 x3 x4 x5 x6 h r h' E hs
    unfold gX1_sort_at32 at E
    by_cases el0 : lbl = 0
    · have E := (if_pos el0).symm.trans E
      obtain ⟨z1, E⟩ := gd_some E
      by_cases c6 : (x3 + (1 : Int32)) < (ea_i h (b0 + 6) (Int32.toNatClampNeg x2))
      · have E := (if_pos c6).symm.trans E
        obtain ⟨z2, E⟩ := gd_some E
        obtain ⟨z3, E⟩ := gd_some E
        obtain ⟨z4, E⟩ := gd_some E
        exact ih 57 (x1 : Int32) (x2 : Int32) 0 (0 : Int32) 0 0 (wX3_begin b0 (((ea_i h (b0 + 8) (Int32.toNatClampNeg ((((8 : Int32) * x2) + x3) + (1 : Int32)))) - (ea_i h (b0 + 9) (Int32.toNatClampNeg (((8 : Int32) * x2) + x3)))) : Int32) h) _ _ E (shX3_begin hs)
      have E := (if_neg c6).symm.trans E
      cases E
      exact hs
    have E := (if_neg el0).symm.trans E
    by_cases el1 : lbl = 57
    · have E := (if_pos el1).symm.trans E
      obtain ⟨z7, E⟩ := gd_some E
      by_cases c9 : (ea_i h (b0 + 6) (Int32.toNatClampNeg x2)) ≤ x4
      · have E := (if_pos c9).symm.trans E
        cases E
        exact hs
      have E := (if_neg c9).symm.trans E
      obtain ⟨z8, E⟩ := gd_some E
      exact ih 91 (x1 : Int32) (x2 : Int32) 0 (x4 : Int32) ((ea_i h (b0 + 7) (Int32.toNatClampNeg (((8 : Int32) * x2) + x4))) : Int32) (0 : Int32) h _ _ E hs
    have E := (if_neg el1).symm.trans E
    by_cases el2 : lbl = 91
    · have E := (if_pos el2).symm.trans E
      by_cases c21 : (ea_i h (b0 + 32) 0) ≤ x6
      · have E := (if_pos c21).symm.trans E
        exact ih 57 (x1 : Int32) (x2 : Int32) 0 ((x4 + (1 : Int32)) : Int32) 0 0 h _ _ E hs
      have E := (if_neg c21).symm.trans E
      obtain ⟨z10, E⟩ := gd_some E
      by_cases c20 : (vX1_isAboard_at32 b0 (x6 : Int32) (x1 : Int32) h) = (0 : Int32)
      · have E := (if_pos c20).symm.trans E
        exact ih 91 (x1 : Int32) (x2 : Int32) 0 (x4 : Int32) (x5 : Int32) ((x6 + (1 : Int32)) : Int32) h _ _ E hs
      have E := (if_neg c20).symm.trans E
      obtain ⟨z11, E⟩ := gd_some E
      by_cases c19 : (ea_i h (b0 + 37) (Int32.toNatClampNeg x6)) = (0 : Int32)
      · have E := (if_pos c19).symm.trans E
        obtain ⟨z12, E⟩ := gd_some E
        by_cases c18 : (ea_i h (b0 + 35) (Int32.toNatClampNeg x6)) = x4
        · have E := (if_pos c18).symm.trans E
          obtain ⟨z13, E⟩ := gd_some E
          obtain ⟨z15, E⟩ := gd_some E
          obtain ⟨z17, E⟩ := gd_some E
          exact ih 91 (x1 : Int32) (x2 : Int32) 0 (x4 : Int32) (x5 : Int32) ((x6 + (1 : Int32)) : Int32) (ea_wi (wX3_sortsOne b0 (x2 : Int32) (x5 : Int32) h) (b0 + 37) (Int32.toNatClampNeg x6) (vX3_sortsOne b0 (x2 : Int32) (x5 : Int32) h)) _ _ E (ShC_wi (shX3_sortsOne hs))
        have E := (if_neg c18).symm.trans E
        exact ih 91 (x1 : Int32) (x2 : Int32) 0 (x4 : Int32) (x5 : Int32) ((x6 + (1 : Int32)) : Int32) h _ _ E hs
      have E := (if_neg c19).symm.trans E
      exact ih 91 (x1 : Int32) (x2 : Int32) 0 (x4 : Int32) (x5 : Int32) ((x6 + (1 : Int32)) : Int32) h _ _ E hs
    have E := (if_neg el2).symm.trans E
    cases E
theorem shX1_sort_at32 {b0 : Nat} {x1 : Int32} {x2 : Int32} {x3 : Int32} {h : ea_H} (hs : ShC b0 h) : ShC b0 (wX1_sort_at32 b0 x1 x2 x3 h) := by
  unfold wX1_sort_at32
  cases K : qX1_sort_at32 b0 x1 x2 x3 h with
  | none => exact hs
  | some x => obtain ⟨x, y⟩ := x; unfold qX1_sort_at32 at K; exact zX1_sort_at32 _ _ _ _ _ _ _ _ _ _ _ K hs
noncomputable def gX1_sort_at42 (b0 : Nat) : Nat → Nat → Int32 → Int32 → Int32 → Int32 → Int32 → Int32 → ea_H → Option (Unit × ea_H)
  | 0, _, _, _, _, _, _, _, _ => none
  | f + 1, lbl, x1, x2, x3, x4, x5, x6, h =>
    if lbl = 0 then (gd (vp_in x2 10) (if (x3 + (1 : Int32)) < (ea_i h (b0 + 6) (Int32.toNatClampNeg x2)) then (gd (vp_in ((((8 : Int32) * x2) + x3) + (1 : Int32)) 80) (gd (vp_in (((8 : Int32) * x2) + x3) 80) (gd ((okX3_begin b0 (((ea_i h (b0 + 8) (Int32.toNatClampNeg ((((8 : Int32) * x2) + x3) + (1 : Int32)))) - (ea_i h (b0 + 9) (Int32.toNatClampNeg (((8 : Int32) * x2) + x3)))) : Int32) h)) (gX1_sort_at42 b0 f 57 (x1 : Int32) (x2 : Int32) 0 (0 : Int32) 0 0 (wX3_begin b0 (((ea_i h (b0 + 8) (Int32.toNatClampNeg ((((8 : Int32) * x2) + x3) + (1 : Int32)))) - (ea_i h (b0 + 9) (Int32.toNatClampNeg (((8 : Int32) * x2) + x3)))) : Int32) h))))) else (some ((), h)))) else
    if lbl = 57 then (gd (vp_in x2 10) (if (ea_i h (b0 + 6) (Int32.toNatClampNeg x2)) ≤ x4 then (some ((), h)) else (gd (vp_in (((8 : Int32) * x2) + x4) 80) (gX1_sort_at42 b0 f 91 (x1 : Int32) (x2 : Int32) 0 (x4 : Int32) ((ea_i h (b0 + 7) (Int32.toNatClampNeg (((8 : Int32) * x2) + x4))) : Int32) (0 : Int32) h)))) else
    if lbl = 91 then (if (ea_i h (b0 + 42) 0) ≤ x6 then (gX1_sort_at42 b0 f 57 (x1 : Int32) (x2 : Int32) 0 ((x4 + (1 : Int32)) : Int32) 0 0 h) else (gd ((okX1_isAboard_at42 b0 (x6 : Int32) (x1 : Int32) h)) (if (vX1_isAboard_at42 b0 (x6 : Int32) (x1 : Int32) h) = (0 : Int32) then (gX1_sort_at42 b0 f 91 (x1 : Int32) (x2 : Int32) 0 (x4 : Int32) (x5 : Int32) ((x6 + (1 : Int32)) : Int32) h) else (gd (vp_in x6 120) (if (ea_i h (b0 + 47) (Int32.toNatClampNeg x6)) = (0 : Int32) then (gd (vp_in x6 120) (if (ea_i h (b0 + 45) (Int32.toNatClampNeg x6)) = x4 then (gd ((okX3_sortsOne b0 (x2 : Int32) (x5 : Int32) h)) (gd (vp_in x6 120) (gd (((vX3_sortsOne b0 (x2 : Int32) (x5 : Int32) h) = 0 ∨ (vX3_sortsOne b0 (x2 : Int32) (x5 : Int32) h) = 1)) (gX1_sort_at42 b0 f 91 (x1 : Int32) (x2 : Int32) 0 (x4 : Int32) (x5 : Int32) ((x6 + (1 : Int32)) : Int32) (ea_wi (wX3_sortsOne b0 (x2 : Int32) (x5 : Int32) h) (b0 + 47) (Int32.toNatClampNeg x6) (vX3_sortsOne b0 (x2 : Int32) (x5 : Int32) h)))))) else (gX1_sort_at42 b0 f 91 (x1 : Int32) (x2 : Int32) 0 (x4 : Int32) (x5 : Int32) ((x6 + (1 : Int32)) : Int32) h))) else (gX1_sort_at42 b0 f 91 (x1 : Int32) (x2 : Int32) 0 (x4 : Int32) (x5 : Int32) ((x6 + (1 : Int32)) : Int32) h)))))) else none
theorem tX1_sort_at42 {d : Nat} {b0 : Nat} {h0 : ea_H} (hd : 2 ≤ d) : ∀ (f lbl : Nat) (x1 : Int32) (x2 : Int32) (x3 : Int32) (x4 : Int32) (x5 : Int32) (x6 : Int32) (h : ea_H) (r : Unit) (h' : ea_H), gX1_sort_at42 b0 f lbl x1 x2 x3 x4 x5 x6 h = some (r, h') → ShC b0 h → (lbl = 0 → ea_W mX1_sort d h0 none h' 0 [(0, vR (some (b0 + 42))), (1, vI x1), (2, vI x2), (3, vI x3)] [] h) ∧ (lbl = 57 → ea_W mX1_sort d h0 none h' 57 [(0, vR (some (b0 + 42))), (1, vI x1), (2, vI x2), (4, vI x4)] [] h) ∧ (lbl = 91 → ea_W mX1_sort d h0 none h' 91 [(0, vR (some (b0 + 42))), (1, vI x1), (2, vI x2), (4, vI x4), (5, vI x5), (6, vI x6)] [] h) := by
  intro f
  induction f with
  | zero => intro lbl x1 x2 x3 x4 x5 x6 h r h' E; cases E
  | succ f ih =>
    intro lbl x1 x2 x3 x4 x5 x6 h r h' E hs
    unfold gX1_sort_at42 at E
    refine ⟨?_, ?_⟩
    · intro el
      subst el
      have E := (if_pos rfl).symm.trans E
      refine ea_iload_n (pc := 0) dX1_sort_0 rfl 3 rfl ?_
      refine ea_iconst (pc := 1) dX1_sort_1 (v := 1) rfl ?_
      refine ea_iadd (pc := 2) dX1_sort_2 ?_
      refine ea_aload_n (pc := 3) dX1_sort_3 rfl 0 rfl ?_
      refine ea_getR (pc := 4) dX1_sort_4 ec_1 (k := 11) (Nat.le_of_ble_eq_true rfl) rfl (Or.inl ew_377) (hs.1 42 (by decide)).1 (hs.1 42 (by decide)).2.1 (hs.2 42 11 rfl) ?_
      refine ea_getR (pc := 7) dX1_sort_7 ec_9 (k := 1) (Nat.le_of_ble_eq_true rfl) rfl (Or.inl ew_182) (hs.1 5 (by decide)).1 (hs.1 5 (by decide)).2.1 (hs.2 5 1 rfl) ?_
      refine ea_iload_n (pc := 10) dX1_sort_10 rfl 2 rfl ?_
      obtain ⟨z1, E⟩ := gd_some E
      refine ea_iald (pc := 11) dX1_sort_11 (hs.1 6 (by decide)).1 (hs.1 6 (by decide)).2.1 (ea_vpl (hs.1 6 (by decide)).2.2 z1) ?_
      refine ea_icmp_lt (pc := 12) (tgt := 16) dX1_sort_12 rfl (fun c6 => ?_) (fun c6 => ?_)
      · have E := (if_pos c6).symm.trans E
        refine ea_aload_n (pc := 16) dX1_sort_16 rfl 0 rfl ?_
        refine ea_getR (pc := 17) dX1_sort_17 ec_1 (k := 13) (Nat.le_of_ble_eq_true rfl) rfl (Or.inl ew_379) (hs.1 42 (by decide)).1 (hs.1 42 (by decide)).2.1 (hs.2 42 13 rfl) ?_
        refine ea_aload_n (pc := 20) dX1_sort_20 rfl 0 rfl ?_
        refine ea_getR (pc := 21) dX1_sort_21 ec_1 (k := 11) (Nat.le_of_ble_eq_true rfl) rfl (Or.inl ew_377) (hs.1 42 (by decide)).1 (hs.1 42 (by decide)).2.1 (hs.2 42 11 rfl) ?_
        refine ea_getR (pc := 24) dX1_sort_24 ec_9 (k := 3) (Nat.le_of_ble_eq_true rfl) rfl (Or.inl ew_190) (hs.1 5 (by decide)).1 (hs.1 5 (by decide)).2.1 (hs.2 5 3 rfl) ?_
        refine ea_bipush (pc := 27) dX1_sort_27 (v := 8) rfl ?_
        refine ea_iload_n (pc := 29) dX1_sort_29 rfl 2 rfl ?_
        refine ea_imul (pc := 30) dX1_sort_30 ?_
        refine ea_iload_n (pc := 31) dX1_sort_31 rfl 3 rfl ?_
        refine ea_iadd (pc := 32) dX1_sort_32 ?_
        refine ea_iconst (pc := 33) dX1_sort_33 (v := 1) rfl ?_
        refine ea_iadd (pc := 34) dX1_sort_34 ?_
        obtain ⟨z2, E⟩ := gd_some E
        refine ea_iald (pc := 35) dX1_sort_35 (hs.1 8 (by decide)).1 (hs.1 8 (by decide)).2.1 (ea_vpl (hs.1 8 (by decide)).2.2 z2) ?_
        refine ea_aload_n (pc := 36) dX1_sort_36 rfl 0 rfl ?_
        refine ea_getR (pc := 37) dX1_sort_37 ec_1 (k := 11) (Nat.le_of_ble_eq_true rfl) rfl (Or.inl ew_377) (hs.1 42 (by decide)).1 (hs.1 42 (by decide)).2.1 (hs.2 42 11 rfl) ?_
        refine ea_getR (pc := 40) dX1_sort_40 ec_9 (k := 4) (Nat.le_of_ble_eq_true rfl) rfl (Or.inl ew_193) (hs.1 5 (by decide)).1 (hs.1 5 (by decide)).2.1 (hs.2 5 4 rfl) ?_
        refine ea_bipush (pc := 43) dX1_sort_43 (v := 8) rfl ?_
        refine ea_iload_n (pc := 45) dX1_sort_45 rfl 2 rfl ?_
        refine ea_imul (pc := 46) dX1_sort_46 ?_
        refine ea_iload_n (pc := 47) dX1_sort_47 rfl 3 rfl ?_
        refine ea_iadd (pc := 48) dX1_sort_48 ?_
        obtain ⟨z3, E⟩ := gd_some E
        refine ea_iald (pc := 49) dX1_sort_49 (hs.1 9 (by decide)).1 (hs.1 9 (by decide)).2.1 (ea_vpl (hs.1 9 (by decide)).2.2 z3) ?_
        refine ea_isub (pc := 50) dX1_sort_50 ?_
        obtain ⟨z4, E⟩ := gd_some E
        refine ea_callV (pc := 51) (d' := d - 1) (As := [vI ((ea_i h (b0 + 8) (Int32.toNatClampNeg ((((8 : Int32) * x2) + x3) + (1 : Int32)))) - (ea_i h (b0 + 9) (Int32.toNatClampNeg (((8 : Int32) * x2) + x3))))]) (st := []) dX1_sort_51 kX3_begin (sX3_begin (d := d - 1) (by omega) hs z4) (by omega) rfl (Nat.le_of_ble_eq_true rfl) ew_700 ew_701 ew_702 (ci := 3) rfl (by decide) (hs.1 16 (by decide)).1 (hs.1 16 (by decide)).2.1 ?_
        have hs5 : ShC b0 (wX3_begin b0 (((ea_i h (b0 + 8) (Int32.toNatClampNeg ((((8 : Int32) * x2) + x3) + (1 : Int32)))) - (ea_i h (b0 + 9) (Int32.toNatClampNeg (((8 : Int32) * x2) + x3)))) : Int32) h) := shX3_begin hs
        refine ea_iconst (pc := 54) dX1_sort_54 (v := 0) rfl ?_
        refine ea_istore (pc := 55) (lv' := [(0, vR (some (b0 + 42))), (1, vI x1), (2, vI x2), (4, vI 0)]) dX1_sort_55 (Nat.le_of_ble_eq_true rfl) [1, 2, 3, 0] rfl ?_
        exact ((ih 57 (x1 : Int32) (x2 : Int32) 0 (0 : Int32) 0 0 (wX3_begin b0 (((ea_i h (b0 + 8) (Int32.toNatClampNeg ((((8 : Int32) * x2) + x3) + (1 : Int32)))) - (ea_i h (b0 + 9) (Int32.toNatClampNeg (((8 : Int32) * x2) + x3)))) : Int32) h) _ _ E hs5).2.1 rfl)
      · have E := (if_neg c6).symm.trans E
        cases E
        exact ea_return (pc := 15) dX1_sort_15 rfl
    refine ⟨?_, ?_⟩
    · intro el
      subst el
      have E := (if_neg (by decide)).symm.trans E
      have E := (if_pos rfl).symm.trans E
      refine ea_iload (pc := 57) dX1_sort_57 3 rfl ?_
      refine ea_aload_n (pc := 59) dX1_sort_59 rfl 0 rfl ?_
      refine ea_getR (pc := 60) dX1_sort_60 ec_1 (k := 11) (Nat.le_of_ble_eq_true rfl) rfl (Or.inl ew_377) (hs.1 42 (by decide)).1 (hs.1 42 (by decide)).2.1 (hs.2 42 11 rfl) ?_
      refine ea_getR (pc := 63) dX1_sort_63 ec_9 (k := 1) (Nat.le_of_ble_eq_true rfl) rfl (Or.inl ew_182) (hs.1 5 (by decide)).1 (hs.1 5 (by decide)).2.1 (hs.2 5 1 rfl) ?_
      refine ea_iload_n (pc := 66) dX1_sort_66 rfl 2 rfl ?_
      obtain ⟨z7, E⟩ := gd_some E
      refine ea_iald (pc := 67) dX1_sort_67 (hs.1 6 (by decide)).1 (hs.1 6 (by decide)).2.1 (ea_vpl (hs.1 6 (by decide)).2.2 z7) ?_
      refine ea_icmp_ge (pc := 68) (tgt := 161) dX1_sort_68 rfl (fun c9 => ?_) (fun c9 => ?_)
      · have E := (if_pos c9).symm.trans E
        cases E
        exact ea_return (pc := 161) dX1_sort_161 rfl
      · have E := (if_neg c9).symm.trans E
        refine ea_aload_n (pc := 71) dX1_sort_71 rfl 0 rfl ?_
        refine ea_getR (pc := 72) dX1_sort_72 ec_1 (k := 11) (Nat.le_of_ble_eq_true rfl) rfl (Or.inl ew_377) (hs.1 42 (by decide)).1 (hs.1 42 (by decide)).2.1 (hs.2 42 11 rfl) ?_
        refine ea_getR (pc := 75) dX1_sort_75 ec_9 (k := 2) (Nat.le_of_ble_eq_true rfl) rfl (Or.inl ew_186) (hs.1 5 (by decide)).1 (hs.1 5 (by decide)).2.1 (hs.2 5 2 rfl) ?_
        refine ea_bipush (pc := 78) dX1_sort_78 (v := 8) rfl ?_
        refine ea_iload_n (pc := 80) dX1_sort_80 rfl 2 rfl ?_
        refine ea_imul (pc := 81) dX1_sort_81 ?_
        refine ea_iload (pc := 82) dX1_sort_82 3 rfl ?_
        refine ea_iadd (pc := 84) dX1_sort_84 ?_
        obtain ⟨z8, E⟩ := gd_some E
        refine ea_iald (pc := 85) dX1_sort_85 (hs.1 7 (by decide)).1 (hs.1 7 (by decide)).2.1 (ea_vpl (hs.1 7 (by decide)).2.2 z8) ?_
        refine ea_istore (pc := 86) (lv' := [(0, vR (some (b0 + 42))), (1, vI x1), (2, vI x2), (4, vI x4), (5, vI (ea_i h (b0 + 7) (Int32.toNatClampNeg (((8 : Int32) * x2) + x4))))]) dX1_sort_86 (Nat.le_of_ble_eq_true rfl) [1, 2, 3, 4, 0] rfl ?_
        refine ea_iconst (pc := 88) dX1_sort_88 (v := 0) rfl ?_
        refine ea_istore (pc := 89) (lv' := [(0, vR (some (b0 + 42))), (1, vI x1), (2, vI x2), (4, vI x4), (5, vI (ea_i h (b0 + 7) (Int32.toNatClampNeg (((8 : Int32) * x2) + x4)))), (6, vI 0)]) dX1_sort_89 (Nat.le_of_ble_eq_true rfl) [1, 2, 3, 4, 5, 0] rfl ?_
        exact ((ih 91 (x1 : Int32) (x2 : Int32) 0 (x4 : Int32) ((ea_i h (b0 + 7) (Int32.toNatClampNeg (((8 : Int32) * x2) + x4))) : Int32) (0 : Int32) h _ _ E hs).2.2 rfl)
    intro el
    subst el
    have E := (if_neg (by decide)).symm.trans E
    have E := (if_neg (by decide)).symm.trans E
    have E := (if_pos rfl).symm.trans E
    refine ea_iload (pc := 91) dX1_sort_91 5 rfl ?_
    refine ea_aload_n (pc := 93) dX1_sort_93 rfl 0 rfl ?_
    refine ea_getI (pc := 94) dX1_sort_94 ec_1 (k := 0) (Nat.le_of_ble_eq_true rfl) rfl (Or.inl ew_359) (hs.1 42 (by decide)).1 (hs.1 42 (by decide)).2.1 ?_
    refine ea_icmp_ge (pc := 97) (tgt := 155) dX1_sort_97 rfl (fun c21 => ?_) (fun c21 => ?_)
    · have E := (if_pos c21).symm.trans E
      refine ea_iinc (pc := 155) (v := 1) (lv' := [(0, vR (some (b0 + 42))), (1, vI x1), (2, vI x2), (4, vI (x4 + (1 : Int32)))]) dX1_sort_155 3 rfl rfl (Nat.le_of_ble_eq_true rfl) [1, 2, 3, 0] rfl ?_
      refine ea_goto (pc := 158) (tgt := 57) dX1_sort_158 rfl ?_
      exact ((ih 57 (x1 : Int32) (x2 : Int32) 0 ((x4 + (1 : Int32)) : Int32) 0 0 h _ _ E hs).2.1 rfl)
    · have E := (if_neg c21).symm.trans E
      refine ea_aload_n (pc := 100) dX1_sort_100 rfl 0 rfl ?_
      refine ea_iload (pc := 101) dX1_sort_101 5 rfl ?_
      refine ea_iload_n (pc := 103) dX1_sort_103 rfl 1 rfl ?_
      obtain ⟨z10, E⟩ := gd_some E
      refine ea_callV (pc := 104) (d' := d - 1) (As := [vI x6, vI x1]) (st := []) dX1_sort_104 kX1_isAboard (sX1_isAboard_at42 (d := d - 1) (by omega) hs z10) (by omega) rfl (Nat.le_of_ble_eq_true rfl) ew_704 ew_705 ew_706 (ci := 1) rfl (by decide) (hs.1 42 (by decide)).1 (hs.1 42 (by decide)).2.1 ?_
      refine ea_if_eq (pc := 107) (tgt := 149) dX1_sort_107 rfl (fun c20 => ?_) (fun c20 => ?_)
      · have E := (if_pos c20).symm.trans E
        refine ea_iinc (pc := 149) (v := 1) (lv' := [(0, vR (some (b0 + 42))), (1, vI x1), (2, vI x2), (4, vI x4), (5, vI x5), (6, vI (x6 + (1 : Int32)))]) dX1_sort_149 5 rfl rfl (Nat.le_of_ble_eq_true rfl) [1, 2, 3, 4, 5, 0] rfl ?_
        refine ea_goto (pc := 152) (tgt := 91) dX1_sort_152 rfl ?_
        exact ((ih 91 (x1 : Int32) (x2 : Int32) 0 (x4 : Int32) (x5 : Int32) ((x6 + (1 : Int32)) : Int32) h _ _ E hs).2.2 rfl)
      · have E := (if_neg c20).symm.trans E
        refine ea_aload_n (pc := 110) dX1_sort_110 rfl 0 rfl ?_
        refine ea_getR (pc := 111) dX1_sort_111 ec_1 (k := 5) (Nat.le_of_ble_eq_true rfl) rfl (Or.inl ew_369) (hs.1 42 (by decide)).1 (hs.1 42 (by decide)).2.1 (hs.2 42 5 rfl) ?_
        refine ea_iload (pc := 114) dX1_sort_114 5 rfl ?_
        obtain ⟨z11, E⟩ := gd_some E
        refine ea_zald (pc := 116) dX1_sort_116 (hs.1 47 (by decide)).1 (hs.1 47 (by decide)).2.1 (ea_vpl (hs.1 47 (by decide)).2.2 z11) ?_
        refine ea_if_ne (pc := 117) (tgt := 149) dX1_sort_117 rfl (fun c19 => ?_) (fun c19 => ?_)
        · have E := (if_neg c19).symm.trans E
          refine ea_iinc (pc := 149) (v := 1) (lv' := [(0, vR (some (b0 + 42))), (1, vI x1), (2, vI x2), (4, vI x4), (5, vI x5), (6, vI (x6 + (1 : Int32)))]) dX1_sort_149 5 rfl rfl (Nat.le_of_ble_eq_true rfl) [1, 2, 3, 4, 5, 0] rfl ?_
          refine ea_goto (pc := 152) (tgt := 91) dX1_sort_152 rfl ?_
          exact ((ih 91 (x1 : Int32) (x2 : Int32) 0 (x4 : Int32) (x5 : Int32) ((x6 + (1 : Int32)) : Int32) h _ _ E hs).2.2 rfl)
        · have E := (if_pos c19).symm.trans E
          refine ea_aload_n (pc := 120) dX1_sort_120 rfl 0 rfl ?_
          refine ea_getR (pc := 121) dX1_sort_121 ec_1 (k := 3) (Nat.le_of_ble_eq_true rfl) rfl (Or.inl ew_365) (hs.1 42 (by decide)).1 (hs.1 42 (by decide)).2.1 (hs.2 42 3 rfl) ?_
          refine ea_iload (pc := 124) dX1_sort_124 5 rfl ?_
          obtain ⟨z12, E⟩ := gd_some E
          refine ea_iald (pc := 126) dX1_sort_126 (hs.1 45 (by decide)).1 (hs.1 45 (by decide)).2.1 (ea_vpl (hs.1 45 (by decide)).2.2 z12) ?_
          refine ea_iload (pc := 127) dX1_sort_127 3 rfl ?_
          refine ea_icmp_ne (pc := 129) (tgt := 149) dX1_sort_129 rfl (fun c18 => ?_) (fun c18 => ?_)
          · have E := (if_neg c18).symm.trans E
            refine ea_iinc (pc := 149) (v := 1) (lv' := [(0, vR (some (b0 + 42))), (1, vI x1), (2, vI x2), (4, vI x4), (5, vI x5), (6, vI (x6 + (1 : Int32)))]) dX1_sort_149 5 rfl rfl (Nat.le_of_ble_eq_true rfl) [1, 2, 3, 4, 5, 0] rfl ?_
            refine ea_goto (pc := 152) (tgt := 91) dX1_sort_152 rfl ?_
            exact ((ih 91 (x1 : Int32) (x2 : Int32) 0 (x4 : Int32) (x5 : Int32) ((x6 + (1 : Int32)) : Int32) h _ _ E hs).2.2 rfl)
          · have E := (if_pos c18).symm.trans E
            refine ea_aload_n (pc := 132) dX1_sort_132 rfl 0 rfl ?_
            refine ea_getR (pc := 133) dX1_sort_133 ec_1 (k := 5) (Nat.le_of_ble_eq_true rfl) rfl (Or.inl ew_369) (hs.1 42 (by decide)).1 (hs.1 42 (by decide)).2.1 (hs.2 42 5 rfl) ?_
            refine ea_iload (pc := 136) dX1_sort_136 5 rfl ?_
            refine ea_aload_n (pc := 138) dX1_sort_138 rfl 0 rfl ?_
            refine ea_getR (pc := 139) dX1_sort_139 ec_1 (k := 13) (Nat.le_of_ble_eq_true rfl) rfl (Or.inl ew_379) (hs.1 42 (by decide)).1 (hs.1 42 (by decide)).2.1 (hs.2 42 13 rfl) ?_
            refine ea_iload_n (pc := 142) dX1_sort_142 rfl 2 rfl ?_
            refine ea_iload (pc := 143) dX1_sort_143 4 rfl ?_
            obtain ⟨z13, E⟩ := gd_some E
            refine ea_callV (pc := 145) (d' := d - 1) (As := [vI x2, vI x5]) (st := [vI x6, vR (some (b0 + 47))]) dX1_sort_145 kX3_sortsOne (sX3_sortsOne (d := d - 1) (by omega) hs z13) (by omega) rfl (Nat.le_of_ble_eq_true rfl) ew_708 ew_709 ew_710 (ci := 3) rfl (by decide) (hs.1 16 (by decide)).1 (hs.1 16 (by decide)).2.1 ?_
            have hs14 : ShC b0 (wX3_sortsOne b0 (x2 : Int32) (x5 : Int32) h) := shX3_sortsOne hs
            obtain ⟨z15, E⟩ := gd_some E
            obtain ⟨z17, E⟩ := gd_some E
            refine ea_zast (pc := 148) dX1_sort_148 (y := (vX3_sortsOne b0 (x2 : Int32) (x5 : Int32) h)) (ea_bn z17) (hs14.1 47 (by decide)).1 (hs14.1 47 (by decide)).2.1 (ea_vpl (hs14.1 47 (by decide)).2.2 z15) ?_
            have hs16 : ShC b0 (ea_wi (wX3_sortsOne b0 (x2 : Int32) (x5 : Int32) h) (b0 + 47) (Int32.toNatClampNeg x6) (vX3_sortsOne b0 (x2 : Int32) (x5 : Int32) h)) := ShC_wi hs14
            refine ea_iinc (pc := 149) (v := 1) (lv' := [(0, vR (some (b0 + 42))), (1, vI x1), (2, vI x2), (4, vI x4), (5, vI x5), (6, vI (x6 + (1 : Int32)))]) dX1_sort_149 5 rfl rfl (Nat.le_of_ble_eq_true rfl) [1, 2, 3, 4, 5, 0] rfl ?_
            refine ea_goto (pc := 152) (tgt := 91) dX1_sort_152 rfl ?_
            exact ((ih 91 (x1 : Int32) (x2 : Int32) 0 (x4 : Int32) (x5 : Int32) ((x6 + (1 : Int32)) : Int32) (ea_wi (wX3_sortsOne b0 (x2 : Int32) (x5 : Int32) h) (b0 + 47) (Int32.toNatClampNeg x6) (vX3_sortsOne b0 (x2 : Int32) (x5 : Int32) h)) _ _ E hs16).2.2 rfl)
noncomputable def qX1_sort_at42 (b0 : Nat) (x1 : Int32) (x2 : Int32) (x3 : Int32) (h : ea_H) : Option (Unit × ea_H) := gX1_sort_at42 b0 1000000000 0 x1 x2 x3 0 0 0 h
def okX1_sort_at42 (b0 : Nat) (x1 : Int32) (x2 : Int32) (x3 : Int32) (h : ea_H) : Prop := ∃ x, qX1_sort_at42 b0 x1 x2 x3 h = some x
noncomputable def wX1_sort_at42 (b0 : Nat) (x1 : Int32) (x2 : Int32) (x3 : Int32) (h : ea_H) : ea_H := ((qX1_sort_at42 b0 x1 x2 x3 h).getD ((), h)).2
theorem sX1_sort_at42 {d : Nat} {b0 : Nat} {x1 : Int32} {x2 : Int32} {x3 : Int32} {h : ea_H} (hd : 2 ≤ d) (hs : ShC b0 h) (K : okX1_sort_at42 b0 x1 x2 x3 h) : ea_Met mX1_sort d [vR (some (b0 + 42)), vI x1, vI x2, vI x3] h none (wX1_sort_at42 b0 x1 x2 x3 h) := by
  obtain ⟨⟨x, y⟩, K⟩ := K
  unfold wX1_sort_at42
  rw [K]
  unfold qX1_sort_at42 at K
  exact ea_enter rfl (Nat.le_of_ble_eq_true rfl) ((tX1_sort_at42 hd 1000000000 0 x1 x2 x3 0 0 0 h x y K hs).1 rfl)
theorem zX1_sort_at42 {b0 : Nat} : ∀ (f lbl : Nat) (x1 : Int32) (x2 : Int32) (x3 : Int32) (x4 : Int32) (x5 : Int32) (x6 : Int32) (h : ea_H) (r : Unit) (h' : ea_H), gX1_sort_at42 b0 f lbl x1 x2 x3 x4 x5 x6 h = some (r, h') → ShC b0 h → ShC b0 h' := by
  intro f
  induction f with
  | zero => intro lbl x1 x2 x3 x4 x5 x6 h r h' E; cases E
  | succ f ih =>
    intro lbl x1 x2 x3 x4 x5 x6 h r h' E hs
    unfold gX1_sort_at42 at E
    by_cases el0 : lbl = 0
    · have E := (if_pos el0).symm.trans E
      obtain ⟨z1, E⟩ := gd_some E
      by_cases c6 : (x3 + (1 : Int32)) < (ea_i h (b0 + 6) (Int32.toNatClampNeg x2))
      · have E := (if_pos c6).symm.trans E
        obtain ⟨z2, E⟩ := gd_some E
        obtain ⟨z3, E⟩ := gd_some E
        obtain ⟨z4, E⟩ := gd_some E
        exact ih 57 (x1 : Int32) (x2 : Int32) 0 (0 : Int32) 0 0 (wX3_begin b0 (((ea_i h (b0 + 8) (Int32.toNatClampNeg ((((8 : Int32) * x2) + x3) + (1 : Int32)))) - (ea_i h (b0 + 9) (Int32.toNatClampNeg (((8 : Int32) * x2) + x3)))) : Int32) h) _ _ E (shX3_begin hs)
      have E := (if_neg c6).symm.trans E
      cases E
      exact hs
    have E := (if_neg el0).symm.trans E
    by_cases el1 : lbl = 57
    · have E := (if_pos el1).symm.trans E
      obtain ⟨z7, E⟩ := gd_some E
      by_cases c9 : (ea_i h (b0 + 6) (Int32.toNatClampNeg x2)) ≤ x4
      · have E := (if_pos c9).symm.trans E
        cases E
        exact hs
      have E := (if_neg c9).symm.trans E
      obtain ⟨z8, E⟩ := gd_some E
      exact ih 91 (x1 : Int32) (x2 : Int32) 0 (x4 : Int32) ((ea_i h (b0 + 7) (Int32.toNatClampNeg (((8 : Int32) * x2) + x4))) : Int32) (0 : Int32) h _ _ E hs
    have E := (if_neg el1).symm.trans E
    by_cases el2 : lbl = 91
    · have E := (if_pos el2).symm.trans E
      by_cases c21 : (ea_i h (b0 + 42) 0) ≤ x6
      · have E := (if_pos c21).symm.trans E
        exact ih 57 (x1 : Int32) (x2 : Int32) 0 ((x4 + (1 : Int32)) : Int32) 0 0 h _ _ E hs
      have E := (if_neg c21).symm.trans E
      obtain ⟨z10, E⟩ := gd_some E
      by_cases c20 : (vX1_isAboard_at42 b0 (x6 : Int32) (x1 : Int32) h) = (0 : Int32)
      · have E := (if_pos c20).symm.trans E
        exact ih 91 (x1 : Int32) (x2 : Int32) 0 (x4 : Int32) (x5 : Int32) ((x6 + (1 : Int32)) : Int32) h _ _ E hs
      have E := (if_neg c20).symm.trans E
      obtain ⟨z11, E⟩ := gd_some E
      by_cases c19 : (ea_i h (b0 + 47) (Int32.toNatClampNeg x6)) = (0 : Int32)
      · have E := (if_pos c19).symm.trans E
        obtain ⟨z12, E⟩ := gd_some E
        by_cases c18 : (ea_i h (b0 + 45) (Int32.toNatClampNeg x6)) = x4
        · have E := (if_pos c18).symm.trans E
          obtain ⟨z13, E⟩ := gd_some E
          obtain ⟨z15, E⟩ := gd_some E
          obtain ⟨z17, E⟩ := gd_some E
          exact ih 91 (x1 : Int32) (x2 : Int32) 0 (x4 : Int32) (x5 : Int32) ((x6 + (1 : Int32)) : Int32) (ea_wi (wX3_sortsOne b0 (x2 : Int32) (x5 : Int32) h) (b0 + 47) (Int32.toNatClampNeg x6) (vX3_sortsOne b0 (x2 : Int32) (x5 : Int32) h)) _ _ E (ShC_wi (shX3_sortsOne hs))
        have E := (if_neg c18).symm.trans E
        exact ih 91 (x1 : Int32) (x2 : Int32) 0 (x4 : Int32) (x5 : Int32) ((x6 + (1 : Int32)) : Int32) h _ _ E hs
      have E := (if_neg c19).symm.trans E
      exact ih 91 (x1 : Int32) (x2 : Int32) 0 (x4 : Int32) (x5 : Int32) ((x6 + (1 : Int32)) : Int32) h _ _ E hs
    have E := (if_neg el2).symm.trans E
    cases E
theorem shX1_sort_at42 {b0 : Nat} {x1 : Int32} {x2 : Int32} {x3 : Int32} {h : ea_H} (hs : ShC b0 h) : ShC b0 (wX1_sort_at42 b0 x1 x2 x3 h) := by
  unfold wX1_sort_at42
  cases K : qX1_sort_at42 b0 x1 x2 x3 h with
  | none => exact hs
  | some x => obtain ⟨x, y⟩ := x; unfold qX1_sort_at42 at K; exact zX1_sort_at42 _ _ _ _ _ _ _ _ _ _ _ K hs
noncomputable def gX5_readNots (b0 : Nat) : Nat → Nat → Int32 → ea_H → Option (Int32 × ea_H)
  | 0, _, _, _ => none
  | f + 1, lbl, x1, h =>
    if lbl = 0 then (gX5_readNots b0 f 2 (0 : Int32) h) else
    if lbl = 2 then (if (8 : Int32) < x1 then (some (x1, h)) else (if (ea_i h (b0 + 22) 9) = (15 : Int32) then (if x1 = (8 : Int32) then (gd ((okX5_refuse b0 (3 : Int32) h)) (some (((-1) : Int32), (wX5_refuse b0 (3 : Int32) h)))) else (gd ((okX5_step b0 h)) (gX5_readNots b0 f 2 ((x1 + (1 : Int32)) : Int32) (wX5_step b0 h)))) else (some (x1, h)))) else none
theorem tX5_readNots {d : Nat} {b0 : Nat} {h0 : ea_H} (hd : 2 ≤ d) : ∀ (f lbl : Nat) (x1 : Int32) (h : ea_H) (r : Int32) (h' : ea_H), gX5_readNots b0 f lbl x1 h = some (r, h') → ShC b0 h → (lbl = 0 → ea_W mX5_readNots d h0 (some (vI r)) h' 0 [(0, vR (some (b0 + 22)))] [] h) ∧ (lbl = 2 → ea_W mX5_readNots d h0 (some (vI r)) h' 2 [(0, vR (some (b0 + 22))), (1, vI x1)] [] h) := by
  intro f
  induction f with
  | zero => intro lbl x1 h r h' E; cases E
  | succ f ih =>
    intro lbl x1 h r h' E hs
    unfold gX5_readNots at E
    refine ⟨?_, ?_⟩
    · intro el
      subst el
      have E := (if_pos rfl).symm.trans E
      refine ea_iconst (pc := 0) dX5_readNots_0 (v := 0) rfl ?_
      refine ea_istore_n (pc := 1) (lv' := [(0, vR (some (b0 + 22))), (1, vI 0)]) dX5_readNots_1 rfl (Nat.le_of_ble_eq_true rfl) [1, 0] rfl ?_
      exact ((ih 2 (0 : Int32) h _ _ E hs).2 rfl)
    intro el
    subst el
    have E := (if_neg (by decide)).symm.trans E
    have E := (if_pos rfl).symm.trans E
    refine ea_iload_n (pc := 2) dX5_readNots_2 rfl 1 rfl ?_
    refine ea_bipush (pc := 3) dX5_readNots_3 (v := 8) rfl ?_
    refine ea_icmp_gt (pc := 5) (tgt := 41) dX5_readNots_5 rfl (fun c7 => ?_) (fun c7 => ?_)
    · have E := (if_pos c7).symm.trans E
      refine ea_iload_n (pc := 41) dX5_readNots_41 rfl 1 rfl ?_
      cases E
      exact ea_ireturn (pc := 42) dX5_readNots_42 rfl rfl
    · have E := (if_neg c7).symm.trans E
      refine ea_aload_n (pc := 8) dX5_readNots_8 rfl 0 rfl ?_
      refine ea_getI (pc := 9) dX5_readNots_9 ec_5 (k := 9) (Nat.le_of_ble_eq_true rfl) rfl (Or.inl ew_303) (hs.1 22 (by decide)).1 (hs.1 22 (by decide)).2.1 ?_
      refine ea_bipush (pc := 12) dX5_readNots_12 (v := 15) rfl ?_
      refine ea_icmp_ne (pc := 14) (tgt := 41) dX5_readNots_14 rfl (fun c6 => ?_) (fun c6 => ?_)
      · have E := (if_neg c6).symm.trans E
        refine ea_iload_n (pc := 41) dX5_readNots_41 rfl 1 rfl ?_
        cases E
        exact ea_ireturn (pc := 42) dX5_readNots_42 rfl rfl
      · have E := (if_pos c6).symm.trans E
        refine ea_iload_n (pc := 17) dX5_readNots_17 rfl 1 rfl ?_
        refine ea_bipush (pc := 18) dX5_readNots_18 (v := 8) rfl ?_
        refine ea_icmp_ne (pc := 20) (tgt := 31) dX5_readNots_20 rfl (fun c5 => ?_) (fun c5 => ?_)
        · have E := (if_neg c5).symm.trans E
          refine ea_aload_n (pc := 31) dX5_readNots_31 rfl 0 rfl ?_
          obtain ⟨z1, E⟩ := gd_some E
          refine ea_callV (pc := 32) (d' := d - 1) (As := []) (st := []) dX5_readNots_32 kX5_step (sX5_step (d := d - 1) (by omega) hs z1) (by omega) rfl (Nat.le_of_ble_eq_true rfl) ew_859 ew_861 ew_22 (ci := 5) rfl (by decide) (hs.1 22 (by decide)).1 (hs.1 22 (by decide)).2.1 ?_
          have hs2 : ShC b0 (wX5_step b0 h) := shX5_step hs
          refine ea_iinc (pc := 35) (v := 1) (lv' := [(0, vR (some (b0 + 22))), (1, vI (x1 + (1 : Int32)))]) dX5_readNots_35 1 rfl rfl (Nat.le_of_ble_eq_true rfl) [1, 0] rfl ?_
          refine ea_goto (pc := 38) (tgt := 2) dX5_readNots_38 rfl ?_
          exact ((ih 2 ((x1 + (1 : Int32)) : Int32) (wX5_step b0 h) _ _ E hs2).2 rfl)
        · have E := (if_pos c5).symm.trans E
          refine ea_aload_n (pc := 23) dX5_readNots_23 rfl 0 rfl ?_
          refine ea_iconst (pc := 24) dX5_readNots_24 (v := 3) rfl ?_
          obtain ⟨z3, E⟩ := gd_some E
          refine ea_callV (pc := 25) (d' := d - 1) (As := [vI 3]) (st := []) dX5_readNots_25 kX5_refuse (sX5_refuse (d := d - 1) (by omega) hs z3) (by omega) rfl (Nat.le_of_ble_eq_true rfl) ew_851 ew_853 ew_20 (ci := 5) rfl (by decide) (hs.1 22 (by decide)).1 (hs.1 22 (by decide)).2.1 ?_
          have hs4 : ShC b0 (wX5_refuse b0 (3 : Int32) h) := shX5_refuse hs
          refine ea_pop (pc := 28) dX5_readNots_28 rfl ?_
          refine ea_iconst (pc := 29) dX5_readNots_29 (v := (-1)) rfl ?_
          cases E
          exact ea_ireturn (pc := 30) dX5_readNots_30 rfl rfl
noncomputable def qX5_readNots (b0 : Nat) (h : ea_H) : Option (Int32 × ea_H) := gX5_readNots b0 1000000000 0 0 h
def okX5_readNots (b0 : Nat) (h : ea_H) : Prop := ∃ x, qX5_readNots b0 h = some x
noncomputable def vX5_readNots (b0 : Nat) (h : ea_H) : Int32 := ((qX5_readNots b0 h).getD (0, h)).1
noncomputable def wX5_readNots (b0 : Nat) (h : ea_H) : ea_H := ((qX5_readNots b0 h).getD (0, h)).2
theorem sX5_readNots {d : Nat} {b0 : Nat} {h : ea_H} (hd : 2 ≤ d) (hs : ShC b0 h) (K : okX5_readNots b0 h) : ea_Met mX5_readNots d [vR (some (b0 + 22))] h (some (vI (vX5_readNots b0 h))) (wX5_readNots b0 h) := by
  obtain ⟨⟨x, y⟩, K⟩ := K
  unfold wX5_readNots vX5_readNots
  rw [K]
  unfold qX5_readNots at K
  exact ea_enter rfl (Nat.le_of_ble_eq_true rfl) ((tX5_readNots hd 1000000000 0 0 h x y K hs).1 rfl)
theorem zX5_readNots {b0 : Nat} : ∀ (f lbl : Nat) (x1 : Int32) (h : ea_H) (r : Int32) (h' : ea_H), gX5_readNots b0 f lbl x1 h = some (r, h') → ShC b0 h → ShC b0 h' := by
  intro f
  induction f with
  | zero => intro lbl x1 h r h' E; cases E
  | succ f ih =>
    intro lbl x1 h r h' E hs
    unfold gX5_readNots at E
    by_cases el0 : lbl = 0
    · have E := (if_pos el0).symm.trans E
      exact ih 2 (0 : Int32) h _ _ E hs
    have E := (if_neg el0).symm.trans E
    by_cases el1 : lbl = 2
    · have E := (if_pos el1).symm.trans E
      by_cases c7 : (8 : Int32) < x1
      · have E := (if_pos c7).symm.trans E
        cases E
        exact hs
      have E := (if_neg c7).symm.trans E
      by_cases c6 : (ea_i h (b0 + 22) 9) = (15 : Int32)
      · have E := (if_pos c6).symm.trans E
        by_cases c5 : x1 = (8 : Int32)
        · have E := (if_pos c5).symm.trans E
          obtain ⟨z3, E⟩ := gd_some E
          cases E
          exact (shX5_refuse hs)
        have E := (if_neg c5).symm.trans E
        obtain ⟨z1, E⟩ := gd_some E
        exact ih 2 ((x1 + (1 : Int32)) : Int32) (wX5_step b0 h) _ _ E (shX5_step hs)
      have E := (if_neg c6).symm.trans E
      cases E
      exact hs
    have E := (if_neg el1).symm.trans E
    cases E
theorem shX5_readNots {b0 : Nat} {h : ea_H} (hs : ShC b0 h) : ShC b0 (wX5_readNots b0 h) := by
  unfold wX5_readNots
  cases K : qX5_readNots b0 h with
  | none => exact hs
  | some x => obtain ⟨x, y⟩ := x; unfold qX5_readNots at K; exact zX5_readNots _ _ _ _ _ _ K hs
noncomputable def vX5_skip (b0 : Nat) (x1 : Int32) (h : ea_H) : Int32 := (if (ea_i h (b0 + 22) 9) = x1 then (1 : Int32) else (vX5_refuse b0 (1 : Int32) h))
noncomputable def wX5_skip (b0 : Nat) (x1 : Int32) (h : ea_H) : ea_H := (if (ea_i h (b0 + 22) 9) = x1 then (wX5_step b0 h) else (wX5_refuse b0 (1 : Int32) h))
def okX5_skip (b0 : Nat) (x1 : Int32) (h : ea_H) : Prop := ((ea_i h (b0 + 22) 9) = x1 → (okX5_step b0 h)) ∧ (¬ (ea_i h (b0 + 22) 9) = x1 → (okX5_refuse b0 (1 : Int32) h))
theorem bo_vX5_skip (b0 : Nat) (x1 : Int32) (h : ea_H) : vX5_skip b0 x1 h = 0 ∨ vX5_skip b0 x1 h = 1 := (ea_itB (Or.inr rfl) (bo_vX5_refuse _ _ _))
theorem shX5_skip {b0 : Nat} {x1 : Int32} {h : ea_H} (hs : ShC b0 h) : ShC b0 (wX5_skip b0 x1 h) := (ShC_it (shX5_step hs) (shX5_refuse hs))
theorem sX5_skip {d : Nat} {b0 : Nat} {x1 : Int32} {h : ea_H} (hd : 2 ≤ d) (hs : ShC b0 h) (K : okX5_skip b0 x1 h) : ea_Met mX5_skip d [vR (some (b0 + 22)), vI x1] h (some (vI (vX5_skip b0 x1 h))) (wX5_skip b0 x1 h) := by
  obtain ⟨X, EX⟩ : ∃ z, z = vX5_skip b0 x1 h := ⟨_, rfl⟩
  rw [← EX]
  unfold vX5_skip at EX
  obtain ⟨Y, EY⟩ : ∃ z, z = wX5_skip b0 x1 h := ⟨_, rfl⟩
  rw [← EY]
  unfold wX5_skip at EY
  unfold okX5_skip at K
  refine ea_enter rfl (Nat.le_of_ble_eq_true rfl) ?_
  refine ea_aload_n (pc := 0) dX5_skip_0 rfl 0 rfl ?_
  refine ea_getI (pc := 1) dX5_skip_1 ec_5 (k := 9) (Nat.le_of_ble_eq_true rfl) rfl (Or.inl ew_303) (hs.1 22 (by decide)).1 (hs.1 22 (by decide)).2.1 ?_
  refine ea_iload_n (pc := 4) dX5_skip_4 rfl 1 rfl ?_
  refine ea_icmp_eq (pc := 5) (tgt := 14) dX5_skip_5 rfl (fun c5 => ?_) (fun c5 => ?_)
  · have EX := EX.trans (if_pos c5)
    have EY := EY.trans (if_pos c5)
    have K := K.1 c5
    refine ea_aload_n (pc := 14) dX5_skip_14 rfl 0 rfl ?_
    have z1 := K
    refine ea_callV (pc := 15) (d' := d - 1) (As := []) (st := []) dX5_skip_15 kX5_step (sX5_step (d := d - 1) (by omega) hs z1) (by omega) rfl (Nat.le_of_ble_eq_true rfl) ew_859 ew_861 ew_22 (ci := 5) rfl (by decide) (hs.1 22 (by decide)).1 (hs.1 22 (by decide)).2.1 ?_
    have hs2 : ShC b0 (wX5_step b0 h) := shX5_step hs
    refine ea_iconst (pc := 18) dX5_skip_18 (v := 1) rfl ?_
    subst EX
    subst EY
    exact ea_ireturn (pc := 19) dX5_skip_19 rfl (ea_bn (Or.inr rfl))
  · have EX := EX.trans (if_neg c5)
    have EY := EY.trans (if_neg c5)
    have K := K.2 c5
    refine ea_aload_n (pc := 8) dX5_skip_8 rfl 0 rfl ?_
    refine ea_iconst (pc := 9) dX5_skip_9 (v := 1) rfl ?_
    have z3 := K
    refine ea_callV (pc := 10) (d' := d - 1) (As := [vI 1]) (st := []) dX5_skip_10 kX5_refuse (sX5_refuse (d := d - 1) (by omega) hs z3) (by omega) rfl (Nat.le_of_ble_eq_true rfl) ew_851 ew_853 ew_20 (ci := 5) rfl (by decide) (hs.1 22 (by decide)).1 (hs.1 22 (by decide)).2.1 ?_
    have hs4 : ShC b0 (wX5_refuse b0 (1 : Int32) h) := shX5_refuse hs
    subst EX
    subst EY
    exact ea_ireturn (pc := 13) dX5_skip_13 rfl (ea_bn (bo_vX5_refuse ..))
noncomputable def gX5_scanWord (b0 : Nat) : Nat → Nat → Int32 → Int32 → Int32 → Int32 → Int64 → ea_H → Option (Int32 × ea_H)
  | 0, _, _, _, _, _, _, _ => none
  | f + 1, lbl, x1, x4, x5, x6, y2, h =>
    if lbl = 0 then (gX5_scanWord b0 f 5 (x1 : Int32) (x1 : Int32) 0 0 (0 : Int64) h) else
    if lbl = 5 then (if (ea_i h (b0 + 22) 0) ≤ x4 then (gX5_scanWord b0 f 69 (x1 : Int32) (x4 : Int32) (20 : Int32) (0 : Int32) (y2 : Int64) h) else (gd (vp_in x4 600) (if (vX5_isLetter ((ea_i h (b0 + 23) (Int32.toNatClampNeg x4)) : Int32) h) = (0 : Int32) then (gX5_scanWord b0 f 69 (x1 : Int32) (x4 : Int32) (20 : Int32) (0 : Int32) (y2 : Int64) h) else (if (6 : Int32) ≤ (x4 - x1) then (gX5_scanWord b0 f 5 (x1 : Int32) ((x4 + (1 : Int32)) : Int32) 0 0 ((-1) : Int64) h) else (gd (vp_in x4 600) (gX5_scanWord b0 f 5 (x1 : Int32) ((x4 + (1 : Int32)) : Int32) 0 0 (((y2 <<< (Int32.toInt64 8 &&& 63)) ||| (Int32.toInt64 (ea_i h (b0 + 23) (Int32.toNatClampNeg x4)))) : Int64) h)))))) else
    if lbl = 69 then none else none
theorem tX5_scanWord {d : Nat} {b0 : Nat} {h0 : ea_H} (hd : 2 ≤ d) : ∀ (f lbl : Nat) (x1 : Int32) (x4 : Int32) (x5 : Int32) (x6 : Int32) (y2 : Int64) (h : ea_H) (r : Int32) (h' : ea_H), gX5_scanWord b0 f lbl x1 x4 x5 x6 y2 h = some (r, h') → ShC b0 h → (lbl = 0 → ea_W mX5_scanWord d h0 (some (vI r)) h' 0 [(0, vR (some (b0 + 22))), (1, vI x1)] [] h) ∧ (lbl = 5 → ea_W mX5_scanWord d h0 (some (vI r)) h' 5 [(0, vR (some (b0 + 22))), (1, vI x1), (2, vJ y2), (4, vI x4)] [] h) ∧ (lbl = 69 → ea_W mX5_scanWord d h0 (some (vI r)) h' 69 [(0, vR (some (b0 + 22))), (1, vI x1), (2, vJ y2), (4, vI x4), (5, vI x5), (6, vI x6)] [] h) := by
  intro f
  induction f with
  | zero => intro lbl x1 x4 x5 x6 y2 h r h' E; cases E
  | succ f ih =>
    intro lbl x1 x4 x5 x6 y2 h r h' E hs
    unfold gX5_scanWord at E
    refine ⟨?_, ?_⟩
    · intro el
      subst el
      have E := (if_pos rfl).symm.trans E
      refine ea_lconst (pc := 0) dX5_scanWord_0 (v := 0) rfl ?_
      refine ea_lstore_n (pc := 1) (lv' := [(0, vR (some (b0 + 22))), (1, vI x1), (2, vJ 0)]) dX5_scanWord_1 rfl (Nat.le_of_ble_eq_true rfl) [1, 2, 0] rfl ?_
      refine ea_iload_n (pc := 2) dX5_scanWord_2 rfl 1 rfl ?_
      refine ea_istore (pc := 3) (lv' := [(0, vR (some (b0 + 22))), (1, vI x1), (2, vJ 0), (4, vI x1)]) dX5_scanWord_3 (Nat.le_of_ble_eq_true rfl) [1, 2, 3, 0] rfl ?_
      exact ((ih 5 (x1 : Int32) (x1 : Int32) 0 0 (0 : Int64) h _ _ E hs).2.1 rfl)
    refine ⟨?_, ?_⟩
    · intro el
      subst el
      have E := (if_neg (by decide)).symm.trans E
      have E := (if_pos rfl).symm.trans E
      refine ea_iload (pc := 5) dX5_scanWord_5 3 rfl ?_
      refine ea_aload_n (pc := 7) dX5_scanWord_7 rfl 0 rfl ?_
      refine ea_getI (pc := 8) dX5_scanWord_8 ec_5 (k := 0) (Nat.le_of_ble_eq_true rfl) rfl (Or.inl ew_291) (hs.1 22 (by decide)).1 (hs.1 22 (by decide)).2.1 ?_
      refine ea_icmp_ge (pc := 11) (tgt := 62) dX5_scanWord_11 rfl (fun c6 => ?_) (fun c6 => ?_)
      · have E := (if_pos c6).symm.trans E
        refine ea_bipush (pc := 62) dX5_scanWord_62 (v := 20) rfl ?_
        refine ea_istore (pc := 64) (lv' := [(0, vR (some (b0 + 22))), (1, vI x1), (2, vJ y2), (4, vI x4), (5, vI 20)]) dX5_scanWord_64 (Nat.le_of_ble_eq_true rfl) [1, 2, 3, 4, 0] rfl ?_
        refine ea_iconst (pc := 66) dX5_scanWord_66 (v := 0) rfl ?_
        refine ea_istore (pc := 67) (lv' := [(0, vR (some (b0 + 22))), (1, vI x1), (2, vJ y2), (4, vI x4), (5, vI 20), (6, vI 0)]) dX5_scanWord_67 (Nat.le_of_ble_eq_true rfl) [1, 2, 3, 4, 5, 0] rfl ?_
        exact ((ih 69 (x1 : Int32) (x4 : Int32) (20 : Int32) (0 : Int32) (y2 : Int64) h _ _ E hs).2.2 rfl)
      · have E := (if_neg c6).symm.trans E
        refine ea_aload_n (pc := 14) dX5_scanWord_14 rfl 0 rfl ?_
        refine ea_getR (pc := 15) dX5_scanWord_15 ec_5 (k := 3) (Nat.le_of_ble_eq_true rfl) rfl (Or.inl ew_297) (hs.1 22 (by decide)).1 (hs.1 22 (by decide)).2.1 (hs.2 22 3 rfl) ?_
        refine ea_iload (pc := 18) dX5_scanWord_18 3 rfl ?_
        obtain ⟨z1, E⟩ := gd_some E
        refine ea_iald (pc := 20) dX5_scanWord_20 (hs.1 23 (by decide)).1 (hs.1 23 (by decide)).2.1 (ea_vpl (hs.1 23 (by decide)).2.2 z1) ?_
        refine ea_callS (pc := 21) (d' := d - 1) (As := [vI (ea_i h (b0 + 23) (Int32.toNatClampNeg x4))]) (st := []) dX5_scanWord_21 kX5_isLetter (sX5_isLetter (d := d - 1) (by omega)) (by omega) rfl (Nat.le_of_ble_eq_true rfl) ew_761 ew_762 ?_
        refine ea_if_eq (pc := 24) (tgt := 62) dX5_scanWord_24 rfl (fun c5 => ?_) (fun c5 => ?_)
        · have E := (if_pos c5).symm.trans E
          refine ea_bipush (pc := 62) dX5_scanWord_62 (v := 20) rfl ?_
          refine ea_istore (pc := 64) (lv' := [(0, vR (some (b0 + 22))), (1, vI x1), (2, vJ y2), (4, vI x4), (5, vI 20)]) dX5_scanWord_64 (Nat.le_of_ble_eq_true rfl) [1, 2, 3, 4, 0] rfl ?_
          refine ea_iconst (pc := 66) dX5_scanWord_66 (v := 0) rfl ?_
          refine ea_istore (pc := 67) (lv' := [(0, vR (some (b0 + 22))), (1, vI x1), (2, vJ y2), (4, vI x4), (5, vI 20), (6, vI 0)]) dX5_scanWord_67 (Nat.le_of_ble_eq_true rfl) [1, 2, 3, 4, 5, 0] rfl ?_
          exact ((ih 69 (x1 : Int32) (x4 : Int32) (20 : Int32) (0 : Int32) (y2 : Int64) h _ _ E hs).2.2 rfl)
        · have E := (if_neg c5).symm.trans E
          refine ea_iload (pc := 27) dX5_scanWord_27 3 rfl ?_
          refine ea_iload_n (pc := 29) dX5_scanWord_29 rfl 1 rfl ?_
          refine ea_isub (pc := 30) dX5_scanWord_30 ?_
          refine ea_bipush (pc := 31) dX5_scanWord_31 (v := 6) rfl ?_
          refine ea_icmp_ge (pc := 33) (tgt := 52) dX5_scanWord_33 rfl (fun c4 => ?_) (fun c4 => ?_)
          · have E := (if_pos c4).symm.trans E
            refine ea_ldc2 (pc := 52) dX5_scanWord_52 ew_768 ?_
            refine ea_lstore_n (pc := 55) (lv' := [(0, vR (some (b0 + 22))), (1, vI x1), (2, vJ (-1)), (4, vI x4)]) dX5_scanWord_55 rfl (Nat.le_of_ble_eq_true rfl) [1, 2, 0, 3] rfl ?_
            refine ea_iinc (pc := 56) (v := 1) (lv' := [(0, vR (some (b0 + 22))), (1, vI x1), (2, vJ (-1)), (4, vI (x4 + (1 : Int32)))]) dX5_scanWord_56 3 rfl rfl (Nat.le_of_ble_eq_true rfl) [1, 2, 3, 0] rfl ?_
            refine ea_goto (pc := 59) (tgt := 5) dX5_scanWord_59 rfl ?_
            exact ((ih 5 (x1 : Int32) ((x4 + (1 : Int32)) : Int32) 0 0 ((-1) : Int64) h _ _ E hs).2.1 rfl)
          · have E := (if_neg c4).symm.trans E
            refine ea_lload_n (pc := 36) dX5_scanWord_36 rfl 2 rfl ?_
            refine ea_bipush (pc := 37) dX5_scanWord_37 (v := 8) rfl ?_
            refine ea_lshl (pc := 39) dX5_scanWord_39 ?_
            refine ea_aload_n (pc := 40) dX5_scanWord_40 rfl 0 rfl ?_
            refine ea_getR (pc := 41) dX5_scanWord_41 ec_5 (k := 3) (Nat.le_of_ble_eq_true rfl) rfl (Or.inl ew_297) (hs.1 22 (by decide)).1 (hs.1 22 (by decide)).2.1 (hs.2 22 3 rfl) ?_
            refine ea_iload (pc := 44) dX5_scanWord_44 3 rfl ?_
            obtain ⟨z3, E⟩ := gd_some E
            refine ea_iald (pc := 46) dX5_scanWord_46 (hs.1 23 (by decide)).1 (hs.1 23 (by decide)).2.1 (ea_vpl (hs.1 23 (by decide)).2.2 z3) ?_
            refine ea_i2l (pc := 47) dX5_scanWord_47 ?_
            refine ea_lor (pc := 48) dX5_scanWord_48 ?_
            refine ea_goto (pc := 49) (tgt := 55) dX5_scanWord_49 rfl ?_
            refine ea_lstore_n (pc := 55) (lv' := [(0, vR (some (b0 + 22))), (1, vI x1), (2, vJ ((y2 <<< (Int32.toInt64 8 &&& 63)) ||| (Int32.toInt64 (ea_i h (b0 + 23) (Int32.toNatClampNeg x4))))), (4, vI x4)]) dX5_scanWord_55 rfl (Nat.le_of_ble_eq_true rfl) [1, 2, 0, 3] rfl ?_
            refine ea_iinc (pc := 56) (v := 1) (lv' := [(0, vR (some (b0 + 22))), (1, vI x1), (2, vJ ((y2 <<< (Int32.toInt64 8 &&& 63)) ||| (Int32.toInt64 (ea_i h (b0 + 23) (Int32.toNatClampNeg x4))))), (4, vI (x4 + (1 : Int32)))]) dX5_scanWord_56 3 rfl rfl (Nat.le_of_ble_eq_true rfl) [1, 2, 3, 0] rfl ?_
            refine ea_goto (pc := 59) (tgt := 5) dX5_scanWord_59 rfl ?_
            exact ((ih 5 (x1 : Int32) ((x4 + (1 : Int32)) : Int32) 0 0 (((y2 <<< (Int32.toInt64 8 &&& 63)) ||| (Int32.toInt64 (ea_i h (b0 + 23) (Int32.toNatClampNeg x4)))) : Int64) h _ _ E hs).2.1 rfl)
    intro el
    subst el
    have E := (if_neg (by decide)).symm.trans E
    have E := (if_neg (by decide)).symm.trans E
    have E := (if_pos rfl).symm.trans E
    refine ea_iload (pc := 69) dX5_scanWord_69 5 rfl ?_
    cases E
noncomputable def qX5_scanWord (b0 : Nat) (x1 : Int32) (h : ea_H) : Option (Int32 × ea_H) := gX5_scanWord b0 1000000000 0 x1 0 0 0 0 h
def okX5_scanWord (b0 : Nat) (x1 : Int32) (h : ea_H) : Prop := ∃ x, qX5_scanWord b0 x1 h = some x
noncomputable def vX5_scanWord (b0 : Nat) (x1 : Int32) (h : ea_H) : Int32 := ((qX5_scanWord b0 x1 h).getD (0, h)).1
noncomputable def wX5_scanWord (b0 : Nat) (x1 : Int32) (h : ea_H) : ea_H := ((qX5_scanWord b0 x1 h).getD (0, h)).2
theorem sX5_scanWord {d : Nat} {b0 : Nat} {x1 : Int32} {h : ea_H} (hd : 2 ≤ d) (hs : ShC b0 h) (K : okX5_scanWord b0 x1 h) : ea_Met mX5_scanWord d [vR (some (b0 + 22)), vI x1] h (some (vI (vX5_scanWord b0 x1 h))) (wX5_scanWord b0 x1 h) := by
  obtain ⟨⟨x, y⟩, K⟩ := K
  unfold wX5_scanWord vX5_scanWord
  rw [K]
  unfold qX5_scanWord at K
  exact ea_enter rfl (Nat.le_of_ble_eq_true rfl) ((tX5_scanWord hd 1000000000 0 x1 0 0 0 0 h x y K hs).1 rfl)
theorem zX5_scanWord {b0 : Nat} : ∀ (f lbl : Nat) (x1 : Int32) (x4 : Int32) (x5 : Int32) (x6 : Int32) (y2 : Int64) (h : ea_H) (r : Int32) (h' : ea_H), gX5_scanWord b0 f lbl x1 x4 x5 x6 y2 h = some (r, h') → ShC b0 h → ShC b0 h' := by
  intro f
  induction f with
  | zero => intro lbl x1 x4 x5 x6 y2 h r h' E; cases E
  | succ f ih =>
    intro lbl x1 x4 x5 x6 y2 h r h' E hs
    unfold gX5_scanWord at E
    by_cases el0 : lbl = 0
    · have E := (if_pos el0).symm.trans E
      exact ih 5 (x1 : Int32) (x1 : Int32) 0 0 (0 : Int64) h _ _ E hs
    have E := (if_neg el0).symm.trans E
    by_cases el1 : lbl = 5
    · have E := (if_pos el1).symm.trans E
      by_cases c6 : (ea_i h (b0 + 22) 0) ≤ x4
      · have E := (if_pos c6).symm.trans E
        exact ih 69 (x1 : Int32) (x4 : Int32) (20 : Int32) (0 : Int32) (y2 : Int64) h _ _ E hs
      have E := (if_neg c6).symm.trans E
      obtain ⟨z1, E⟩ := gd_some E
      by_cases c5 : (vX5_isLetter ((ea_i h (b0 + 23) (Int32.toNatClampNeg x4)) : Int32) h) = (0 : Int32)
      · have E := (if_pos c5).symm.trans E
        exact ih 69 (x1 : Int32) (x4 : Int32) (20 : Int32) (0 : Int32) (y2 : Int64) h _ _ E hs
      have E := (if_neg c5).symm.trans E
      by_cases c4 : (6 : Int32) ≤ (x4 - x1)
      · have E := (if_pos c4).symm.trans E
        exact ih 5 (x1 : Int32) ((x4 + (1 : Int32)) : Int32) 0 0 ((-1) : Int64) h _ _ E hs
      have E := (if_neg c4).symm.trans E
      obtain ⟨z3, E⟩ := gd_some E
      exact ih 5 (x1 : Int32) ((x4 + (1 : Int32)) : Int32) 0 0 (((y2 <<< (Int32.toInt64 8 &&& 63)) ||| (Int32.toInt64 (ea_i h (b0 + 23) (Int32.toNatClampNeg x4)))) : Int64) h _ _ E hs
    have E := (if_neg el1).symm.trans E
    by_cases el2 : lbl = 69
    · have E := (if_pos el2).symm.trans E
      cases E
    have E := (if_neg el2).symm.trans E
    cases E
theorem shX5_scanWord {b0 : Nat} {x1 : Int32} {h : ea_H} (hs : ShC b0 h) : ShC b0 (wX5_scanWord b0 x1 h) := by
  unfold wX5_scanWord
  cases K : qX5_scanWord b0 x1 h with
  | none => exact hs
  | some x => obtain ⟨x, y⟩ := x; unfold qX5_scanWord at K; exact zX5_scanWord _ _ _ _ _ _ _ _ _ _ K hs
noncomputable def gX5_scanNumber (b0 : Nat) : Nat → Nat → Int32 → Int32 → Int32 → ea_H → Option (Int32 × ea_H)
  | 0, _, _, _, _, _ => none
  | f + 1, lbl, x1, x2, x3, h =>
    if lbl = 0 then (gX5_scanNumber b0 f 4 (x1 : Int32) (0 : Int32) (x1 : Int32) h) else
    if lbl = 4 then (if (ea_i h (b0 + 22) 0) ≤ x3 then (gX5_scanNumber b0 f 56 (x1 : Int32) (x2 : Int32) (x3 : Int32) h) else (gd (vp_in x3 600) (if (vX5_isDigit ((ea_i h (b0 + 23) (Int32.toNatClampNeg x3)) : Int32) h) = (0 : Int32) then (gX5_scanNumber b0 f 56 (x1 : Int32) (x2 : Int32) (x3 : Int32) h) else (if (4 : Int32) ≤ (x3 - x1) then (gX5_scanNumber b0 f 4 (x1 : Int32) ((-1) : Int32) ((x3 + (1 : Int32)) : Int32) h) else (gd (vp_in x3 600) (gX5_scanNumber b0 f 4 (x1 : Int32) ((((x2 * (10 : Int32)) + (ea_i h (b0 + 23) (Int32.toNatClampNeg x3))) - (48 : Int32)) : Int32) ((x3 + (1 : Int32)) : Int32) h)))))) else
    if lbl = 56 then (if x2 = ((-1) : Int32) then (gd ((okX5_addToken b0 (20 : Int32) (x1 : Int32) (x2 : Int32) h)) (some ((x3 - (1 : Int32)), (wX5_addToken b0 (20 : Int32) (x1 : Int32) (x2 : Int32) h)))) else (gd ((okX5_addToken b0 (18 : Int32) (x1 : Int32) (x2 : Int32) h)) (some ((x3 - (1 : Int32)), (wX5_addToken b0 (18 : Int32) (x1 : Int32) (x2 : Int32) h))))) else none
theorem tX5_scanNumber {d : Nat} {b0 : Nat} {h0 : ea_H} (hd : 2 ≤ d) : ∀ (f lbl : Nat) (x1 : Int32) (x2 : Int32) (x3 : Int32) (h : ea_H) (r : Int32) (h' : ea_H), gX5_scanNumber b0 f lbl x1 x2 x3 h = some (r, h') → ShC b0 h → (lbl = 0 → ea_W mX5_scanNumber d h0 (some (vI r)) h' 0 [(0, vR (some (b0 + 22))), (1, vI x1)] [] h) ∧ (lbl = 4 → ea_W mX5_scanNumber d h0 (some (vI r)) h' 4 [(0, vR (some (b0 + 22))), (1, vI x1), (2, vI x2), (3, vI x3)] [] h) ∧ (lbl = 56 → ea_W mX5_scanNumber d h0 (some (vI r)) h' 56 [(0, vR (some (b0 + 22))), (1, vI x1), (2, vI x2), (3, vI x3)] [] h) := by
  intro f
  induction f with
  | zero => intro lbl x1 x2 x3 h r h' E; cases E
  | succ f ih =>
    intro lbl x1 x2 x3 h r h' E hs
    unfold gX5_scanNumber at E
    refine ⟨?_, ?_⟩
    · intro el
      subst el
      have E := (if_pos rfl).symm.trans E
      refine ea_iconst (pc := 0) dX5_scanNumber_0 (v := 0) rfl ?_
      refine ea_istore_n (pc := 1) (lv' := [(0, vR (some (b0 + 22))), (1, vI x1), (2, vI 0)]) dX5_scanNumber_1 rfl (Nat.le_of_ble_eq_true rfl) [1, 2, 0] rfl ?_
      refine ea_iload_n (pc := 2) dX5_scanNumber_2 rfl 1 rfl ?_
      refine ea_istore_n (pc := 3) (lv' := [(0, vR (some (b0 + 22))), (1, vI x1), (2, vI 0), (3, vI x1)]) dX5_scanNumber_3 rfl (Nat.le_of_ble_eq_true rfl) [1, 2, 3, 0] rfl ?_
      exact ((ih 4 (x1 : Int32) (0 : Int32) (x1 : Int32) h _ _ E hs).2.1 rfl)
    refine ⟨?_, ?_⟩
    · intro el
      subst el
      have E := (if_neg (by decide)).symm.trans E
      have E := (if_pos rfl).symm.trans E
      refine ea_iload_n (pc := 4) dX5_scanNumber_4 rfl 3 rfl ?_
      refine ea_aload_n (pc := 5) dX5_scanNumber_5 rfl 0 rfl ?_
      refine ea_getI (pc := 6) dX5_scanNumber_6 ec_5 (k := 0) (Nat.le_of_ble_eq_true rfl) rfl (Or.inl ew_291) (hs.1 22 (by decide)).1 (hs.1 22 (by decide)).2.1 ?_
      refine ea_icmp_ge (pc := 9) (tgt := 56) dX5_scanNumber_9 rfl (fun c6 => ?_) (fun c6 => ?_)
      · have E := (if_pos c6).symm.trans E
        exact ((ih 56 (x1 : Int32) (x2 : Int32) (x3 : Int32) h _ _ E hs).2.2 rfl)
      · have E := (if_neg c6).symm.trans E
        refine ea_aload_n (pc := 12) dX5_scanNumber_12 rfl 0 rfl ?_
        refine ea_getR (pc := 13) dX5_scanNumber_13 ec_5 (k := 3) (Nat.le_of_ble_eq_true rfl) rfl (Or.inl ew_297) (hs.1 22 (by decide)).1 (hs.1 22 (by decide)).2.1 (hs.2 22 3 rfl) ?_
        refine ea_iload_n (pc := 16) dX5_scanNumber_16 rfl 3 rfl ?_
        obtain ⟨z1, E⟩ := gd_some E
        refine ea_iald (pc := 17) dX5_scanNumber_17 (hs.1 23 (by decide)).1 (hs.1 23 (by decide)).2.1 (ea_vpl (hs.1 23 (by decide)).2.2 z1) ?_
        refine ea_callS (pc := 18) (d' := d - 1) (As := [vI (ea_i h (b0 + 23) (Int32.toNatClampNeg x3))]) (st := []) dX5_scanNumber_18 kX5_isDigit (sX5_isDigit (d := d - 1) (by omega)) (by omega) rfl (Nat.le_of_ble_eq_true rfl) ew_775 ew_776 ?_
        refine ea_if_eq (pc := 21) (tgt := 56) dX5_scanNumber_21 rfl (fun c5 => ?_) (fun c5 => ?_)
        · have E := (if_pos c5).symm.trans E
          exact ((ih 56 (x1 : Int32) (x2 : Int32) (x3 : Int32) h _ _ E hs).2.2 rfl)
        · have E := (if_neg c5).symm.trans E
          refine ea_iload_n (pc := 24) dX5_scanNumber_24 rfl 3 rfl ?_
          refine ea_iload_n (pc := 25) dX5_scanNumber_25 rfl 1 rfl ?_
          refine ea_isub (pc := 26) dX5_scanNumber_26 ?_
          refine ea_iconst (pc := 27) dX5_scanNumber_27 (v := 4) rfl ?_
          refine ea_icmp_ge (pc := 28) (tgt := 48) dX5_scanNumber_28 rfl (fun c4 => ?_) (fun c4 => ?_)
          · have E := (if_pos c4).symm.trans E
            refine ea_iconst (pc := 48) dX5_scanNumber_48 (v := (-1)) rfl ?_
            refine ea_istore_n (pc := 49) (lv' := [(0, vR (some (b0 + 22))), (1, vI x1), (2, vI (-1)), (3, vI x3)]) dX5_scanNumber_49 rfl (Nat.le_of_ble_eq_true rfl) [1, 2, 0, 3] rfl ?_
            refine ea_iinc (pc := 50) (v := 1) (lv' := [(0, vR (some (b0 + 22))), (1, vI x1), (2, vI (-1)), (3, vI (x3 + (1 : Int32)))]) dX5_scanNumber_50 3 rfl rfl (Nat.le_of_ble_eq_true rfl) [1, 2, 3, 0] rfl ?_
            refine ea_goto (pc := 53) (tgt := 4) dX5_scanNumber_53 rfl ?_
            exact ((ih 4 (x1 : Int32) ((-1) : Int32) ((x3 + (1 : Int32)) : Int32) h _ _ E hs).2.1 rfl)
          · have E := (if_neg c4).symm.trans E
            refine ea_iload_n (pc := 31) dX5_scanNumber_31 rfl 2 rfl ?_
            refine ea_bipush (pc := 32) dX5_scanNumber_32 (v := 10) rfl ?_
            refine ea_imul (pc := 34) dX5_scanNumber_34 ?_
            refine ea_aload_n (pc := 35) dX5_scanNumber_35 rfl 0 rfl ?_
            refine ea_getR (pc := 36) dX5_scanNumber_36 ec_5 (k := 3) (Nat.le_of_ble_eq_true rfl) rfl (Or.inl ew_297) (hs.1 22 (by decide)).1 (hs.1 22 (by decide)).2.1 (hs.2 22 3 rfl) ?_
            refine ea_iload_n (pc := 39) dX5_scanNumber_39 rfl 3 rfl ?_
            obtain ⟨z3, E⟩ := gd_some E
            refine ea_iald (pc := 40) dX5_scanNumber_40 (hs.1 23 (by decide)).1 (hs.1 23 (by decide)).2.1 (ea_vpl (hs.1 23 (by decide)).2.2 z3) ?_
            refine ea_iadd (pc := 41) dX5_scanNumber_41 ?_
            refine ea_bipush (pc := 42) dX5_scanNumber_42 (v := 48) rfl ?_
            refine ea_isub (pc := 44) dX5_scanNumber_44 ?_
            refine ea_goto (pc := 45) (tgt := 49) dX5_scanNumber_45 rfl ?_
            refine ea_istore_n (pc := 49) (lv' := [(0, vR (some (b0 + 22))), (1, vI x1), (2, vI (((x2 * (10 : Int32)) + (ea_i h (b0 + 23) (Int32.toNatClampNeg x3))) - (48 : Int32))), (3, vI x3)]) dX5_scanNumber_49 rfl (Nat.le_of_ble_eq_true rfl) [1, 2, 0, 3] rfl ?_
            refine ea_iinc (pc := 50) (v := 1) (lv' := [(0, vR (some (b0 + 22))), (1, vI x1), (2, vI (((x2 * (10 : Int32)) + (ea_i h (b0 + 23) (Int32.toNatClampNeg x3))) - (48 : Int32))), (3, vI (x3 + (1 : Int32)))]) dX5_scanNumber_50 3 rfl rfl (Nat.le_of_ble_eq_true rfl) [1, 2, 3, 0] rfl ?_
            refine ea_goto (pc := 53) (tgt := 4) dX5_scanNumber_53 rfl ?_
            exact ((ih 4 (x1 : Int32) ((((x2 * (10 : Int32)) + (ea_i h (b0 + 23) (Int32.toNatClampNeg x3))) - (48 : Int32)) : Int32) ((x3 + (1 : Int32)) : Int32) h _ _ E hs).2.1 rfl)
    intro el
    subst el
    have E := (if_neg (by decide)).symm.trans E
    have E := (if_neg (by decide)).symm.trans E
    have E := (if_pos rfl).symm.trans E
    refine ea_aload_n (pc := 56) dX5_scanNumber_56 rfl 0 rfl ?_
    refine ea_iload_n (pc := 57) dX5_scanNumber_57 rfl 2 rfl ?_
    refine ea_iconst (pc := 58) dX5_scanNumber_58 (v := (-1)) rfl ?_
    refine ea_icmp_ne (pc := 59) (tgt := 67) dX5_scanNumber_59 rfl (fun c11 => ?_) (fun c11 => ?_)
    · have E := (if_neg c11).symm.trans E
      refine ea_bipush (pc := 67) dX5_scanNumber_67 (v := 18) rfl ?_
      refine ea_iload_n (pc := 69) dX5_scanNumber_69 rfl 1 rfl ?_
      refine ea_iload_n (pc := 70) dX5_scanNumber_70 rfl 2 rfl ?_
      obtain ⟨z7, E⟩ := gd_some E
      refine ea_callV (pc := 71) (d' := d - 1) (As := [vI 18, vI x1, vI x2]) (st := []) dX5_scanNumber_71 kX5_addToken (sX5_addToken (d := d - 1) (by omega) hs z7) (by omega) rfl (Nat.le_of_ble_eq_true rfl) ew_771 ew_773 ew_18 (ci := 5) rfl (by decide) (hs.1 22 (by decide)).1 (hs.1 22 (by decide)).2.1 ?_
      have hs8 : ShC b0 (wX5_addToken b0 (18 : Int32) (x1 : Int32) (x2 : Int32) h) := shX5_addToken hs
      refine ea_iload_n (pc := 74) dX5_scanNumber_74 rfl 3 rfl ?_
      refine ea_iconst (pc := 75) dX5_scanNumber_75 (v := 1) rfl ?_
      refine ea_isub (pc := 76) dX5_scanNumber_76 ?_
      cases E
      exact ea_ireturn (pc := 77) dX5_scanNumber_77 rfl rfl
    · have E := (if_pos c11).symm.trans E
      refine ea_bipush (pc := 62) dX5_scanNumber_62 (v := 20) rfl ?_
      refine ea_goto (pc := 64) (tgt := 69) dX5_scanNumber_64 rfl ?_
      refine ea_iload_n (pc := 69) dX5_scanNumber_69 rfl 1 rfl ?_
      refine ea_iload_n (pc := 70) dX5_scanNumber_70 rfl 2 rfl ?_
      obtain ⟨z9, E⟩ := gd_some E
      refine ea_callV (pc := 71) (d' := d - 1) (As := [vI 20, vI x1, vI x2]) (st := []) dX5_scanNumber_71 kX5_addToken (sX5_addToken (d := d - 1) (by omega) hs z9) (by omega) rfl (Nat.le_of_ble_eq_true rfl) ew_771 ew_773 ew_18 (ci := 5) rfl (by decide) (hs.1 22 (by decide)).1 (hs.1 22 (by decide)).2.1 ?_
      have hs10 : ShC b0 (wX5_addToken b0 (20 : Int32) (x1 : Int32) (x2 : Int32) h) := shX5_addToken hs
      refine ea_iload_n (pc := 74) dX5_scanNumber_74 rfl 3 rfl ?_
      refine ea_iconst (pc := 75) dX5_scanNumber_75 (v := 1) rfl ?_
      refine ea_isub (pc := 76) dX5_scanNumber_76 ?_
      cases E
      exact ea_ireturn (pc := 77) dX5_scanNumber_77 rfl rfl
noncomputable def qX5_scanNumber (b0 : Nat) (x1 : Int32) (h : ea_H) : Option (Int32 × ea_H) := gX5_scanNumber b0 1000000000 0 x1 0 0 h
def okX5_scanNumber (b0 : Nat) (x1 : Int32) (h : ea_H) : Prop := ∃ x, qX5_scanNumber b0 x1 h = some x
noncomputable def vX5_scanNumber (b0 : Nat) (x1 : Int32) (h : ea_H) : Int32 := ((qX5_scanNumber b0 x1 h).getD (0, h)).1
noncomputable def wX5_scanNumber (b0 : Nat) (x1 : Int32) (h : ea_H) : ea_H := ((qX5_scanNumber b0 x1 h).getD (0, h)).2
theorem sX5_scanNumber {d : Nat} {b0 : Nat} {x1 : Int32} {h : ea_H} (hd : 2 ≤ d) (hs : ShC b0 h) (K : okX5_scanNumber b0 x1 h) : ea_Met mX5_scanNumber d [vR (some (b0 + 22)), vI x1] h (some (vI (vX5_scanNumber b0 x1 h))) (wX5_scanNumber b0 x1 h) := by
  obtain ⟨⟨x, y⟩, K⟩ := K
  unfold wX5_scanNumber vX5_scanNumber
  rw [K]
  unfold qX5_scanNumber at K
  exact ea_enter rfl (Nat.le_of_ble_eq_true rfl) ((tX5_scanNumber hd 1000000000 0 x1 0 0 h x y K hs).1 rfl)
theorem zX5_scanNumber {b0 : Nat} : ∀ (f lbl : Nat) (x1 : Int32) (x2 : Int32) (x3 : Int32) (h : ea_H) (r : Int32) (h' : ea_H), gX5_scanNumber b0 f lbl x1 x2 x3 h = some (r, h') → ShC b0 h → ShC b0 h' := by
  intro f
  induction f with
  | zero => intro lbl x1 x2 x3 h r h' E; cases E
  | succ f ih =>
    intro lbl x1 x2 x3 h r h' E hs
    unfold gX5_scanNumber at E
    by_cases el0 : lbl = 0
    · have E := (if_pos el0).symm.trans E
      exact ih 4 (x1 : Int32) (0 : Int32) (x1 : Int32) h _ _ E hs
    have E := (if_neg el0).symm.trans E
    by_cases el1 : lbl = 4
    · have E := (if_pos el1).symm.trans E
      by_cases c6 : (ea_i h (b0 + 22) 0) ≤ x3
      · have E := (if_pos c6).symm.trans E
        exact ih 56 (x1 : Int32) (x2 : Int32) (x3 : Int32) h _ _ E hs
      have E := (if_neg c6).symm.trans E
      obtain ⟨z1, E⟩ := gd_some E
      by_cases c5 : (vX5_isDigit ((ea_i h (b0 + 23) (Int32.toNatClampNeg x3)) : Int32) h) = (0 : Int32)
      · have E := (if_pos c5).symm.trans E
        exact ih 56 (x1 : Int32) (x2 : Int32) (x3 : Int32) h _ _ E hs
      have E := (if_neg c5).symm.trans E
      by_cases c4 : (4 : Int32) ≤ (x3 - x1)
      · have E := (if_pos c4).symm.trans E
        exact ih 4 (x1 : Int32) ((-1) : Int32) ((x3 + (1 : Int32)) : Int32) h _ _ E hs
      have E := (if_neg c4).symm.trans E
      obtain ⟨z3, E⟩ := gd_some E
      exact ih 4 (x1 : Int32) ((((x2 * (10 : Int32)) + (ea_i h (b0 + 23) (Int32.toNatClampNeg x3))) - (48 : Int32)) : Int32) ((x3 + (1 : Int32)) : Int32) h _ _ E hs
    have E := (if_neg el1).symm.trans E
    by_cases el2 : lbl = 56
    · have E := (if_pos el2).symm.trans E
      by_cases c11 : x2 = ((-1) : Int32)
      · have E := (if_pos c11).symm.trans E
        obtain ⟨z9, E⟩ := gd_some E
        cases E
        exact (shX5_addToken hs)
      have E := (if_neg c11).symm.trans E
      obtain ⟨z7, E⟩ := gd_some E
      cases E
      exact (shX5_addToken hs)
    have E := (if_neg el2).symm.trans E
    cases E
theorem shX5_scanNumber {b0 : Nat} {x1 : Int32} {h : ea_H} (hs : ShC b0 h) : ShC b0 (wX5_scanNumber b0 x1 h) := by
  unfold wX5_scanNumber
  cases K : qX5_scanNumber b0 x1 h with
  | none => exact hs
  | some x => obtain ⟨x, y⟩ := x; unfold qX5_scanNumber at K; exact zX5_scanNumber _ _ _ _ _ _ _ _ K hs
noncomputable def wX7_init (b0 : Nat) (a0 : Nat) (x1 : Int32) (x2 : Int32) (x3 : Int32) (h : ea_H) : ea_H := (ShC_wd b0 (ea_new (ea_wi (ea_wi h a0 0 x1) a0 1 x2) 20 (Int32.toNatClampNeg (vJ9_max_7cf53 (x3 : Int32) (0 : Int32) (ea_wi (ea_wi h a0 0 x1) a0 1 x2))) (Int32.toNatClampNeg (vJ9_max_7cf53 (x3 : Int32) (0 : Int32) (ea_wi (ea_wi h a0 0 x1) a0 1 x2)))) a0 4 (some (ea_n (ea_wi (ea_wi h a0 0 x1) a0 1 x2))))
def okX7_init (b0 : Nat) (a0 : Nat) (x1 : Int32) (x2 : Int32) (x3 : Int32) (h : ea_H) : Prop := (a0 < ea_n h ∧ ea_c h a0 = 7) ∧ ((a0 < ea_n (ea_wi h a0 0 x1) ∧ ea_c (ea_wi h a0 0 x1) a0 = 7) ∧ ((¬ (vJ9_max_7cf53 (x3 : Int32) (0 : Int32) (ea_wi (ea_wi h a0 0 x1) a0 1 x2)) < 0) ∧ ((Int32.toNatClampNeg (vJ9_max_7cf53 (x3 : Int32) (0 : Int32) (ea_wi (ea_wi h a0 0 x1) a0 1 x2))) * 4 ≤ 536870912 ∧ ((a0 < ea_n (ea_new (ea_wi (ea_wi h a0 0 x1) a0 1 x2) 20 (Int32.toNatClampNeg (vJ9_max_7cf53 (x3 : Int32) (0 : Int32) (ea_wi (ea_wi h a0 0 x1) a0 1 x2))) (Int32.toNatClampNeg (vJ9_max_7cf53 (x3 : Int32) (0 : Int32) (ea_wi (ea_wi h a0 0 x1) a0 1 x2)))) ∧ ea_c (ea_new (ea_wi (ea_wi h a0 0 x1) a0 1 x2) 20 (Int32.toNatClampNeg (vJ9_max_7cf53 (x3 : Int32) (0 : Int32) (ea_wi (ea_wi h a0 0 x1) a0 1 x2))) (Int32.toNatClampNeg (vJ9_max_7cf53 (x3 : Int32) (0 : Int32) (ea_wi (ea_wi h a0 0 x1) a0 1 x2)))) a0 = 7) ∧ (ShC_far b0 a0)))))
theorem shX7_init {b0 : Nat} {a0 : Nat} {x1 : Int32} {x2 : Int32} {x3 : Int32} {h : ea_H} (hs : ShC b0 h) : ShC b0 (wX7_init b0 a0 x1 x2 x3 h) := (ShC_wd_sh (ShC_new (ShC_wi (ShC_wi hs))))
theorem sX7_init {d : Nat} {b0 : Nat} {a0 : Nat} {x1 : Int32} {x2 : Int32} {x3 : Int32} {h : ea_H} (hd : 2 ≤ d) (hs : ShC b0 h) (K : okX7_init b0 a0 x1 x2 x3 h) : ea_Met mX7_init d [vR (some a0), vI x1, vI x2, vI x3] h none (wX7_init b0 a0 x1 x2 x3 h) := by
  obtain ⟨Y, EY⟩ : ∃ z, z = wX7_init b0 a0 x1 x2 x3 h := ⟨_, rfl⟩
  rw [← EY]
  unfold wX7_init at EY
  unfold okX7_init at K
  refine ea_enter rfl (Nat.le_of_ble_eq_true rfl) ?_
  refine ea_aload_n (pc := 0) dX7_init_0 rfl 0 rfl ?_
  refine ea_objInit (pc := 1) dX7_init_1 ew_1237 ew_134 ew_135 (by omega) (Nat.le_of_ble_eq_true rfl) ?_
  refine ea_aload_n (pc := 4) dX7_init_4 rfl 0 rfl ?_
  refine ea_iload_n (pc := 5) dX7_init_5 rfl 1 rfl ?_
  obtain ⟨f1, K⟩ := K
  refine ea_putI (pc := 6) dX7_init_6 ec_7 (k := 0) (Nat.le_of_ble_eq_true rfl) rfl (Or.inr ⟨rfl, rfl, rfl, ew_1239⟩) rfl rfl f1.1 f1.2 ?_
  have hs2 : ShC b0 (ea_wi h a0 0 x1) := ShC_wi hs
  refine ea_aload_n (pc := 9) dX7_init_9 rfl 0 rfl ?_
  refine ea_iload_n (pc := 10) dX7_init_10 rfl 2 rfl ?_
  obtain ⟨f3, K⟩ := K
  refine ea_putI (pc := 11) dX7_init_11 ec_7 (k := 1) (Nat.le_of_ble_eq_true rfl) rfl (Or.inr ⟨rfl, rfl, rfl, ew_1241⟩) rfl rfl f3.1 f3.2 ?_
  have hs4 : ShC b0 (ea_wi (ea_wi h a0 0 x1) a0 1 x2) := ShC_wi hs2
  refine ea_aload_n (pc := 14) dX7_init_14 rfl 0 rfl ?_
  refine ea_iload_n (pc := 15) dX7_init_15 rfl 3 rfl ?_
  refine ea_iconst (pc := 16) dX7_init_16 (v := 0) rfl ?_
  refine ea_callS (pc := 17) (d' := d - 1) (As := [vI x3, vI 0]) (st := [vR (some a0)]) dX7_init_17 kJ9_max_7cf53 (sJ9_max_7cf53 (d := d - 1) (by omega)) (by omega) rfl (Nat.le_of_ble_eq_true rfl) ew_1238 ew_1022 ?_
  obtain ⟨z7, z8, K⟩ := K
  refine ea_newI (pc := 20) (N := (Int32.toNatClampNeg (vJ9_max_7cf53 (x3 : Int32) (0 : Int32) (ea_wi (ea_wi h a0 0 x1) a0 1 x2)))) dX7_init_20 ew_170 z7 rfl z8 ?_
  have hs6 : ShC b0 (ea_new (ea_wi (ea_wi h a0 0 x1) a0 1 x2) 20 (Int32.toNatClampNeg (vJ9_max_7cf53 (x3 : Int32) (0 : Int32) (ea_wi (ea_wi h a0 0 x1) a0 1 x2))) (Int32.toNatClampNeg (vJ9_max_7cf53 (x3 : Int32) (0 : Int32) (ea_wi (ea_wi h a0 0 x1) a0 1 x2)))) := ShC_new hs4
  obtain ⟨f9, zf11⟩ := K
  refine ea_putR (pc := 22) dX7_init_22 ec_7 (k := 4) (Nat.le_of_ble_eq_true rfl) rfl (Or.inr ⟨rfl, rfl, rfl, ew_1247⟩) f9.1 f9.2 ?_
  refine ea_nm (ShC_wdeq zf11) ?_
  have hs10 : ShC b0 (ShC_wd b0 (ea_new (ea_wi (ea_wi h a0 0 x1) a0 1 x2) 20 (Int32.toNatClampNeg (vJ9_max_7cf53 (x3 : Int32) (0 : Int32) (ea_wi (ea_wi h a0 0 x1) a0 1 x2))) (Int32.toNatClampNeg (vJ9_max_7cf53 (x3 : Int32) (0 : Int32) (ea_wi (ea_wi h a0 0 x1) a0 1 x2)))) a0 4 (some (ea_n (ea_wi (ea_wi h a0 0 x1) a0 1 x2)))) := ShC_wd_sh hs6
  subst EY
  exact ea_return (pc := 25) dX7_init_25 rfl
noncomputable def gX8_worth (b0 : Nat) : Nat → Nat → Option Nat → Int32 → Int32 → Int32 → Int32 → ea_H → Option (Int32 × ea_H)
  | 0, _, _, _, _, _, _, _ => none
  | f + 1, lbl, r1, x2, x3, x4, x5, h =>
    if lbl = 0 then (gX8_worth b0 f 5 (r1 : Option Nat) 0 (0 : Int32) (x2 : Int32) 0 h) else
    if lbl = 5 then (if x4 < (0 : Int32) then (gX8_worth b0 f 166 none 0 (x3 : Int32) 0 0 h) else (gd (r1 = some (Option.getD r1 0)) (gd (((Option.getD r1 0) < ea_n h ∧ ea_c h (Option.getD r1 0) = 20)) (if (Int32.ofNat (ea_l h (Option.getD r1 0))) ≤ x4 then (gX8_worth b0 f 166 none 0 (x3 : Int32) 0 0 h) else (gd (r1 = some (Option.getD r1 0)) (gd (((Option.getD r1 0) < ea_n h ∧ ea_c h (Option.getD r1 0) = 20)) (gd (vp_in x4 (ea_l h (Option.getD r1 0))) (if (ea_i h (Option.getD r1 0) (Int32.toNatClampNeg x4)) = ((-100) : Int32) then (gX8_worth b0 f 166 none 0 (x3 : Int32) 0 0 h) else (gd (r1 = some (Option.getD r1 0)) (gd (((Option.getD r1 0) < ea_n h ∧ ea_c h (Option.getD r1 0) = 20)) (gd (vp_in x4 (ea_l h (Option.getD r1 0))) (if (ea_i h (Option.getD r1 0) (Int32.toNatClampNeg x4)) ≤ ((-10) : Int32) then (if (ea_i h (Option.getD r1 0) (Int32.toNatClampNeg x4)) = ((-17) : Int32) then (if x3 ≤ (0 : Int32) then (gX8_worth b0 f 125 (r1 : Option Nat) 0 (x3 : Int32) (x4 : Int32) ((ea_i h (Option.getD r1 0) (Int32.toNatClampNeg x4)) : Int32) h) else (gd (vp_in (x3 - (1 : Int32)) 64) (gd (vp_in (x3 - (1 : Int32)) 64) (gX8_worth b0 f 5 (r1 : Option Nat) 0 (x3 : Int32) ((x4 + (1 : Int32)) : Int32) 0 (ea_wi h (b0 + 30) (Int32.toNatClampNeg (x3 - (1 : Int32))) ((1 : Int32) - (ea_i h (b0 + 30) (Int32.toNatClampNeg (x3 - (1 : Int32)))))))))) else (gX8_worth b0 f 125 (r1 : Option Nat) 0 (x3 : Int32) (x4 : Int32) ((ea_i h (Option.getD r1 0) (Int32.toNatClampNeg x4)) : Int32) h)) else (if (64 : Int32) ≤ x3 then (some ((0 : Int32), h)) else (if (((-1) : Int32) - (ea_i h (Option.getD r1 0) (Int32.toNatClampNeg x4))) < (7 : Int32) then (if (ea_i h (Option.getD r1 0) (Int32.toNatClampNeg x4)) < (0 : Int32) then (gd (vp_in (((-1) : Int32) - (ea_i h (Option.getD r1 0) (Int32.toNatClampNeg x4))) 7) (gd (vp_in x3 64) (gX8_worth b0 f 5 (r1 : Option Nat) 0 ((x3 + (1 : Int32)) : Int32) ((x4 + (1 : Int32)) : Int32) 0 (ea_wi h (b0 + 30) (Int32.toNatClampNeg x3) (ea_i h (b0 + 29) (Int32.toNatClampNeg (((-1) : Int32) - (ea_i h (Option.getD r1 0) (Int32.toNatClampNeg x4))))))))) else (gd (vp_in x3 64) (gX8_worth b0 f 5 (r1 : Option Nat) 0 ((x3 + (1 : Int32)) : Int32) ((x4 + (1 : Int32)) : Int32) 0 (ea_wi h (b0 + 30) (Int32.toNatClampNeg x3) (ea_i h (Option.getD r1 0) (Int32.toNatClampNeg x4)))))) else (some ((0 : Int32), h)))))))))))))))) else
    if lbl = 125 then (if x3 ≤ (1 : Int32) then (gX8_worth b0 f 5 (r1 : Option Nat) 0 (x3 : Int32) ((x4 + (1 : Int32)) : Int32) 0 h) else (gd (vp_in ((x3 + ((-1) : Int32)) - (1 : Int32)) 64) (gd (vp_in (x3 + ((-1) : Int32)) 64) (gd ((okX8_joined (x5 : Int32) ((ea_i h (b0 + 30) (Int32.toNatClampNeg ((x3 + ((-1) : Int32)) - (1 : Int32)))) : Int32) ((ea_i h (b0 + 30) (Int32.toNatClampNeg (x3 + ((-1) : Int32)))) : Int32) h)) (gd (vp_in ((x3 + ((-1) : Int32)) - (1 : Int32)) 64) (gX8_worth b0 f 5 (r1 : Option Nat) 0 ((x3 + ((-1) : Int32)) : Int32) ((x4 + (1 : Int32)) : Int32) 0 (ea_wi h (b0 + 30) (Int32.toNatClampNeg ((x3 + ((-1) : Int32)) - (1 : Int32))) (vX8_joined (x5 : Int32) ((ea_i h (b0 + 30) (Int32.toNatClampNeg ((x3 + ((-1) : Int32)) - (1 : Int32)))) : Int32) ((ea_i h (b0 + 30) (Int32.toNatClampNeg (x3 + ((-1) : Int32)))) : Int32) h)))))))) else
    if lbl = 166 then (if x3 ≤ (0 : Int32) then (some ((0 : Int32), h)) else (gd (vp_in (x3 - (1 : Int32)) 64) (some ((ea_i h (b0 + 30) (Int32.toNatClampNeg (x3 - (1 : Int32)))), h)))) else none
theorem tX8_worth {d : Nat} {b0 : Nat} {h0 : ea_H} (hd : 2 ≤ d) : ∀ (f lbl : Nat) (r1 : Option Nat) (x2 : Int32) (x3 : Int32) (x4 : Int32) (x5 : Int32) (h : ea_H) (r : Int32) (h' : ea_H), gX8_worth b0 f lbl r1 x2 x3 x4 x5 h = some (r, h') → ShC b0 h → (lbl = 0 → ea_W mX8_worth d h0 (some (vI r)) h' 0 [(0, vR (some (b0 + 21))), (1, vR r1), (2, vI x2)] [] h) ∧ (lbl = 5 → ea_W mX8_worth d h0 (some (vI r)) h' 5 [(0, vR (some (b0 + 21))), (1, vR r1), (3, vI x3), (4, vI x4)] [] h) ∧ (lbl = 125 → ea_W mX8_worth d h0 (some (vI r)) h' 125 [(0, vR (some (b0 + 21))), (1, vR r1), (3, vI x3), (4, vI x4), (5, vI x5)] [] h) ∧ (lbl = 166 → ea_W mX8_worth d h0 (some (vI r)) h' 166 [(0, vR (some (b0 + 21))), (3, vI x3)] [] h) := by
  intro f
  induction f with
  | zero => intro lbl r1 x2 x3 x4 x5 h r h' E; cases E
  | succ f ih =>
    intro lbl r1 x2 x3 x4 x5 h r h' E hs
    unfold gX8_worth at E
    refine ⟨?_, ?_⟩
    · intro el
      subst el
      have E := (if_pos rfl).symm.trans E
      refine ea_iconst (pc := 0) dX8_worth_0 (v := 0) rfl ?_
      refine ea_istore_n (pc := 1) (lv' := [(0, vR (some (b0 + 21))), (1, vR r1), (2, vI x2), (3, vI 0)]) dX8_worth_1 rfl (Nat.le_of_ble_eq_true rfl) [1, 2, 3, 0] rfl ?_
      refine ea_iload_n (pc := 2) dX8_worth_2 rfl 2 rfl ?_
      refine ea_istore (pc := 3) (lv' := [(0, vR (some (b0 + 21))), (1, vR r1), (3, vI 0), (4, vI x2)]) dX8_worth_3 (Nat.le_of_ble_eq_true rfl) [1, 2, 4, 0] rfl ?_
      exact ((ih 5 (r1 : Option Nat) 0 (0 : Int32) (x2 : Int32) 0 h _ _ E hs).2.1 rfl)
    refine ⟨?_, ?_⟩
    · intro el
      subst el
      have E := (if_neg (by decide)).symm.trans E
      have E := (if_pos rfl).symm.trans E
      refine ea_iload (pc := 5) dX8_worth_5 3 rfl ?_
      refine ea_if_lt (pc := 7) (tgt := 166) dX8_worth_7 rfl (fun c25 => ?_) (fun c25 => ?_)
      · have E := (if_pos c25).symm.trans E
        exact (ea_fewer [0, 2] rfl ((ih 166 none 0 (x3 : Int32) 0 0 h _ _ E hs).2.2.2 rfl))
      · have E := (if_neg c25).symm.trans E
        refine ea_iload (pc := 10) dX8_worth_10 3 rfl ?_
        refine ea_aload_n (pc := 12) dX8_worth_12 rfl 1 rfl ?_
        obtain ⟨e1, E⟩ := gd_some E
        obtain ⟨f2, E⟩ := gd_some E
        refine ea_deref0 e1 ?_
        refine ea_alen (pc := 13) dX8_worth_13 f2.1 f2.2 (by decide) (by decide) ?_
        refine ea_icmp_ge (pc := 14) (tgt := 166) dX8_worth_14 rfl (fun c24 => ?_) (fun c24 => ?_)
        · have E := (if_pos c24).symm.trans E
          exact (ea_fewer [0, 2] rfl ((ih 166 none 0 (x3 : Int32) 0 0 h _ _ E hs).2.2.2 rfl))
        · have E := (if_neg c24).symm.trans E
          refine ea_aload_n (pc := 17) dX8_worth_17 rfl 1 rfl ?_
          refine ea_iload (pc := 18) dX8_worth_18 3 rfl ?_
          obtain ⟨e3, E⟩ := gd_some E
          obtain ⟨f4, E⟩ := gd_some E
          obtain ⟨z5, E⟩ := gd_some E
          refine ea_deref1 e3 ?_
          refine ea_iald (pc := 20) dX8_worth_20 f4.1 f4.2 z5 ?_
          refine ea_bipush (pc := 21) dX8_worth_21 (v := (-100)) rfl ?_
          refine ea_icmp_eq (pc := 23) (tgt := 166) dX8_worth_23 rfl (fun c23 => ?_) (fun c23 => ?_)
          · have E := (if_pos c23).symm.trans E
            exact (ea_fewer [0, 2] rfl ((ih 166 none 0 (x3 : Int32) 0 0 h _ _ E hs).2.2.2 rfl))
          · have E := (if_neg c23).symm.trans E
            refine ea_aload_n (pc := 26) dX8_worth_26 rfl 1 rfl ?_
            refine ea_iload (pc := 27) dX8_worth_27 3 rfl ?_
            obtain ⟨e6, E⟩ := gd_some E
            obtain ⟨f7, E⟩ := gd_some E
            obtain ⟨z8, E⟩ := gd_some E
            refine ea_deref1 e6 ?_
            refine ea_iald (pc := 29) dX8_worth_29 f7.1 f7.2 z8 ?_
            refine ea_istore (pc := 30) (lv' := [(0, vR (some (b0 + 21))), (1, vR r1), (3, vI x3), (4, vI x4), (5, vI (ea_i h (Option.getD r1 0) (Int32.toNatClampNeg x4)))]) dX8_worth_30 (Nat.le_of_ble_eq_true rfl) [1, 2, 3, 4, 0] rfl ?_
            refine ea_iload (pc := 32) dX8_worth_32 4 rfl ?_
            refine ea_bipush (pc := 34) dX8_worth_34 (v := (-10)) rfl ?_
            refine ea_icmp_le (pc := 36) (tgt := 93) dX8_worth_36 rfl (fun c22 => ?_) (fun c22 => ?_)
            · have E := (if_pos c22).symm.trans E
              refine ea_iload (pc := 93) dX8_worth_93 4 rfl ?_
              refine ea_bipush (pc := 95) dX8_worth_95 (v := (-17)) rfl ?_
              refine ea_icmp_ne (pc := 97) (tgt := 125) dX8_worth_97 rfl (fun c13 => ?_) (fun c13 => ?_)
              · have E := (if_neg c13).symm.trans E
                exact ((ih 125 (r1 : Option Nat) 0 (x3 : Int32) (x4 : Int32) ((ea_i h (Option.getD r1 0) (Int32.toNatClampNeg x4)) : Int32) h _ _ E hs).2.2.1 rfl)
              · have E := (if_pos c13).symm.trans E
                refine ea_iload_n (pc := 100) dX8_worth_100 rfl 2 rfl ?_
                refine ea_if_le (pc := 101) (tgt := 125) dX8_worth_101 rfl (fun c12 => ?_) (fun c12 => ?_)
                · have E := (if_pos c12).symm.trans E
                  exact ((ih 125 (r1 : Option Nat) 0 (x3 : Int32) (x4 : Int32) ((ea_i h (Option.getD r1 0) (Int32.toNatClampNeg x4)) : Int32) h _ _ E hs).2.2.1 rfl)
                · have E := (if_neg c12).symm.trans E
                  refine ea_aload_n (pc := 104) dX8_worth_104 rfl 0 rfl ?_
                  refine ea_getR (pc := 105) dX8_worth_105 ec_8 (k := 4) (Nat.le_of_ble_eq_true rfl) rfl (Or.inl ew_339) (hs.1 21 (by decide)).1 (hs.1 21 (by decide)).2.1 (hs.2 21 4 rfl) ?_
                  refine ea_iload_n (pc := 108) dX8_worth_108 rfl 2 rfl ?_
                  refine ea_iconst (pc := 109) dX8_worth_109 (v := 1) rfl ?_
                  refine ea_isub (pc := 110) dX8_worth_110 ?_
                  refine ea_iconst (pc := 111) dX8_worth_111 (v := 1) rfl ?_
                  refine ea_aload_n (pc := 112) dX8_worth_112 rfl 0 rfl ?_
                  refine ea_getR (pc := 113) dX8_worth_113 ec_8 (k := 4) (Nat.le_of_ble_eq_true rfl) rfl (Or.inl ew_339) (hs.1 21 (by decide)).1 (hs.1 21 (by decide)).2.1 (hs.2 21 4 rfl) ?_
                  refine ea_iload_n (pc := 116) dX8_worth_116 rfl 2 rfl ?_
                  refine ea_iconst (pc := 117) dX8_worth_117 (v := 1) rfl ?_
                  refine ea_isub (pc := 118) dX8_worth_118 ?_
                  obtain ⟨z9, E⟩ := gd_some E
                  refine ea_iald (pc := 119) dX8_worth_119 (hs.1 30 (by decide)).1 (hs.1 30 (by decide)).2.1 (ea_vpl (hs.1 30 (by decide)).2.2 z9) ?_
                  refine ea_isub (pc := 120) dX8_worth_120 ?_
                  obtain ⟨z10, E⟩ := gd_some E
                  refine ea_iast (pc := 121) dX8_worth_121 (hs.1 30 (by decide)).1 (hs.1 30 (by decide)).2.1 (ea_vpl (hs.1 30 (by decide)).2.2 z10) ?_
                  have hs11 : ShC b0 (ea_wi h (b0 + 30) (Int32.toNatClampNeg (x3 - (1 : Int32))) ((1 : Int32) - (ea_i h (b0 + 30) (Int32.toNatClampNeg (x3 - (1 : Int32)))))) := ShC_wi hs
                  refine ea_goto (pc := 122) (tgt := 160) dX8_worth_122 rfl ?_
                  refine ea_iinc (pc := 160) (v := 1) (lv' := [(0, vR (some (b0 + 21))), (1, vR r1), (3, vI x3), (4, vI (x4 + (1 : Int32)))]) dX8_worth_160 3 rfl rfl (Nat.le_of_ble_eq_true rfl) [1, 2, 3, 0] rfl ?_
                  refine ea_goto (pc := 163) (tgt := 5) dX8_worth_163 rfl ?_
                  exact ((ih 5 (r1 : Option Nat) 0 (x3 : Int32) ((x4 + (1 : Int32)) : Int32) 0 (ea_wi h (b0 + 30) (Int32.toNatClampNeg (x3 - (1 : Int32))) ((1 : Int32) - (ea_i h (b0 + 30) (Int32.toNatClampNeg (x3 - (1 : Int32)))))) _ _ E hs11).2.1 rfl)
            · have E := (if_neg c22).symm.trans E
              refine ea_iload_n (pc := 39) dX8_worth_39 rfl 2 rfl ?_
              refine ea_aload_n (pc := 40) dX8_worth_40 rfl 0 rfl ?_
              refine ea_getR (pc := 41) dX8_worth_41 ec_8 (k := 4) (Nat.le_of_ble_eq_true rfl) rfl (Or.inl ew_339) (hs.1 21 (by decide)).1 (hs.1 21 (by decide)).2.1 (hs.2 21 4 rfl) ?_
              refine ea_alen (pc := 44) dX8_worth_44 (hs.1 30 (by decide)).1 (hs.1 30 (by decide)).2.1 (by decide) (by decide) ?_
              refine ea_tops (by rw [(hs.1 30 (by decide)).2.2]; rfl : vI (Int32.ofNat (ea_l h (b0 + 30))) = vI 64) ?_
              refine ea_icmp_ge (pc := 45) (tgt := 60) dX8_worth_45 rfl (fun c21 => ?_) (fun c21 => ?_)
              · have E := (if_pos c21).symm.trans E
                refine ea_iconst (pc := 60) dX8_worth_60 (v := 0) rfl ?_
                cases E
                exact ea_ireturn (pc := 61) dX8_worth_61 rfl rfl
              · have E := (if_neg c21).symm.trans E
                refine ea_iconst (pc := 48) dX8_worth_48 (v := (-1)) rfl ?_
                refine ea_iload (pc := 49) dX8_worth_49 4 rfl ?_
                refine ea_isub (pc := 51) dX8_worth_51 ?_
                refine ea_aload_n (pc := 52) dX8_worth_52 rfl 0 rfl ?_
                refine ea_getR (pc := 53) dX8_worth_53 ec_8 (k := 3) (Nat.le_of_ble_eq_true rfl) rfl (Or.inl ew_338) (hs.1 21 (by decide)).1 (hs.1 21 (by decide)).2.1 (hs.2 21 3 rfl) ?_
                refine ea_alen (pc := 56) dX8_worth_56 (hs.1 29 (by decide)).1 (hs.1 29 (by decide)).2.1 (by decide) (by decide) ?_
                refine ea_tops (by rw [(hs.1 29 (by decide)).2.2]; rfl : vI (Int32.ofNat (ea_l h (b0 + 29))) = vI 7) ?_
                refine ea_icmp_lt (pc := 57) (tgt := 62) dX8_worth_57 rfl (fun c20 => ?_) (fun c20 => ?_)
                · have E := (if_pos c20).symm.trans E
                  refine ea_aload_n (pc := 62) dX8_worth_62 rfl 0 rfl ?_
                  refine ea_getR (pc := 63) dX8_worth_63 ec_8 (k := 4) (Nat.le_of_ble_eq_true rfl) rfl (Or.inl ew_339) (hs.1 21 (by decide)).1 (hs.1 21 (by decide)).2.1 (hs.2 21 4 rfl) ?_
                  refine ea_iload_n (pc := 66) dX8_worth_66 rfl 2 rfl ?_
                  refine ea_iload (pc := 67) dX8_worth_67 4 rfl ?_
                  refine ea_if_lt (pc := 69) (tgt := 77) dX8_worth_69 rfl (fun c19 => ?_) (fun c19 => ?_)
                  · have E := (if_pos c19).symm.trans E
                    refine ea_aload_n (pc := 77) dX8_worth_77 rfl 0 rfl ?_
                    refine ea_getR (pc := 78) dX8_worth_78 ec_8 (k := 3) (Nat.le_of_ble_eq_true rfl) rfl (Or.inl ew_338) (hs.1 21 (by decide)).1 (hs.1 21 (by decide)).2.1 (hs.2 21 3 rfl) ?_
                    refine ea_iconst (pc := 81) dX8_worth_81 (v := (-1)) rfl ?_
                    refine ea_iload (pc := 82) dX8_worth_82 4 rfl ?_
                    refine ea_isub (pc := 84) dX8_worth_84 ?_
                    obtain ⟨z14, E⟩ := gd_some E
                    refine ea_iald (pc := 85) dX8_worth_85 (hs.1 29 (by decide)).1 (hs.1 29 (by decide)).2.1 (ea_vpl (hs.1 29 (by decide)).2.2 z14) ?_
                    obtain ⟨z15, E⟩ := gd_some E
                    refine ea_iast (pc := 86) dX8_worth_86 (hs.1 30 (by decide)).1 (hs.1 30 (by decide)).2.1 (ea_vpl (hs.1 30 (by decide)).2.2 z15) ?_
                    have hs16 : ShC b0 (ea_wi h (b0 + 30) (Int32.toNatClampNeg x3) (ea_i h (b0 + 29) (Int32.toNatClampNeg (((-1) : Int32) - (ea_i h (Option.getD r1 0) (Int32.toNatClampNeg x4)))))) := ShC_wi hs
                    refine ea_iinc (pc := 87) (v := 1) (lv' := [(0, vR (some (b0 + 21))), (1, vR r1), (3, vI (x3 + (1 : Int32))), (4, vI x4)]) dX8_worth_87 2 rfl rfl (Nat.le_of_ble_eq_true rfl) [1, 2, 0, 3] rfl ?_
                    refine ea_goto (pc := 90) (tgt := 160) dX8_worth_90 rfl ?_
                    refine ea_iinc (pc := 160) (v := 1) (lv' := [(0, vR (some (b0 + 21))), (1, vR r1), (3, vI (x3 + (1 : Int32))), (4, vI (x4 + (1 : Int32)))]) dX8_worth_160 3 rfl rfl (Nat.le_of_ble_eq_true rfl) [1, 2, 3, 0] rfl ?_
                    refine ea_goto (pc := 163) (tgt := 5) dX8_worth_163 rfl ?_
                    exact ((ih 5 (r1 : Option Nat) 0 ((x3 + (1 : Int32)) : Int32) ((x4 + (1 : Int32)) : Int32) 0 (ea_wi h (b0 + 30) (Int32.toNatClampNeg x3) (ea_i h (b0 + 29) (Int32.toNatClampNeg (((-1) : Int32) - (ea_i h (Option.getD r1 0) (Int32.toNatClampNeg x4)))))) _ _ E hs16).2.1 rfl)
                  · have E := (if_neg c19).symm.trans E
                    refine ea_iload (pc := 72) dX8_worth_72 4 rfl ?_
                    refine ea_goto (pc := 74) (tgt := 86) dX8_worth_74 rfl ?_
                    obtain ⟨z17, E⟩ := gd_some E
                    refine ea_iast (pc := 86) dX8_worth_86 (hs.1 30 (by decide)).1 (hs.1 30 (by decide)).2.1 (ea_vpl (hs.1 30 (by decide)).2.2 z17) ?_
                    have hs18 : ShC b0 (ea_wi h (b0 + 30) (Int32.toNatClampNeg x3) (ea_i h (Option.getD r1 0) (Int32.toNatClampNeg x4))) := ShC_wi hs
                    refine ea_iinc (pc := 87) (v := 1) (lv' := [(0, vR (some (b0 + 21))), (1, vR r1), (3, vI (x3 + (1 : Int32))), (4, vI x4)]) dX8_worth_87 2 rfl rfl (Nat.le_of_ble_eq_true rfl) [1, 2, 0, 3] rfl ?_
                    refine ea_goto (pc := 90) (tgt := 160) dX8_worth_90 rfl ?_
                    refine ea_iinc (pc := 160) (v := 1) (lv' := [(0, vR (some (b0 + 21))), (1, vR r1), (3, vI (x3 + (1 : Int32))), (4, vI (x4 + (1 : Int32)))]) dX8_worth_160 3 rfl rfl (Nat.le_of_ble_eq_true rfl) [1, 2, 3, 0] rfl ?_
                    refine ea_goto (pc := 163) (tgt := 5) dX8_worth_163 rfl ?_
                    exact ((ih 5 (r1 : Option Nat) 0 ((x3 + (1 : Int32)) : Int32) ((x4 + (1 : Int32)) : Int32) 0 (ea_wi h (b0 + 30) (Int32.toNatClampNeg x3) (ea_i h (Option.getD r1 0) (Int32.toNatClampNeg x4))) _ _ E hs18).2.1 rfl)
                · have E := (if_neg c20).symm.trans E
                  refine ea_iconst (pc := 60) dX8_worth_60 (v := 0) rfl ?_
                  cases E
                  exact ea_ireturn (pc := 61) dX8_worth_61 rfl rfl
    refine ⟨?_, ?_⟩
    · intro el
      subst el
      have E := (if_neg (by decide)).symm.trans E
      have E := (if_neg (by decide)).symm.trans E
      have E := (if_pos rfl).symm.trans E
      refine ea_iload_n (pc := 125) dX8_worth_125 rfl 2 rfl ?_
      refine ea_iconst (pc := 126) dX8_worth_126 (v := 1) rfl ?_
      refine ea_icmp_le (pc := 127) (tgt := 160) dX8_worth_127 rfl (fun c31 => ?_) (fun c31 => ?_)
      · have E := (if_pos c31).symm.trans E
        refine ea_iinc (pc := 160) (v := 1) (lv' := [(0, vR (some (b0 + 21))), (1, vR r1), (3, vI x3), (4, vI (x4 + (1 : Int32)))]) dX8_worth_160 3 rfl rfl (Nat.le_of_ble_eq_true rfl) [1, 2, 3, 0] rfl ?_
        refine ea_goto (pc := 163) (tgt := 5) dX8_worth_163 rfl ?_
        exact ((ih 5 (r1 : Option Nat) 0 (x3 : Int32) ((x4 + (1 : Int32)) : Int32) 0 h _ _ E hs).2.1 rfl)
      · have E := (if_neg c31).symm.trans E
        refine ea_iinc (pc := 130) (v := (-1)) (lv' := [(0, vR (some (b0 + 21))), (1, vR r1), (3, vI (x3 + ((-1) : Int32))), (4, vI x4), (5, vI x5)]) dX8_worth_130 2 rfl rfl (Nat.le_of_ble_eq_true rfl) [1, 2, 0, 3, 4] rfl ?_
        refine ea_aload_n (pc := 133) dX8_worth_133 rfl 0 rfl ?_
        refine ea_getR (pc := 134) dX8_worth_134 ec_8 (k := 4) (Nat.le_of_ble_eq_true rfl) rfl (Or.inl ew_339) (hs.1 21 (by decide)).1 (hs.1 21 (by decide)).2.1 (hs.2 21 4 rfl) ?_
        refine ea_iload_n (pc := 137) dX8_worth_137 rfl 2 rfl ?_
        refine ea_iconst (pc := 138) dX8_worth_138 (v := 1) rfl ?_
        refine ea_isub (pc := 139) dX8_worth_139 ?_
        refine ea_iload (pc := 140) dX8_worth_140 4 rfl ?_
        refine ea_aload_n (pc := 142) dX8_worth_142 rfl 0 rfl ?_
        refine ea_getR (pc := 143) dX8_worth_143 ec_8 (k := 4) (Nat.le_of_ble_eq_true rfl) rfl (Or.inl ew_339) (hs.1 21 (by decide)).1 (hs.1 21 (by decide)).2.1 (hs.2 21 4 rfl) ?_
        refine ea_iload_n (pc := 146) dX8_worth_146 rfl 2 rfl ?_
        refine ea_iconst (pc := 147) dX8_worth_147 (v := 1) rfl ?_
        refine ea_isub (pc := 148) dX8_worth_148 ?_
        obtain ⟨z26, E⟩ := gd_some E
        refine ea_iald (pc := 149) dX8_worth_149 (hs.1 30 (by decide)).1 (hs.1 30 (by decide)).2.1 (ea_vpl (hs.1 30 (by decide)).2.2 z26) ?_
        refine ea_aload_n (pc := 150) dX8_worth_150 rfl 0 rfl ?_
        refine ea_getR (pc := 151) dX8_worth_151 ec_8 (k := 4) (Nat.le_of_ble_eq_true rfl) rfl (Or.inl ew_339) (hs.1 21 (by decide)).1 (hs.1 21 (by decide)).2.1 (hs.2 21 4 rfl) ?_
        refine ea_iload_n (pc := 154) dX8_worth_154 rfl 2 rfl ?_
        obtain ⟨z27, E⟩ := gd_some E
        refine ea_iald (pc := 155) dX8_worth_155 (hs.1 30 (by decide)).1 (hs.1 30 (by decide)).2.1 (ea_vpl (hs.1 30 (by decide)).2.2 z27) ?_
        obtain ⟨z28, E⟩ := gd_some E
        refine ea_callS (pc := 156) (d' := d - 1) (As := [vI x5, vI (ea_i h (b0 + 30) (Int32.toNatClampNeg ((x3 + ((-1) : Int32)) - (1 : Int32)))), vI (ea_i h (b0 + 30) (Int32.toNatClampNeg (x3 + ((-1) : Int32))))]) (st := [vI ((x3 + ((-1) : Int32)) - (1 : Int32)), vR (some (b0 + 30))]) dX8_worth_156 kX8_joined (sX8_joined (d := d - 1) (by omega) z28) (by omega) rfl (Nat.le_of_ble_eq_true rfl) ew_1062 ew_1063 ?_
        obtain ⟨z29, E⟩ := gd_some E
        refine ea_iast (pc := 159) dX8_worth_159 (hs.1 30 (by decide)).1 (hs.1 30 (by decide)).2.1 (ea_vpl (hs.1 30 (by decide)).2.2 z29) ?_
        have hs30 : ShC b0 (ea_wi h (b0 + 30) (Int32.toNatClampNeg ((x3 + ((-1) : Int32)) - (1 : Int32))) (vX8_joined (x5 : Int32) ((ea_i h (b0 + 30) (Int32.toNatClampNeg ((x3 + ((-1) : Int32)) - (1 : Int32)))) : Int32) ((ea_i h (b0 + 30) (Int32.toNatClampNeg (x3 + ((-1) : Int32)))) : Int32) h)) := ShC_wi hs
        refine ea_iinc (pc := 160) (v := 1) (lv' := [(0, vR (some (b0 + 21))), (1, vR r1), (3, vI (x3 + ((-1) : Int32))), (4, vI (x4 + (1 : Int32)))]) dX8_worth_160 3 rfl rfl (Nat.le_of_ble_eq_true rfl) [1, 2, 3, 0] rfl ?_
        refine ea_goto (pc := 163) (tgt := 5) dX8_worth_163 rfl ?_
        exact ((ih 5 (r1 : Option Nat) 0 ((x3 + ((-1) : Int32)) : Int32) ((x4 + (1 : Int32)) : Int32) 0 (ea_wi h (b0 + 30) (Int32.toNatClampNeg ((x3 + ((-1) : Int32)) - (1 : Int32))) (vX8_joined (x5 : Int32) ((ea_i h (b0 + 30) (Int32.toNatClampNeg ((x3 + ((-1) : Int32)) - (1 : Int32)))) : Int32) ((ea_i h (b0 + 30) (Int32.toNatClampNeg (x3 + ((-1) : Int32)))) : Int32) h)) _ _ E hs30).2.1 rfl)
    intro el
    subst el
    have E := (if_neg (by decide)).symm.trans E
    have E := (if_neg (by decide)).symm.trans E
    have E := (if_neg (by decide)).symm.trans E
    have E := (if_pos rfl).symm.trans E
    refine ea_iload_n (pc := 166) dX8_worth_166 rfl 1 rfl ?_
    refine ea_if_le (pc := 167) (tgt := 181) dX8_worth_167 rfl (fun c33 => ?_) (fun c33 => ?_)
    · have E := (if_pos c33).symm.trans E
      refine ea_iconst (pc := 181) dX8_worth_181 (v := 0) rfl ?_
      cases E
      exact ea_ireturn (pc := 182) dX8_worth_182 rfl rfl
    · have E := (if_neg c33).symm.trans E
      refine ea_aload_n (pc := 170) dX8_worth_170 rfl 0 rfl ?_
      refine ea_getR (pc := 171) dX8_worth_171 ec_8 (k := 4) (Nat.le_of_ble_eq_true rfl) rfl (Or.inl ew_339) (hs.1 21 (by decide)).1 (hs.1 21 (by decide)).2.1 (hs.2 21 4 rfl) ?_
      refine ea_iload_n (pc := 174) dX8_worth_174 rfl 1 rfl ?_
      refine ea_iconst (pc := 175) dX8_worth_175 (v := 1) rfl ?_
      refine ea_isub (pc := 176) dX8_worth_176 ?_
      obtain ⟨z32, E⟩ := gd_some E
      refine ea_iald (pc := 177) dX8_worth_177 (hs.1 30 (by decide)).1 (hs.1 30 (by decide)).2.1 (ea_vpl (hs.1 30 (by decide)).2.2 z32) ?_
      refine ea_goto (pc := 178) (tgt := 182) dX8_worth_178 rfl ?_
      cases E
      exact ea_ireturn (pc := 182) dX8_worth_182 rfl rfl
noncomputable def qX8_worth (b0 : Nat) (r1 : Option Nat) (x2 : Int32) (h : ea_H) : Option (Int32 × ea_H) := gX8_worth b0 1000000000 0 r1 x2 0 0 0 h
def okX8_worth (b0 : Nat) (r1 : Option Nat) (x2 : Int32) (h : ea_H) : Prop := ∃ x, qX8_worth b0 r1 x2 h = some x
noncomputable def vX8_worth (b0 : Nat) (r1 : Option Nat) (x2 : Int32) (h : ea_H) : Int32 := ((qX8_worth b0 r1 x2 h).getD (0, h)).1
noncomputable def wX8_worth (b0 : Nat) (r1 : Option Nat) (x2 : Int32) (h : ea_H) : ea_H := ((qX8_worth b0 r1 x2 h).getD (0, h)).2
theorem sX8_worth {d : Nat} {b0 : Nat} {r1 : Option Nat} {x2 : Int32} {h : ea_H} (hd : 2 ≤ d) (hs : ShC b0 h) (K : okX8_worth b0 r1 x2 h) : ea_Met mX8_worth d [vR (some (b0 + 21)), vR r1, vI x2] h (some (vI (vX8_worth b0 r1 x2 h))) (wX8_worth b0 r1 x2 h) := by
  obtain ⟨⟨x, y⟩, K⟩ := K
  unfold wX8_worth vX8_worth
  rw [K]
  unfold qX8_worth at K
  exact ea_enter rfl (Nat.le_of_ble_eq_true rfl) ((tX8_worth hd 1000000000 0 r1 x2 0 0 0 h x y K hs).1 rfl)
theorem zX8_worth {b0 : Nat} : ∀ (f lbl : Nat) (r1 : Option Nat) (x2 : Int32) (x3 : Int32) (x4 : Int32) (x5 : Int32) (h : ea_H) (r : Int32) (h' : ea_H), gX8_worth b0 f lbl r1 x2 x3 x4 x5 h = some (r, h') → ShC b0 h → ShC b0 h' := by
  intro f
  induction f with
  | zero => intro lbl r1 x2 x3 x4 x5 h r h' E; cases E
  | succ f ih =>
    intro lbl r1 x2 x3 x4 x5 h r h' E hs
    unfold gX8_worth at E
    by_cases el0 : lbl = 0
    · have E := (if_pos el0).symm.trans E
      exact ih 5 (r1 : Option Nat) 0 (0 : Int32) (x2 : Int32) 0 h _ _ E hs
    have E := (if_neg el0).symm.trans E
    by_cases el1 : lbl = 5
    · have E := (if_pos el1).symm.trans E
      by_cases c25 : x4 < (0 : Int32)
      · have E := (if_pos c25).symm.trans E
        exact ih 166 none 0 (x3 : Int32) 0 0 h _ _ E hs
      have E := (if_neg c25).symm.trans E
      obtain ⟨e1, E⟩ := gd_some E
      obtain ⟨f2, E⟩ := gd_some E
      by_cases c24 : (Int32.ofNat (ea_l h (Option.getD r1 0))) ≤ x4
      · have E := (if_pos c24).symm.trans E
        exact ih 166 none 0 (x3 : Int32) 0 0 h _ _ E hs
      have E := (if_neg c24).symm.trans E
      obtain ⟨e3, E⟩ := gd_some E
      obtain ⟨f4, E⟩ := gd_some E
      obtain ⟨z5, E⟩ := gd_some E
      by_cases c23 : (ea_i h (Option.getD r1 0) (Int32.toNatClampNeg x4)) = ((-100) : Int32)
      · have E := (if_pos c23).symm.trans E
        exact ih 166 none 0 (x3 : Int32) 0 0 h _ _ E hs
      have E := (if_neg c23).symm.trans E
      obtain ⟨e6, E⟩ := gd_some E
      obtain ⟨f7, E⟩ := gd_some E
      obtain ⟨z8, E⟩ := gd_some E
      by_cases c22 : (ea_i h (Option.getD r1 0) (Int32.toNatClampNeg x4)) ≤ ((-10) : Int32)
      · have E := (if_pos c22).symm.trans E
        by_cases c13 : (ea_i h (Option.getD r1 0) (Int32.toNatClampNeg x4)) = ((-17) : Int32)
        · have E := (if_pos c13).symm.trans E
          by_cases c12 : x3 ≤ (0 : Int32)
          · have E := (if_pos c12).symm.trans E
            exact ih 125 (r1 : Option Nat) 0 (x3 : Int32) (x4 : Int32) ((ea_i h (Option.getD r1 0) (Int32.toNatClampNeg x4)) : Int32) h _ _ E hs
          have E := (if_neg c12).symm.trans E
          obtain ⟨z9, E⟩ := gd_some E
          obtain ⟨z10, E⟩ := gd_some E
          exact ih 5 (r1 : Option Nat) 0 (x3 : Int32) ((x4 + (1 : Int32)) : Int32) 0 (ea_wi h (b0 + 30) (Int32.toNatClampNeg (x3 - (1 : Int32))) ((1 : Int32) - (ea_i h (b0 + 30) (Int32.toNatClampNeg (x3 - (1 : Int32)))))) _ _ E (ShC_wi hs)
        have E := (if_neg c13).symm.trans E
        exact ih 125 (r1 : Option Nat) 0 (x3 : Int32) (x4 : Int32) ((ea_i h (Option.getD r1 0) (Int32.toNatClampNeg x4)) : Int32) h _ _ E hs
      have E := (if_neg c22).symm.trans E
      by_cases c21 : (64 : Int32) ≤ x3
      · have E := (if_pos c21).symm.trans E
        cases E
        exact hs
      have E := (if_neg c21).symm.trans E
      by_cases c20 : (((-1) : Int32) - (ea_i h (Option.getD r1 0) (Int32.toNatClampNeg x4))) < (7 : Int32)
      · have E := (if_pos c20).symm.trans E
        by_cases c19 : (ea_i h (Option.getD r1 0) (Int32.toNatClampNeg x4)) < (0 : Int32)
        · have E := (if_pos c19).symm.trans E
          obtain ⟨z14, E⟩ := gd_some E
          obtain ⟨z15, E⟩ := gd_some E
          exact ih 5 (r1 : Option Nat) 0 ((x3 + (1 : Int32)) : Int32) ((x4 + (1 : Int32)) : Int32) 0 (ea_wi h (b0 + 30) (Int32.toNatClampNeg x3) (ea_i h (b0 + 29) (Int32.toNatClampNeg (((-1) : Int32) - (ea_i h (Option.getD r1 0) (Int32.toNatClampNeg x4)))))) _ _ E (ShC_wi hs)
        have E := (if_neg c19).symm.trans E
        obtain ⟨z17, E⟩ := gd_some E
        exact ih 5 (r1 : Option Nat) 0 ((x3 + (1 : Int32)) : Int32) ((x4 + (1 : Int32)) : Int32) 0 (ea_wi h (b0 + 30) (Int32.toNatClampNeg x3) (ea_i h (Option.getD r1 0) (Int32.toNatClampNeg x4))) _ _ E (ShC_wi hs)
      have E := (if_neg c20).symm.trans E
      cases E
      exact hs
    have E := (if_neg el1).symm.trans E
    by_cases el2 : lbl = 125
    · have E := (if_pos el2).symm.trans E
      by_cases c31 : x3 ≤ (1 : Int32)
      · have E := (if_pos c31).symm.trans E
        exact ih 5 (r1 : Option Nat) 0 (x3 : Int32) ((x4 + (1 : Int32)) : Int32) 0 h _ _ E hs
      have E := (if_neg c31).symm.trans E
      obtain ⟨z26, E⟩ := gd_some E
      obtain ⟨z27, E⟩ := gd_some E
      obtain ⟨z28, E⟩ := gd_some E
      obtain ⟨z29, E⟩ := gd_some E
      exact ih 5 (r1 : Option Nat) 0 ((x3 + ((-1) : Int32)) : Int32) ((x4 + (1 : Int32)) : Int32) 0 (ea_wi h (b0 + 30) (Int32.toNatClampNeg ((x3 + ((-1) : Int32)) - (1 : Int32))) (vX8_joined (x5 : Int32) ((ea_i h (b0 + 30) (Int32.toNatClampNeg ((x3 + ((-1) : Int32)) - (1 : Int32)))) : Int32) ((ea_i h (b0 + 30) (Int32.toNatClampNeg (x3 + ((-1) : Int32)))) : Int32) h)) _ _ E (ShC_wi hs)
    have E := (if_neg el2).symm.trans E
    by_cases el3 : lbl = 166
    · have E := (if_pos el3).symm.trans E
      by_cases c33 : x3 ≤ (0 : Int32)
      · have E := (if_pos c33).symm.trans E
        cases E
        exact hs
      have E := (if_neg c33).symm.trans E
      obtain ⟨z32, E⟩ := gd_some E
      cases E
      exact hs
    have E := (if_neg el3).symm.trans E
    cases E
theorem shX8_worth {b0 : Nat} {r1 : Option Nat} {x2 : Int32} {h : ea_H} (hs : ShC b0 h) : ShC b0 (wX8_worth b0 r1 x2 h) := by
  unfold wX8_worth
  cases K : qX8_worth b0 r1 x2 h with
  | none => exact hs
  | some x => obtain ⟨x, y⟩ := x; unfold qX8_worth at K; exact zX8_worth _ _ _ _ _ _ _ _ _ _ K hs
noncomputable def gX10_firstBehind (b0 : Nat) : Nat → Nat → Int32 → Int32 → ea_H → Option (Int32 × ea_H)
  | 0, _, _, _, _ => none
  | f + 1, lbl, x1, x2, h =>
    if lbl = 0 then (gX10_firstBehind b0 f 2 (x1 : Int32) (0 : Int32) h) else
    if lbl = 2 then (if (ea_i h (b0 + 13) 1) ≤ x2 then (some ((ea_i h (b0 + 13) 1), h)) else (gd ((okX10_keyAt b0 (x2 : Int32) h)) (if (vX10_minuteIn ((vX10_keyAt b0 (x2 : Int32) h) : Int32) h) ≤ x1 then (gX10_firstBehind b0 f 2 (x1 : Int32) ((x2 + (1 : Int32)) : Int32) h) else (some (x2, h))))) else none
theorem tX10_firstBehind {d : Nat} {b0 : Nat} {h0 : ea_H} (hd : 2 ≤ d) : ∀ (f lbl : Nat) (x1 : Int32) (x2 : Int32) (h : ea_H) (r : Int32) (h' : ea_H), gX10_firstBehind b0 f lbl x1 x2 h = some (r, h') → ShC b0 h → (lbl = 0 → ea_W mX10_firstBehind d h0 (some (vI r)) h' 0 [(0, vR (some (b0 + 13))), (1, vI x1)] [] h) ∧ (lbl = 2 → ea_W mX10_firstBehind d h0 (some (vI r)) h' 2 [(0, vR (some (b0 + 13))), (1, vI x1), (2, vI x2)] [] h) := by
  intro f
  induction f with
  | zero => intro lbl x1 x2 h r h' E; cases E
  | succ f ih =>
    intro lbl x1 x2 h r h' E hs
    unfold gX10_firstBehind at E
    refine ⟨?_, ?_⟩
    · intro el
      subst el
      have E := (if_pos rfl).symm.trans E
      refine ea_iconst (pc := 0) dX10_firstBehind_0 (v := 0) rfl ?_
      refine ea_istore_n (pc := 1) (lv' := [(0, vR (some (b0 + 13))), (1, vI x1), (2, vI 0)]) dX10_firstBehind_1 rfl (Nat.le_of_ble_eq_true rfl) [1, 2, 0] rfl ?_
      exact ((ih 2 (x1 : Int32) (0 : Int32) h _ _ E hs).2 rfl)
    intro el
    subst el
    have E := (if_neg (by decide)).symm.trans E
    have E := (if_pos rfl).symm.trans E
    refine ea_iload_n (pc := 2) dX10_firstBehind_2 rfl 2 rfl ?_
    refine ea_aload_n (pc := 3) dX10_firstBehind_3 rfl 0 rfl ?_
    refine ea_getI (pc := 4) dX10_firstBehind_4 ec_10 (k := 1) (Nat.le_of_ble_eq_true rfl) rfl (Or.inl ew_227) (hs.1 13 (by decide)).1 (hs.1 13 (by decide)).2.1 ?_
    refine ea_icmp_ge (pc := 7) (tgt := 30) dX10_firstBehind_7 rfl (fun c4 => ?_) (fun c4 => ?_)
    · have E := (if_pos c4).symm.trans E
      refine ea_aload_n (pc := 30) dX10_firstBehind_30 rfl 0 rfl ?_
      refine ea_getI (pc := 31) dX10_firstBehind_31 ec_10 (k := 1) (Nat.le_of_ble_eq_true rfl) rfl (Or.inl ew_227) (hs.1 13 (by decide)).1 (hs.1 13 (by decide)).2.1 ?_
      cases E
      exact ea_ireturn (pc := 34) dX10_firstBehind_34 rfl rfl
    · have E := (if_neg c4).symm.trans E
      refine ea_aload_n (pc := 10) dX10_firstBehind_10 rfl 0 rfl ?_
      refine ea_iload_n (pc := 11) dX10_firstBehind_11 rfl 2 rfl ?_
      obtain ⟨z1, E⟩ := gd_some E
      refine ea_callV (pc := 12) (d' := d - 1) (As := [vI x2]) (st := []) dX10_firstBehind_12 kX10_keyAt (sX10_keyAt (d := d - 1) (by omega) hs z1) (by omega) rfl (Nat.le_of_ble_eq_true rfl) ew_635 ew_636 ew_637 (ci := 10) rfl (by decide) (hs.1 13 (by decide)).1 (hs.1 13 (by decide)).2.1 ?_
      refine ea_callS (pc := 15) (d' := d - 1) (As := [vI (vX10_keyAt b0 (x2 : Int32) h)]) (st := []) dX10_firstBehind_15 kX10_minuteIn (sX10_minuteIn (d := d - 1) (by omega)) (by omega) rfl (Nat.le_of_ble_eq_true rfl) ew_602 ew_603 ?_
      refine ea_iload_n (pc := 18) dX10_firstBehind_18 rfl 1 rfl ?_
      refine ea_icmp_le (pc := 19) (tgt := 24) dX10_firstBehind_19 rfl (fun c3 => ?_) (fun c3 => ?_)
      · have E := (if_pos c3).symm.trans E
        refine ea_iinc (pc := 24) (v := 1) (lv' := [(0, vR (some (b0 + 13))), (1, vI x1), (2, vI (x2 + (1 : Int32)))]) dX10_firstBehind_24 2 rfl rfl (Nat.le_of_ble_eq_true rfl) [1, 2, 0] rfl ?_
        refine ea_goto (pc := 27) (tgt := 2) dX10_firstBehind_27 rfl ?_
        exact ((ih 2 (x1 : Int32) ((x2 + (1 : Int32)) : Int32) h _ _ E hs).2 rfl)
      · have E := (if_neg c3).symm.trans E
        refine ea_iload_n (pc := 22) dX10_firstBehind_22 rfl 2 rfl ?_
        cases E
        exact ea_ireturn (pc := 23) dX10_firstBehind_23 rfl rfl
noncomputable def qX10_firstBehind (b0 : Nat) (x1 : Int32) (h : ea_H) : Option (Int32 × ea_H) := gX10_firstBehind b0 1000000000 0 x1 0 h
def okX10_firstBehind (b0 : Nat) (x1 : Int32) (h : ea_H) : Prop := ∃ x, qX10_firstBehind b0 x1 h = some x
noncomputable def vX10_firstBehind (b0 : Nat) (x1 : Int32) (h : ea_H) : Int32 := ((qX10_firstBehind b0 x1 h).getD (0, h)).1
noncomputable def wX10_firstBehind (b0 : Nat) (x1 : Int32) (h : ea_H) : ea_H := ((qX10_firstBehind b0 x1 h).getD (0, h)).2
theorem sX10_firstBehind {d : Nat} {b0 : Nat} {x1 : Int32} {h : ea_H} (hd : 2 ≤ d) (hs : ShC b0 h) (K : okX10_firstBehind b0 x1 h) : ea_Met mX10_firstBehind d [vR (some (b0 + 13)), vI x1] h (some (vI (vX10_firstBehind b0 x1 h))) (wX10_firstBehind b0 x1 h) := by
  obtain ⟨⟨x, y⟩, K⟩ := K
  unfold wX10_firstBehind vX10_firstBehind
  rw [K]
  unfold qX10_firstBehind at K
  exact ea_enter rfl (Nat.le_of_ble_eq_true rfl) ((tX10_firstBehind hd 1000000000 0 x1 0 h x y K hs).1 rfl)
theorem zX10_firstBehind {b0 : Nat} : ∀ (f lbl : Nat) (x1 : Int32) (x2 : Int32) (h : ea_H) (r : Int32) (h' : ea_H), gX10_firstBehind b0 f lbl x1 x2 h = some (r, h') → ShC b0 h → ShC b0 h' := by
  intro f
  induction f with
  | zero => intro lbl x1 x2 h r h' E; cases E
  | succ f ih =>
    intro lbl x1 x2 h r h' E hs
    unfold gX10_firstBehind at E
    by_cases el0 : lbl = 0
    · have E := (if_pos el0).symm.trans E
      exact ih 2 (x1 : Int32) (0 : Int32) h _ _ E hs
    have E := (if_neg el0).symm.trans E
    by_cases el1 : lbl = 2
    · have E := (if_pos el1).symm.trans E
      by_cases c4 : (ea_i h (b0 + 13) 1) ≤ x2
      · have E := (if_pos c4).symm.trans E
        cases E
        exact hs
      have E := (if_neg c4).symm.trans E
      obtain ⟨z1, E⟩ := gd_some E
      by_cases c3 : (vX10_minuteIn ((vX10_keyAt b0 (x2 : Int32) h) : Int32) h) ≤ x1
      · have E := (if_pos c3).symm.trans E
        exact ih 2 (x1 : Int32) ((x2 + (1 : Int32)) : Int32) h _ _ E hs
      have E := (if_neg c3).symm.trans E
      cases E
      exact hs
    have E := (if_neg el1).symm.trans E
    cases E
theorem shX10_firstBehind {b0 : Nat} {x1 : Int32} {h : ea_H} (hs : ShC b0 h) : ShC b0 (wX10_firstBehind b0 x1 h) := by
  unfold wX10_firstBehind
  cases K : qX10_firstBehind b0 x1 h with
  | none => exact hs
  | some x => obtain ⟨x, y⟩ := x; unfold qX10_firstBehind at K; exact zX10_firstBehind _ _ _ _ _ _ _ K hs
noncomputable def gX10_collect (b0 : Nat) : Nat → Nat → Int32 → Int32 → Int32 → Int32 → ea_H → Option (Unit × ea_H)
  | 0, _, _, _, _, _, _ => none
  | f + 1, lbl, x1, x2, x3, x4, h =>
    if lbl = 0 then (gX10_collect b0 f 7 (0 : Int32) 0 0 0 (ea_wi h (b0 + 13) 1 0)) else
    if lbl = 7 then (if (ea_i h (b0 + 5) 0) ≤ x1 then (some ((), h)) else (gX10_collect b0 f 20 (x1 : Int32) (0 : Int32) 0 0 h)) else
    if lbl = 20 then (if (7 : Int32) ≤ x2 then (gX10_collect b0 f 7 ((x1 + (1 : Int32)) : Int32) 0 0 0 h) else (gX10_collect b0 f 28 (x1 : Int32) (x2 : Int32) (0 : Int32) 0 h)) else
    if lbl = 28 then (gd (vp_in x1 10) (if (ea_i h (b0 + 6) (Int32.toNatClampNeg x1)) ≤ x3 then (gX10_collect b0 f 20 (x1 : Int32) ((x2 + (1 : Int32)) : Int32) 0 0 h) else (if x3 ≤ (0 : Int32) then (gX10_collect b0 f 73 (x1 : Int32) (x2 : Int32) (x3 : Int32) ((((x1 <<< ((6 : Int32) &&& 31)) ||| (x2 <<< ((3 : Int32) &&& 31))) ||| x3) : Int32) h) else (gd ((okX9_comesAt b0 (x1 : Int32) (x2 : Int32) (x3 : Int32) h)) (gd ((okX10_addKey b0 ((vX9_comesAt b0 (x1 : Int32) (x2 : Int32) (x3 : Int32) h) : Int32) ((((x1 <<< ((6 : Int32) &&& 31)) ||| (x2 <<< ((3 : Int32) &&& 31))) ||| x3) : Int32) h)) (gX10_collect b0 f 73 (x1 : Int32) (x2 : Int32) (x3 : Int32) ((((x1 <<< ((6 : Int32) &&& 31)) ||| (x2 <<< ((3 : Int32) &&& 31))) ||| x3) : Int32) (wX10_addKey b0 ((vX9_comesAt b0 (x1 : Int32) (x2 : Int32) (x3 : Int32) h) : Int32) ((((x1 <<< ((6 : Int32) &&& 31)) ||| (x2 <<< ((3 : Int32) &&& 31))) ||| x3) : Int32) h))))))) else
    if lbl = 73 then (gd (vp_in x1 10) (if ((ea_i h (b0 + 6) (Int32.toNatClampNeg x1)) - (1 : Int32)) ≤ x3 then (gX10_collect b0 f 28 (x1 : Int32) (x2 : Int32) ((x3 + (1 : Int32)) : Int32) 0 h) else (gd ((okX9_goesAt b0 (x1 : Int32) (x2 : Int32) (x3 : Int32) h)) (gd ((okX10_addKey b0 ((vX9_goesAt b0 (x1 : Int32) (x2 : Int32) (x3 : Int32) h) : Int32) (((1024 : Int32) ||| x4) : Int32) h)) (gX10_collect b0 f 28 (x1 : Int32) (x2 : Int32) ((x3 + (1 : Int32)) : Int32) 0 (wX10_addKey b0 ((vX9_goesAt b0 (x1 : Int32) (x2 : Int32) (x3 : Int32) h) : Int32) (((1024 : Int32) ||| x4) : Int32) h)))))) else none
theorem tX10_collect {d : Nat} {b0 : Nat} {h0 : ea_H} (hd : 2 ≤ d) : ∀ (f lbl : Nat) (x1 : Int32) (x2 : Int32) (x3 : Int32) (x4 : Int32) (h : ea_H) (r : Unit) (h' : ea_H), gX10_collect b0 f lbl x1 x2 x3 x4 h = some (r, h') → ShC b0 h → (lbl = 0 → ea_W mX10_collect d h0 none h' 0 [(0, vR (some (b0 + 13)))] [] h) ∧ (lbl = 7 → ea_W mX10_collect d h0 none h' 7 [(0, vR (some (b0 + 13))), (1, vI x1)] [] h) ∧ (lbl = 20 → ea_W mX10_collect d h0 none h' 20 [(0, vR (some (b0 + 13))), (1, vI x1), (2, vI x2)] [] h) ∧ (lbl = 28 → ea_W mX10_collect d h0 none h' 28 [(0, vR (some (b0 + 13))), (1, vI x1), (2, vI x2), (3, vI x3)] [] h) ∧ (lbl = 73 → ea_W mX10_collect d h0 none h' 73 [(0, vR (some (b0 + 13))), (1, vI x1), (2, vI x2), (3, vI x3), (4, vI x4)] [] h) := by
  intro f
  induction f with
  | zero => intro lbl x1 x2 x3 x4 h r h' E; cases E
  | succ f ih =>
    intro lbl x1 x2 x3 x4 h r h' E hs
    unfold gX10_collect at E
    refine ⟨?_, ?_⟩
    · intro el
      subst el
      have E := (if_pos rfl).symm.trans E
      refine ea_aload_n (pc := 0) dX10_collect_0 rfl 0 rfl ?_
      refine ea_iconst (pc := 1) dX10_collect_1 (v := 0) rfl ?_
      refine ea_putI (pc := 2) dX10_collect_2 ec_10 (k := 1) (Nat.le_of_ble_eq_true rfl) rfl (Or.inl ⟨rfl, Or.inl ew_227⟩) rfl rfl (hs.1 13 (by decide)).1 (hs.1 13 (by decide)).2.1 ?_
      have hs1 : ShC b0 (ea_wi h (b0 + 13) 1 0) := ShC_wi hs
      refine ea_iconst (pc := 5) dX10_collect_5 (v := 0) rfl ?_
      refine ea_istore_n (pc := 6) (lv' := [(0, vR (some (b0 + 13))), (1, vI 0)]) dX10_collect_6 rfl (Nat.le_of_ble_eq_true rfl) [1, 0] rfl ?_
      exact ((ih 7 (0 : Int32) 0 0 0 (ea_wi h (b0 + 13) 1 0) _ _ E hs1).2.1 rfl)
    refine ⟨?_, ?_⟩
    · intro el
      subst el
      have E := (if_neg (by decide)).symm.trans E
      have E := (if_pos rfl).symm.trans E
      refine ea_iload_n (pc := 7) dX10_collect_7 rfl 1 rfl ?_
      refine ea_aload_n (pc := 8) dX10_collect_8 rfl 0 rfl ?_
      refine ea_getR (pc := 9) dX10_collect_9 ec_10 (k := 2) (Nat.le_of_ble_eq_true rfl) rfl (Or.inl ew_229) (hs.1 13 (by decide)).1 (hs.1 13 (by decide)).2.1 (hs.2 13 2 rfl) ?_
      refine ea_getI (pc := 12) dX10_collect_12 ec_9 (k := 0) (Nat.le_of_ble_eq_true rfl) rfl (Or.inl ew_179) (hs.1 5 (by decide)).1 (hs.1 5 (by decide)).2.1 ?_
      refine ea_icmp_ge (pc := 15) (tgt := 126) dX10_collect_15 rfl (fun c2 => ?_) (fun c2 => ?_)
      · have E := (if_pos c2).symm.trans E
        cases E
        exact ea_return (pc := 126) dX10_collect_126 rfl
      · have E := (if_neg c2).symm.trans E
        refine ea_iconst (pc := 18) dX10_collect_18 (v := 0) rfl ?_
        refine ea_istore_n (pc := 19) (lv' := [(0, vR (some (b0 + 13))), (1, vI x1), (2, vI 0)]) dX10_collect_19 rfl (Nat.le_of_ble_eq_true rfl) [1, 2, 0] rfl ?_
        exact ((ih 20 (x1 : Int32) (0 : Int32) 0 0 h _ _ E hs).2.2.1 rfl)
    refine ⟨?_, ?_⟩
    · intro el
      subst el
      have E := (if_neg (by decide)).symm.trans E
      have E := (if_neg (by decide)).symm.trans E
      have E := (if_pos rfl).symm.trans E
      refine ea_iload_n (pc := 20) dX10_collect_20 rfl 2 rfl ?_
      refine ea_bipush (pc := 21) dX10_collect_21 (v := 7) rfl ?_
      refine ea_icmp_ge (pc := 23) (tgt := 120) dX10_collect_23 rfl (fun c3 => ?_) (fun c3 => ?_)
      · have E := (if_pos c3).symm.trans E
        refine ea_iinc (pc := 120) (v := 1) (lv' := [(0, vR (some (b0 + 13))), (1, vI (x1 + (1 : Int32)))]) dX10_collect_120 1 rfl rfl (Nat.le_of_ble_eq_true rfl) [1, 0] rfl ?_
        refine ea_goto (pc := 123) (tgt := 7) dX10_collect_123 rfl ?_
        exact ((ih 7 ((x1 + (1 : Int32)) : Int32) 0 0 0 h _ _ E hs).2.1 rfl)
      · have E := (if_neg c3).symm.trans E
        refine ea_iconst (pc := 26) dX10_collect_26 (v := 0) rfl ?_
        refine ea_istore_n (pc := 27) (lv' := [(0, vR (some (b0 + 13))), (1, vI x1), (2, vI x2), (3, vI 0)]) dX10_collect_27 rfl (Nat.le_of_ble_eq_true rfl) [1, 2, 3, 0] rfl ?_
        exact ((ih 28 (x1 : Int32) (x2 : Int32) (0 : Int32) 0 h _ _ E hs).2.2.2.1 rfl)
    refine ⟨?_, ?_⟩
    · intro el
      subst el
      have E := (if_neg (by decide)).symm.trans E
      have E := (if_neg (by decide)).symm.trans E
      have E := (if_neg (by decide)).symm.trans E
      have E := (if_pos rfl).symm.trans E
      refine ea_iload_n (pc := 28) dX10_collect_28 rfl 3 rfl ?_
      refine ea_aload_n (pc := 29) dX10_collect_29 rfl 0 rfl ?_
      refine ea_getR (pc := 30) dX10_collect_30 ec_10 (k := 2) (Nat.le_of_ble_eq_true rfl) rfl (Or.inl ew_229) (hs.1 13 (by decide)).1 (hs.1 13 (by decide)).2.1 (hs.2 13 2 rfl) ?_
      refine ea_getR (pc := 33) dX10_collect_33 ec_9 (k := 1) (Nat.le_of_ble_eq_true rfl) rfl (Or.inl ew_183) (hs.1 5 (by decide)).1 (hs.1 5 (by decide)).2.1 (hs.2 5 1 rfl) ?_
      refine ea_iload_n (pc := 36) dX10_collect_36 rfl 1 rfl ?_
      obtain ⟨z4, E⟩ := gd_some E
      refine ea_iald (pc := 37) dX10_collect_37 (hs.1 6 (by decide)).1 (hs.1 6 (by decide)).2.1 (ea_vpl (hs.1 6 (by decide)).2.2 z4) ?_
      refine ea_icmp_ge (pc := 38) (tgt := 114) dX10_collect_38 rfl (fun c9 => ?_) (fun c9 => ?_)
      · have E := (if_pos c9).symm.trans E
        refine ea_iinc (pc := 114) (v := 1) (lv' := [(0, vR (some (b0 + 13))), (1, vI x1), (2, vI (x2 + (1 : Int32)))]) dX10_collect_114 2 rfl rfl (Nat.le_of_ble_eq_true rfl) [1, 2, 0] rfl ?_
        refine ea_goto (pc := 117) (tgt := 20) dX10_collect_117 rfl ?_
        exact ((ih 20 (x1 : Int32) ((x2 + (1 : Int32)) : Int32) 0 0 h _ _ E hs).2.2.1 rfl)
      · have E := (if_neg c9).symm.trans E
        refine ea_iload_n (pc := 41) dX10_collect_41 rfl 1 rfl ?_
        refine ea_bipush (pc := 42) dX10_collect_42 (v := 6) rfl ?_
        refine ea_ishl (pc := 44) dX10_collect_44 ?_
        refine ea_iload_n (pc := 45) dX10_collect_45 rfl 2 rfl ?_
        refine ea_iconst (pc := 46) dX10_collect_46 (v := 3) rfl ?_
        refine ea_ishl (pc := 47) dX10_collect_47 ?_
        refine ea_ior (pc := 48) dX10_collect_48 ?_
        refine ea_iload_n (pc := 49) dX10_collect_49 rfl 3 rfl ?_
        refine ea_ior (pc := 50) dX10_collect_50 ?_
        refine ea_istore (pc := 51) (lv' := [(0, vR (some (b0 + 13))), (1, vI x1), (2, vI x2), (3, vI x3), (4, vI (((x1 <<< ((6 : Int32) &&& 31)) ||| (x2 <<< ((3 : Int32) &&& 31))) ||| x3))]) dX10_collect_51 (Nat.le_of_ble_eq_true rfl) [1, 2, 3, 4, 0] rfl ?_
        refine ea_iload_n (pc := 53) dX10_collect_53 rfl 3 rfl ?_
        refine ea_if_le (pc := 54) (tgt := 73) dX10_collect_54 rfl (fun c8 => ?_) (fun c8 => ?_)
        · have E := (if_pos c8).symm.trans E
          exact ((ih 73 (x1 : Int32) (x2 : Int32) (x3 : Int32) ((((x1 <<< ((6 : Int32) &&& 31)) ||| (x2 <<< ((3 : Int32) &&& 31))) ||| x3) : Int32) h _ _ E hs).2.2.2.2 rfl)
        · have E := (if_neg c8).symm.trans E
          refine ea_aload_n (pc := 57) dX10_collect_57 rfl 0 rfl ?_
          refine ea_aload_n (pc := 58) dX10_collect_58 rfl 0 rfl ?_
          refine ea_getR (pc := 59) dX10_collect_59 ec_10 (k := 2) (Nat.le_of_ble_eq_true rfl) rfl (Or.inl ew_229) (hs.1 13 (by decide)).1 (hs.1 13 (by decide)).2.1 (hs.2 13 2 rfl) ?_
          refine ea_iload_n (pc := 62) dX10_collect_62 rfl 1 rfl ?_
          refine ea_iload_n (pc := 63) dX10_collect_63 rfl 2 rfl ?_
          refine ea_iload_n (pc := 64) dX10_collect_64 rfl 3 rfl ?_
          obtain ⟨z5, E⟩ := gd_some E
          refine ea_callV (pc := 65) (d' := d - 1) (As := [vI x1, vI x2, vI x3]) (st := [vR (some (b0 + 13))]) dX10_collect_65 kX9_comesAt (sX9_comesAt (d := d - 1) (by omega) hs z5) (by omega) rfl (Nat.le_of_ble_eq_true rfl) ew_571 ew_552 ew_553 (ci := 9) rfl (by decide) (hs.1 5 (by decide)).1 (hs.1 5 (by decide)).2.1 ?_
          refine ea_iload (pc := 68) dX10_collect_68 4 rfl ?_
          obtain ⟨z6, E⟩ := gd_some E
          refine ea_callV (pc := 70) (d' := d - 1) (As := [vI (vX9_comesAt b0 (x1 : Int32) (x2 : Int32) (x3 : Int32) h), vI (((x1 <<< ((6 : Int32) &&& 31)) ||| (x2 <<< ((3 : Int32) &&& 31))) ||| x3)]) (st := []) dX10_collect_70 kX10_addKey (sX10_addKey (d := d - 1) (by omega) hs z6) (by omega) rfl (Nat.le_of_ble_eq_true rfl) ew_572 ew_574 ew_4 (ci := 10) rfl (by decide) (hs.1 13 (by decide)).1 (hs.1 13 (by decide)).2.1 ?_
          have hs7 : ShC b0 (wX10_addKey b0 ((vX9_comesAt b0 (x1 : Int32) (x2 : Int32) (x3 : Int32) h) : Int32) ((((x1 <<< ((6 : Int32) &&& 31)) ||| (x2 <<< ((3 : Int32) &&& 31))) ||| x3) : Int32) h) := shX10_addKey hs
          exact ((ih 73 (x1 : Int32) (x2 : Int32) (x3 : Int32) ((((x1 <<< ((6 : Int32) &&& 31)) ||| (x2 <<< ((3 : Int32) &&& 31))) ||| x3) : Int32) (wX10_addKey b0 ((vX9_comesAt b0 (x1 : Int32) (x2 : Int32) (x3 : Int32) h) : Int32) ((((x1 <<< ((6 : Int32) &&& 31)) ||| (x2 <<< ((3 : Int32) &&& 31))) ||| x3) : Int32) h) _ _ E hs7).2.2.2.2 rfl)
    intro el
    subst el
    have E := (if_neg (by decide)).symm.trans E
    have E := (if_neg (by decide)).symm.trans E
    have E := (if_neg (by decide)).symm.trans E
    have E := (if_neg (by decide)).symm.trans E
    have E := (if_pos rfl).symm.trans E
    refine ea_iload_n (pc := 73) dX10_collect_73 rfl 3 rfl ?_
    refine ea_aload_n (pc := 74) dX10_collect_74 rfl 0 rfl ?_
    refine ea_getR (pc := 75) dX10_collect_75 ec_10 (k := 2) (Nat.le_of_ble_eq_true rfl) rfl (Or.inl ew_229) (hs.1 13 (by decide)).1 (hs.1 13 (by decide)).2.1 (hs.2 13 2 rfl) ?_
    refine ea_getR (pc := 78) dX10_collect_78 ec_9 (k := 1) (Nat.le_of_ble_eq_true rfl) rfl (Or.inl ew_183) (hs.1 5 (by decide)).1 (hs.1 5 (by decide)).2.1 (hs.2 5 1 rfl) ?_
    refine ea_iload_n (pc := 81) dX10_collect_81 rfl 1 rfl ?_
    obtain ⟨z10, E⟩ := gd_some E
    refine ea_iald (pc := 82) dX10_collect_82 (hs.1 6 (by decide)).1 (hs.1 6 (by decide)).2.1 (ea_vpl (hs.1 6 (by decide)).2.2 z10) ?_
    refine ea_iconst (pc := 83) dX10_collect_83 (v := 1) rfl ?_
    refine ea_isub (pc := 84) dX10_collect_84 ?_
    refine ea_icmp_ge (pc := 85) (tgt := 108) dX10_collect_85 rfl (fun c14 => ?_) (fun c14 => ?_)
    · have E := (if_pos c14).symm.trans E
      refine ea_iinc (pc := 108) (v := 1) (lv' := [(0, vR (some (b0 + 13))), (1, vI x1), (2, vI x2), (3, vI (x3 + (1 : Int32)))]) dX10_collect_108 3 rfl rfl (Nat.le_of_ble_eq_true rfl) [1, 2, 3, 0] rfl ?_
      refine ea_goto (pc := 111) (tgt := 28) dX10_collect_111 rfl ?_
      exact ((ih 28 (x1 : Int32) (x2 : Int32) ((x3 + (1 : Int32)) : Int32) 0 h _ _ E hs).2.2.2.1 rfl)
    · have E := (if_neg c14).symm.trans E
      refine ea_aload_n (pc := 88) dX10_collect_88 rfl 0 rfl ?_
      refine ea_aload_n (pc := 89) dX10_collect_89 rfl 0 rfl ?_
      refine ea_getR (pc := 90) dX10_collect_90 ec_10 (k := 2) (Nat.le_of_ble_eq_true rfl) rfl (Or.inl ew_229) (hs.1 13 (by decide)).1 (hs.1 13 (by decide)).2.1 (hs.2 13 2 rfl) ?_
      refine ea_iload_n (pc := 93) dX10_collect_93 rfl 1 rfl ?_
      refine ea_iload_n (pc := 94) dX10_collect_94 rfl 2 rfl ?_
      refine ea_iload_n (pc := 95) dX10_collect_95 rfl 3 rfl ?_
      obtain ⟨z11, E⟩ := gd_some E
      refine ea_callV (pc := 96) (d' := d - 1) (As := [vI x1, vI x2, vI x3]) (st := [vR (some (b0 + 13))]) dX10_collect_96 kX9_goesAt (sX9_goesAt (d := d - 1) (by omega) hs z11) (by omega) rfl (Nat.le_of_ble_eq_true rfl) ew_576 ew_577 ew_578 (ci := 9) rfl (by decide) (hs.1 5 (by decide)).1 (hs.1 5 (by decide)).2.1 ?_
      refine ea_sipush (pc := 99) dX10_collect_99 (v := 1024) rfl ?_
      refine ea_iload (pc := 102) dX10_collect_102 4 rfl ?_
      refine ea_ior (pc := 104) dX10_collect_104 ?_
      obtain ⟨z12, E⟩ := gd_some E
      refine ea_callV (pc := 105) (d' := d - 1) (As := [vI (vX9_goesAt b0 (x1 : Int32) (x2 : Int32) (x3 : Int32) h), vI ((1024 : Int32) ||| x4)]) (st := []) dX10_collect_105 kX10_addKey (sX10_addKey (d := d - 1) (by omega) hs z12) (by omega) rfl (Nat.le_of_ble_eq_true rfl) ew_572 ew_574 ew_4 (ci := 10) rfl (by decide) (hs.1 13 (by decide)).1 (hs.1 13 (by decide)).2.1 ?_
      have hs13 : ShC b0 (wX10_addKey b0 ((vX9_goesAt b0 (x1 : Int32) (x2 : Int32) (x3 : Int32) h) : Int32) (((1024 : Int32) ||| x4) : Int32) h) := shX10_addKey hs
      refine ea_iinc (pc := 108) (v := 1) (lv' := [(0, vR (some (b0 + 13))), (1, vI x1), (2, vI x2), (3, vI (x3 + (1 : Int32)))]) dX10_collect_108 3 rfl rfl (Nat.le_of_ble_eq_true rfl) [1, 2, 3, 0] rfl ?_
      refine ea_goto (pc := 111) (tgt := 28) dX10_collect_111 rfl ?_
      exact ((ih 28 (x1 : Int32) (x2 : Int32) ((x3 + (1 : Int32)) : Int32) 0 (wX10_addKey b0 ((vX9_goesAt b0 (x1 : Int32) (x2 : Int32) (x3 : Int32) h) : Int32) (((1024 : Int32) ||| x4) : Int32) h) _ _ E hs13).2.2.2.1 rfl)
noncomputable def qX10_collect (b0 : Nat) (h : ea_H) : Option (Unit × ea_H) := gX10_collect b0 1000000000 0 0 0 0 0 h
def okX10_collect (b0 : Nat) (h : ea_H) : Prop := ∃ x, qX10_collect b0 h = some x
noncomputable def wX10_collect (b0 : Nat) (h : ea_H) : ea_H := ((qX10_collect b0 h).getD ((), h)).2
theorem sX10_collect {d : Nat} {b0 : Nat} {h : ea_H} (hd : 2 ≤ d) (hs : ShC b0 h) (K : okX10_collect b0 h) : ea_Met mX10_collect d [vR (some (b0 + 13))] h none (wX10_collect b0 h) := by
  obtain ⟨⟨x, y⟩, K⟩ := K
  unfold wX10_collect
  rw [K]
  unfold qX10_collect at K
  exact ea_enter rfl (Nat.le_of_ble_eq_true rfl) ((tX10_collect hd 1000000000 0 0 0 0 0 h x y K hs).1 rfl)
theorem zX10_collect {b0 : Nat} : ∀ (f lbl : Nat) (x1 : Int32) (x2 : Int32) (x3 : Int32) (x4 : Int32) (h : ea_H) (r : Unit) (h' : ea_H), gX10_collect b0 f lbl x1 x2 x3 x4 h = some (r, h') → ShC b0 h → ShC b0 h' := by
  intro f
  induction f with
  | zero => intro lbl x1 x2 x3 x4 h r h' E; cases E
  | succ f ih =>
    intro lbl x1 x2 x3 x4 h r h' E hs
    unfold gX10_collect at E
    by_cases el0 : lbl = 0
    · have E := (if_pos el0).symm.trans E
      exact ih 7 (0 : Int32) 0 0 0 (ea_wi h (b0 + 13) 1 0) _ _ E (ShC_wi hs)
    have E := (if_neg el0).symm.trans E
    by_cases el1 : lbl = 7
    · have E := (if_pos el1).symm.trans E
      by_cases c2 : (ea_i h (b0 + 5) 0) ≤ x1
      · have E := (if_pos c2).symm.trans E
        cases E
        exact hs
      have E := (if_neg c2).symm.trans E
      exact ih 20 (x1 : Int32) (0 : Int32) 0 0 h _ _ E hs
    have E := (if_neg el1).symm.trans E
    by_cases el2 : lbl = 20
    · have E := (if_pos el2).symm.trans E
      by_cases c3 : (7 : Int32) ≤ x2
      · have E := (if_pos c3).symm.trans E
        exact ih 7 ((x1 + (1 : Int32)) : Int32) 0 0 0 h _ _ E hs
      have E := (if_neg c3).symm.trans E
      exact ih 28 (x1 : Int32) (x2 : Int32) (0 : Int32) 0 h _ _ E hs
    have E := (if_neg el2).symm.trans E
    by_cases el3 : lbl = 28
    · have E := (if_pos el3).symm.trans E
      obtain ⟨z4, E⟩ := gd_some E
      by_cases c9 : (ea_i h (b0 + 6) (Int32.toNatClampNeg x1)) ≤ x3
      · have E := (if_pos c9).symm.trans E
        exact ih 20 (x1 : Int32) ((x2 + (1 : Int32)) : Int32) 0 0 h _ _ E hs
      have E := (if_neg c9).symm.trans E
      by_cases c8 : x3 ≤ (0 : Int32)
      · have E := (if_pos c8).symm.trans E
        exact ih 73 (x1 : Int32) (x2 : Int32) (x3 : Int32) ((((x1 <<< ((6 : Int32) &&& 31)) ||| (x2 <<< ((3 : Int32) &&& 31))) ||| x3) : Int32) h _ _ E hs
      have E := (if_neg c8).symm.trans E
      obtain ⟨z5, E⟩ := gd_some E
      obtain ⟨z6, E⟩ := gd_some E
      exact ih 73 (x1 : Int32) (x2 : Int32) (x3 : Int32) ((((x1 <<< ((6 : Int32) &&& 31)) ||| (x2 <<< ((3 : Int32) &&& 31))) ||| x3) : Int32) (wX10_addKey b0 ((vX9_comesAt b0 (x1 : Int32) (x2 : Int32) (x3 : Int32) h) : Int32) ((((x1 <<< ((6 : Int32) &&& 31)) ||| (x2 <<< ((3 : Int32) &&& 31))) ||| x3) : Int32) h) _ _ E (shX10_addKey hs)
    have E := (if_neg el3).symm.trans E
    by_cases el4 : lbl = 73
    · have E := (if_pos el4).symm.trans E
      obtain ⟨z10, E⟩ := gd_some E
      by_cases c14 : ((ea_i h (b0 + 6) (Int32.toNatClampNeg x1)) - (1 : Int32)) ≤ x3
      · have E := (if_pos c14).symm.trans E
        exact ih 28 (x1 : Int32) (x2 : Int32) ((x3 + (1 : Int32)) : Int32) 0 h _ _ E hs
      have E := (if_neg c14).symm.trans E
      obtain ⟨z11, E⟩ := gd_some E
      obtain ⟨z12, E⟩ := gd_some E
      exact ih 28 (x1 : Int32) (x2 : Int32) ((x3 + (1 : Int32)) : Int32) 0 (wX10_addKey b0 ((vX9_goesAt b0 (x1 : Int32) (x2 : Int32) (x3 : Int32) h) : Int32) (((1024 : Int32) ||| x4) : Int32) h) _ _ E (shX10_addKey hs)
    have E := (if_neg el4).symm.trans E
    cases E
theorem shX10_collect {b0 : Nat} {h : ea_H} (hs : ShC b0 h) : ShC b0 (wX10_collect b0 h) := by
  unfold wX10_collect
  cases K : qX10_collect b0 h with
  | none => exact hs
  | some x => obtain ⟨x, y⟩ := x; unfold qX10_collect at K; exact zX10_collect _ _ _ _ _ _ _ _ _ K hs
noncomputable def gX10_linkMinutes (b0 : Nat) : Nat → Nat → Int32 → Int32 → Int32 → ea_H → Option (Unit × ea_H)
  | 0, _, _, _, _, _ => none
  | f + 1, lbl, x1, x2, x3, h =>
    if lbl = 0 then (gd ((okJ7_fill_53178 b0 ((some (b0 + 15)) : Option Nat) ((-1) : Int32) h)) (gX10_linkMinutes b0 f 10 (0 : Int32) 0 0 (wJ7_fill_53178 b0 ((some (b0 + 15)) : Option Nat) ((-1) : Int32) h))) else
    if lbl = 10 then (if (ea_i h (b0 + 13) 1) ≤ x1 then (some ((), h)) else (gd ((ea_r h (b0 + 13) 3) = some (Option.getD (ea_r h (b0 + 13) 3) 0)) (gd (((Option.getD (ea_r h (b0 + 13) 3) 0) < ea_n h ∧ ea_c h (Option.getD (ea_r h (b0 + 13) 3) 0) = 20)) (gd (vp_in x1 (ea_l h (Option.getD (ea_r h (b0 + 13) 3) 0))) (if (vX10_isGoing ((ea_i h (Option.getD (ea_r h (b0 + 13) 3) 0) (Int32.toNatClampNeg x1)) : Int32) h) = (0 : Int32) then (gX10_linkMinutes b0 f 10 ((x1 + (1 : Int32)) : Int32) 0 0 h) else (gd ((okX10_townIn b0 ((ea_i h (Option.getD (ea_r h (b0 + 13) 3) 0) (Int32.toNatClampNeg x1)) : Int32) h)) (gd (vp_in (vX10_townIn b0 ((ea_i h (Option.getD (ea_r h (b0 + 13) 3) 0) (Int32.toNatClampNeg x1)) : Int32) h) 12) (if (ea_i h (b0 + 15) (Int32.toNatClampNeg (vX10_townIn b0 ((ea_i h (Option.getD (ea_r h (b0 + 13) 3) 0) (Int32.toNatClampNeg x1)) : Int32) h))) = (vX10_minuteIn ((ea_i h (Option.getD (ea_r h (b0 + 13) 3) 0) (Int32.toNatClampNeg x1)) : Int32) h) then (gX10_linkMinutes b0 f 71 (x1 : Int32) ((ea_i h (Option.getD (ea_r h (b0 + 13) 3) 0) (Int32.toNatClampNeg x1)) : Int32) ((vX10_townIn b0 ((ea_i h (Option.getD (ea_r h (b0 + 13) 3) 0) (Int32.toNatClampNeg x1)) : Int32) h) : Int32) h) else (gd (vp_in (vX10_townIn b0 ((ea_i h (Option.getD (ea_r h (b0 + 13) 3) 0) (Int32.toNatClampNeg x1)) : Int32) h) 12) (gd (vp_in (vX10_townIn b0 ((ea_i h (Option.getD (ea_r h (b0 + 13) 3) 0) (Int32.toNatClampNeg x1)) : Int32) h) 12) (gX10_linkMinutes b0 f 71 (x1 : Int32) ((ea_i h (Option.getD (ea_r h (b0 + 13) 3) 0) (Int32.toNatClampNeg x1)) : Int32) ((vX10_townIn b0 ((ea_i h (Option.getD (ea_r h (b0 + 13) 3) 0) (Int32.toNatClampNeg x1)) : Int32) h) : Int32) (ea_wi (ea_wi h (b0 + 15) (Int32.toNatClampNeg (vX10_townIn b0 ((ea_i h (Option.getD (ea_r h (b0 + 13) 3) 0) (Int32.toNatClampNeg x1)) : Int32) h)) (vX10_minuteIn ((ea_i h (Option.getD (ea_r h (b0 + 13) 3) 0) (Int32.toNatClampNeg x1)) : Int32) h)) (b0 + 14) (Int32.toNatClampNeg (vX10_townIn b0 ((ea_i h (Option.getD (ea_r h (b0 + 13) 3) 0) (Int32.toNatClampNeg x1)) : Int32) h)) (vX10_slotIn ((ea_i h (Option.getD (ea_r h (b0 + 13) 3) 0) (Int32.toNatClampNeg x1)) : Int32) (ea_wi h (b0 + 15) (Int32.toNatClampNeg (vX10_townIn b0 ((ea_i h (Option.getD (ea_r h (b0 + 13) 3) 0) (Int32.toNatClampNeg x1)) : Int32) h)) (vX10_minuteIn ((ea_i h (Option.getD (ea_r h (b0 + 13) 3) 0) (Int32.toNatClampNeg x1)) : Int32) h))))))))))))))) else
    if lbl = 71 then (gd (vp_in x3 12) (gd ((ea_r h (b0 + 13) 6) = some (Option.getD (ea_r h (b0 + 13) 6) 0)) (gd (((Option.getD (ea_r h (b0 + 13) 6) 0) < ea_n h ∧ ea_c h (Option.getD (ea_r h (b0 + 13) 6) 0) = 20)) (gd (vp_in (vX10_slotIn (x2 : Int32) h) (ea_l h (Option.getD (ea_r h (b0 + 13) 6) 0))) (gX10_linkMinutes b0 f 10 ((x1 + (1 : Int32)) : Int32) 0 0 (ea_wi h (Option.getD (ea_r h (b0 + 13) 6) 0) (Int32.toNatClampNeg (vX10_slotIn (x2 : Int32) h)) (ea_i h (b0 + 14) (Int32.toNatClampNeg x3)))))))) else none
theorem tX10_linkMinutes {d : Nat} {b0 : Nat} {h0 : ea_H} (hd : 3 ≤ d) : ∀ (f lbl : Nat) (x1 : Int32) (x2 : Int32) (x3 : Int32) (h : ea_H) (r : Unit) (h' : ea_H), gX10_linkMinutes b0 f lbl x1 x2 x3 h = some (r, h') → ShC b0 h → (lbl = 0 → ea_W mX10_linkMinutes d h0 none h' 0 [(0, vR (some (b0 + 13)))] [] h) ∧ (lbl = 10 → ea_W mX10_linkMinutes d h0 none h' 10 [(0, vR (some (b0 + 13))), (1, vI x1)] [] h) ∧ (lbl = 71 → ea_W mX10_linkMinutes d h0 none h' 71 [(0, vR (some (b0 + 13))), (1, vI x1), (2, vI x2), (3, vI x3)] [] h) := by
  intro f
  induction f with
  | zero => intro lbl x1 x2 x3 h r h' E; cases E
  | succ f ih =>
    intro lbl x1 x2 x3 h r h' E hs
    unfold gX10_linkMinutes at E
    refine ⟨?_, ?_⟩
    · intro el
      subst el
      have E := (if_pos rfl).symm.trans E
      refine ea_aload_n (pc := 0) dX10_linkMinutes_0 rfl 0 rfl ?_
      refine ea_getR (pc := 1) dX10_linkMinutes_1 ec_10 (k := 8) (Nat.le_of_ble_eq_true rfl) rfl (Or.inl ew_235) (hs.1 13 (by decide)).1 (hs.1 13 (by decide)).2.1 (hs.2 13 8 rfl) ?_
      refine ea_iconst (pc := 4) dX10_linkMinutes_4 (v := (-1)) rfl ?_
      obtain ⟨z1, E⟩ := gd_some E
      refine ea_callS (pc := 5) (d' := d - 1) (As := [vR (some (b0 + 15)), vI (-1)]) (st := []) dX10_linkMinutes_5 kJ7_fill_53178 (sJ7_fill_53178 (d := d - 1) (by omega) hs z1) (by omega) rfl (Nat.le_of_ble_eq_true rfl) ew_588 ew_144 ?_
      have hs2 : ShC b0 (wJ7_fill_53178 b0 ((some (b0 + 15)) : Option Nat) ((-1) : Int32) h) := shJ7_fill_53178 hs
      refine ea_iconst (pc := 8) dX10_linkMinutes_8 (v := 0) rfl ?_
      refine ea_istore_n (pc := 9) (lv' := [(0, vR (some (b0 + 13))), (1, vI 0)]) dX10_linkMinutes_9 rfl (Nat.le_of_ble_eq_true rfl) [1, 0] rfl ?_
      exact ((ih 10 (0 : Int32) 0 0 (wJ7_fill_53178 b0 ((some (b0 + 15)) : Option Nat) ((-1) : Int32) h) _ _ E hs2).2.1 rfl)
    refine ⟨?_, ?_⟩
    · intro el
      subst el
      have E := (if_neg (by decide)).symm.trans E
      have E := (if_pos rfl).symm.trans E
      refine ea_iload_n (pc := 10) dX10_linkMinutes_10 rfl 1 rfl ?_
      refine ea_aload_n (pc := 11) dX10_linkMinutes_11 rfl 0 rfl ?_
      refine ea_getI (pc := 12) dX10_linkMinutes_12 ec_10 (k := 1) (Nat.le_of_ble_eq_true rfl) rfl (Or.inl ew_227) (hs.1 13 (by decide)).1 (hs.1 13 (by decide)).2.1 ?_
      refine ea_icmp_ge (pc := 15) (tgt := 92) dX10_linkMinutes_15 rfl (fun c18 => ?_) (fun c18 => ?_)
      · have E := (if_pos c18).symm.trans E
        cases E
        exact ea_return (pc := 92) dX10_linkMinutes_92 rfl
      · have E := (if_neg c18).symm.trans E
        refine ea_aload_n (pc := 18) dX10_linkMinutes_18 rfl 0 rfl ?_
        refine ea_getR (pc := 19) dX10_linkMinutes_19 ec_10 (k := 3) (Nat.le_of_ble_eq_true rfl) rfl (Or.inl ew_230) (hs.1 13 (by decide)).1 (hs.1 13 (by decide)).2.1 rfl ?_
        refine ea_iload_n (pc := 22) dX10_linkMinutes_22 rfl 1 rfl ?_
        obtain ⟨e3, E⟩ := gd_some E
        obtain ⟨f4, E⟩ := gd_some E
        obtain ⟨z5, E⟩ := gd_some E
        refine ea_deref1 e3 ?_
        refine ea_iald (pc := 23) dX10_linkMinutes_23 f4.1 f4.2 z5 ?_
        refine ea_istore_n (pc := 24) (lv' := [(0, vR (some (b0 + 13))), (1, vI x1), (2, vI (ea_i h (Option.getD (ea_r h (b0 + 13) 3) 0) (Int32.toNatClampNeg x1)))]) dX10_linkMinutes_24 rfl (Nat.le_of_ble_eq_true rfl) [1, 2, 0] rfl ?_
        refine ea_iload_n (pc := 25) dX10_linkMinutes_25 rfl 2 rfl ?_
        refine ea_callS (pc := 26) (d' := d - 1) (As := [vI (ea_i h (Option.getD (ea_r h (b0 + 13) 3) 0) (Int32.toNatClampNeg x1))]) (st := []) dX10_linkMinutes_26 kX10_isGoing (sX10_isGoing (d := d - 1) (by omega)) (by omega) rfl (Nat.le_of_ble_eq_true rfl) ew_589 ew_590 ?_
        refine ea_if_eq (pc := 29) (tgt := 86) dX10_linkMinutes_29 rfl (fun c17 => ?_) (fun c17 => ?_)
        · have E := (if_pos c17).symm.trans E
          refine ea_iinc (pc := 86) (v := 1) (lv' := [(0, vR (some (b0 + 13))), (1, vI (x1 + (1 : Int32)))]) dX10_linkMinutes_86 1 rfl rfl (Nat.le_of_ble_eq_true rfl) [1, 0] rfl ?_
          refine ea_goto (pc := 89) (tgt := 10) dX10_linkMinutes_89 rfl ?_
          exact ((ih 10 ((x1 + (1 : Int32)) : Int32) 0 0 h _ _ E hs).2.1 rfl)
        · have E := (if_neg c17).symm.trans E
          refine ea_aload_n (pc := 32) dX10_linkMinutes_32 rfl 0 rfl ?_
          refine ea_iload_n (pc := 33) dX10_linkMinutes_33 rfl 2 rfl ?_
          obtain ⟨z7, E⟩ := gd_some E
          refine ea_callV (pc := 34) (d' := d - 1) (As := [vI (ea_i h (Option.getD (ea_r h (b0 + 13) 3) 0) (Int32.toNatClampNeg x1))]) (st := []) dX10_linkMinutes_34 kX10_townIn (sX10_townIn (d := d - 1) (by omega) hs z7) (by omega) rfl (Nat.le_of_ble_eq_true rfl) ew_592 ew_594 ew_7 (ci := 10) rfl (by decide) (hs.1 13 (by decide)).1 (hs.1 13 (by decide)).2.1 ?_
          refine ea_istore_n (pc := 37) (lv' := [(0, vR (some (b0 + 13))), (1, vI x1), (2, vI (ea_i h (Option.getD (ea_r h (b0 + 13) 3) 0) (Int32.toNatClampNeg x1))), (3, vI (vX10_townIn b0 ((ea_i h (Option.getD (ea_r h (b0 + 13) 3) 0) (Int32.toNatClampNeg x1)) : Int32) h))]) dX10_linkMinutes_37 rfl (Nat.le_of_ble_eq_true rfl) [1, 2, 3, 0] rfl ?_
          refine ea_aload_n (pc := 38) dX10_linkMinutes_38 rfl 0 rfl ?_
          refine ea_getR (pc := 39) dX10_linkMinutes_39 ec_10 (k := 8) (Nat.le_of_ble_eq_true rfl) rfl (Or.inl ew_235) (hs.1 13 (by decide)).1 (hs.1 13 (by decide)).2.1 (hs.2 13 8 rfl) ?_
          refine ea_iload_n (pc := 42) dX10_linkMinutes_42 rfl 3 rfl ?_
          obtain ⟨z8, E⟩ := gd_some E
          refine ea_iald (pc := 43) dX10_linkMinutes_43 (hs.1 15 (by decide)).1 (hs.1 15 (by decide)).2.1 (ea_vpl (hs.1 15 (by decide)).2.2 z8) ?_
          refine ea_iload_n (pc := 44) dX10_linkMinutes_44 rfl 2 rfl ?_
          refine ea_callS (pc := 45) (d' := d - 1) (As := [vI (ea_i h (Option.getD (ea_r h (b0 + 13) 3) 0) (Int32.toNatClampNeg x1))]) (st := [vI (ea_i h (b0 + 15) (Int32.toNatClampNeg (vX10_townIn b0 ((ea_i h (Option.getD (ea_r h (b0 + 13) 3) 0) (Int32.toNatClampNeg x1)) : Int32) h)))]) dX10_linkMinutes_45 kX10_minuteIn (sX10_minuteIn (d := d - 1) (by omega)) (by omega) rfl (Nat.le_of_ble_eq_true rfl) ew_602 ew_603 ?_
          refine ea_icmp_eq (pc := 48) (tgt := 71) dX10_linkMinutes_48 rfl (fun c16 => ?_) (fun c16 => ?_)
          · have E := (if_pos c16).symm.trans E
            exact ((ih 71 (x1 : Int32) ((ea_i h (Option.getD (ea_r h (b0 + 13) 3) 0) (Int32.toNatClampNeg x1)) : Int32) ((vX10_townIn b0 ((ea_i h (Option.getD (ea_r h (b0 + 13) 3) 0) (Int32.toNatClampNeg x1)) : Int32) h) : Int32) h _ _ E hs).2.2 rfl)
          · have E := (if_neg c16).symm.trans E
            refine ea_aload_n (pc := 51) dX10_linkMinutes_51 rfl 0 rfl ?_
            refine ea_getR (pc := 52) dX10_linkMinutes_52 ec_10 (k := 8) (Nat.le_of_ble_eq_true rfl) rfl (Or.inl ew_235) (hs.1 13 (by decide)).1 (hs.1 13 (by decide)).2.1 (hs.2 13 8 rfl) ?_
            refine ea_iload_n (pc := 55) dX10_linkMinutes_55 rfl 3 rfl ?_
            refine ea_iload_n (pc := 56) dX10_linkMinutes_56 rfl 2 rfl ?_
            refine ea_callS (pc := 57) (d' := d - 1) (As := [vI (ea_i h (Option.getD (ea_r h (b0 + 13) 3) 0) (Int32.toNatClampNeg x1))]) (st := [vI (vX10_townIn b0 ((ea_i h (Option.getD (ea_r h (b0 + 13) 3) 0) (Int32.toNatClampNeg x1)) : Int32) h), vR (some (b0 + 15))]) dX10_linkMinutes_57 kX10_minuteIn (sX10_minuteIn (d := d - 1) (by omega)) (by omega) rfl (Nat.le_of_ble_eq_true rfl) ew_602 ew_603 ?_
            obtain ⟨z11, E⟩ := gd_some E
            refine ea_iast (pc := 60) dX10_linkMinutes_60 (hs.1 15 (by decide)).1 (hs.1 15 (by decide)).2.1 (ea_vpl (hs.1 15 (by decide)).2.2 z11) ?_
            have hs12 : ShC b0 (ea_wi h (b0 + 15) (Int32.toNatClampNeg (vX10_townIn b0 ((ea_i h (Option.getD (ea_r h (b0 + 13) 3) 0) (Int32.toNatClampNeg x1)) : Int32) h)) (vX10_minuteIn ((ea_i h (Option.getD (ea_r h (b0 + 13) 3) 0) (Int32.toNatClampNeg x1)) : Int32) h)) := ShC_wi hs
            refine ea_aload_n (pc := 61) dX10_linkMinutes_61 rfl 0 rfl ?_
            refine ea_getR (pc := 62) dX10_linkMinutes_62 ec_10 (k := 7) (Nat.le_of_ble_eq_true rfl) rfl (Or.inl ew_234) (hs12.1 13 (by decide)).1 (hs12.1 13 (by decide)).2.1 (hs12.2 13 7 rfl) ?_
            refine ea_iload_n (pc := 65) dX10_linkMinutes_65 rfl 3 rfl ?_
            refine ea_iload_n (pc := 66) dX10_linkMinutes_66 rfl 2 rfl ?_
            refine ea_callS (pc := 67) (d' := d - 1) (As := [vI (ea_i h (Option.getD (ea_r h (b0 + 13) 3) 0) (Int32.toNatClampNeg x1))]) (st := [vI (vX10_townIn b0 ((ea_i h (Option.getD (ea_r h (b0 + 13) 3) 0) (Int32.toNatClampNeg x1)) : Int32) h), vR (some (b0 + 14))]) dX10_linkMinutes_67 kX10_slotIn (sX10_slotIn (d := d - 1) (by omega)) (by omega) rfl (Nat.le_of_ble_eq_true rfl) ew_605 ew_606 ?_
            obtain ⟨z14, E⟩ := gd_some E
            refine ea_iast (pc := 70) dX10_linkMinutes_70 (hs12.1 14 (by decide)).1 (hs12.1 14 (by decide)).2.1 (ea_vpl (hs12.1 14 (by decide)).2.2 z14) ?_
            have hs15 : ShC b0 (ea_wi (ea_wi h (b0 + 15) (Int32.toNatClampNeg (vX10_townIn b0 ((ea_i h (Option.getD (ea_r h (b0 + 13) 3) 0) (Int32.toNatClampNeg x1)) : Int32) h)) (vX10_minuteIn ((ea_i h (Option.getD (ea_r h (b0 + 13) 3) 0) (Int32.toNatClampNeg x1)) : Int32) h)) (b0 + 14) (Int32.toNatClampNeg (vX10_townIn b0 ((ea_i h (Option.getD (ea_r h (b0 + 13) 3) 0) (Int32.toNatClampNeg x1)) : Int32) h)) (vX10_slotIn ((ea_i h (Option.getD (ea_r h (b0 + 13) 3) 0) (Int32.toNatClampNeg x1)) : Int32) (ea_wi h (b0 + 15) (Int32.toNatClampNeg (vX10_townIn b0 ((ea_i h (Option.getD (ea_r h (b0 + 13) 3) 0) (Int32.toNatClampNeg x1)) : Int32) h)) (vX10_minuteIn ((ea_i h (Option.getD (ea_r h (b0 + 13) 3) 0) (Int32.toNatClampNeg x1)) : Int32) h)))) := ShC_wi hs12
            exact ((ih 71 (x1 : Int32) ((ea_i h (Option.getD (ea_r h (b0 + 13) 3) 0) (Int32.toNatClampNeg x1)) : Int32) ((vX10_townIn b0 ((ea_i h (Option.getD (ea_r h (b0 + 13) 3) 0) (Int32.toNatClampNeg x1)) : Int32) h) : Int32) (ea_wi (ea_wi h (b0 + 15) (Int32.toNatClampNeg (vX10_townIn b0 ((ea_i h (Option.getD (ea_r h (b0 + 13) 3) 0) (Int32.toNatClampNeg x1)) : Int32) h)) (vX10_minuteIn ((ea_i h (Option.getD (ea_r h (b0 + 13) 3) 0) (Int32.toNatClampNeg x1)) : Int32) h)) (b0 + 14) (Int32.toNatClampNeg (vX10_townIn b0 ((ea_i h (Option.getD (ea_r h (b0 + 13) 3) 0) (Int32.toNatClampNeg x1)) : Int32) h)) (vX10_slotIn ((ea_i h (Option.getD (ea_r h (b0 + 13) 3) 0) (Int32.toNatClampNeg x1)) : Int32) (ea_wi h (b0 + 15) (Int32.toNatClampNeg (vX10_townIn b0 ((ea_i h (Option.getD (ea_r h (b0 + 13) 3) 0) (Int32.toNatClampNeg x1)) : Int32) h)) (vX10_minuteIn ((ea_i h (Option.getD (ea_r h (b0 + 13) 3) 0) (Int32.toNatClampNeg x1)) : Int32) h)))) _ _ E hs15).2.2 rfl)
    intro el
    subst el
    have E := (if_neg (by decide)).symm.trans E
    have E := (if_neg (by decide)).symm.trans E
    have E := (if_pos rfl).symm.trans E
    refine ea_aload_n (pc := 71) dX10_linkMinutes_71 rfl 0 rfl ?_
    refine ea_getR (pc := 72) dX10_linkMinutes_72 ec_10 (k := 6) (Nat.le_of_ble_eq_true rfl) rfl (Or.inl ew_233) (hs.1 13 (by decide)).1 (hs.1 13 (by decide)).2.1 rfl ?_
    refine ea_iload_n (pc := 75) dX10_linkMinutes_75 rfl 2 rfl ?_
    refine ea_callS (pc := 76) (d' := d - 1) (As := [vI x2]) (st := [vR (ea_r h (b0 + 13) 6)]) dX10_linkMinutes_76 kX10_slotIn (sX10_slotIn (d := d - 1) (by omega)) (by omega) rfl (Nat.le_of_ble_eq_true rfl) ew_605 ew_606 ?_
    refine ea_aload_n (pc := 79) dX10_linkMinutes_79 rfl 0 rfl ?_
    refine ea_getR (pc := 80) dX10_linkMinutes_80 ec_10 (k := 7) (Nat.le_of_ble_eq_true rfl) rfl (Or.inl ew_234) (hs.1 13 (by decide)).1 (hs.1 13 (by decide)).2.1 (hs.2 13 7 rfl) ?_
    refine ea_iload_n (pc := 83) dX10_linkMinutes_83 rfl 3 rfl ?_
    obtain ⟨z20, E⟩ := gd_some E
    refine ea_iald (pc := 84) dX10_linkMinutes_84 (hs.1 14 (by decide)).1 (hs.1 14 (by decide)).2.1 (ea_vpl (hs.1 14 (by decide)).2.2 z20) ?_
    obtain ⟨e21, E⟩ := gd_some E
    obtain ⟨f22, E⟩ := gd_some E
    obtain ⟨z23, E⟩ := gd_some E
    refine ea_deref2 e21 ?_
    refine ea_iast (pc := 85) dX10_linkMinutes_85 f22.1 f22.2 z23 ?_
    have hs24 : ShC b0 (ea_wi h (Option.getD (ea_r h (b0 + 13) 6) 0) (Int32.toNatClampNeg (vX10_slotIn (x2 : Int32) h)) (ea_i h (b0 + 14) (Int32.toNatClampNeg x3))) := ShC_wi hs
    refine ea_iinc (pc := 86) (v := 1) (lv' := [(0, vR (some (b0 + 13))), (1, vI (x1 + (1 : Int32)))]) dX10_linkMinutes_86 1 rfl rfl (Nat.le_of_ble_eq_true rfl) [1, 0] rfl ?_
    refine ea_goto (pc := 89) (tgt := 10) dX10_linkMinutes_89 rfl ?_
    exact ((ih 10 ((x1 + (1 : Int32)) : Int32) 0 0 (ea_wi h (Option.getD (ea_r h (b0 + 13) 6) 0) (Int32.toNatClampNeg (vX10_slotIn (x2 : Int32) h)) (ea_i h (b0 + 14) (Int32.toNatClampNeg x3))) _ _ E hs24).2.1 rfl)
noncomputable def qX10_linkMinutes (b0 : Nat) (h : ea_H) : Option (Unit × ea_H) := gX10_linkMinutes b0 1000000000 0 0 0 0 h
def okX10_linkMinutes (b0 : Nat) (h : ea_H) : Prop := ∃ x, qX10_linkMinutes b0 h = some x
noncomputable def wX10_linkMinutes (b0 : Nat) (h : ea_H) : ea_H := ((qX10_linkMinutes b0 h).getD ((), h)).2
theorem sX10_linkMinutes {d : Nat} {b0 : Nat} {h : ea_H} (hd : 3 ≤ d) (hs : ShC b0 h) (K : okX10_linkMinutes b0 h) : ea_Met mX10_linkMinutes d [vR (some (b0 + 13))] h none (wX10_linkMinutes b0 h) := by
  obtain ⟨⟨x, y⟩, K⟩ := K
  unfold wX10_linkMinutes
  rw [K]
  unfold qX10_linkMinutes at K
  exact ea_enter rfl (Nat.le_of_ble_eq_true rfl) ((tX10_linkMinutes hd 1000000000 0 0 0 0 h x y K hs).1 rfl)
theorem zX10_linkMinutes {b0 : Nat} : ∀ (f lbl : Nat) (x1 : Int32) (x2 : Int32) (x3 : Int32) (h : ea_H) (r : Unit) (h' : ea_H), gX10_linkMinutes b0 f lbl x1 x2 x3 h = some (r, h') → ShC b0 h → ShC b0 h' := by
  intro f
  induction f with
  | zero => intro lbl x1 x2 x3 h r h' E; cases E
  | succ f ih =>
    intro lbl x1 x2 x3 h r h' E hs
    unfold gX10_linkMinutes at E
    by_cases el0 : lbl = 0
    · have E := (if_pos el0).symm.trans E
      obtain ⟨z1, E⟩ := gd_some E
      exact ih 10 (0 : Int32) 0 0 (wJ7_fill_53178 b0 ((some (b0 + 15)) : Option Nat) ((-1) : Int32) h) _ _ E (shJ7_fill_53178 hs)
    have E := (if_neg el0).symm.trans E
    by_cases el1 : lbl = 10
    · have E := (if_pos el1).symm.trans E
      by_cases c18 : (ea_i h (b0 + 13) 1) ≤ x1
      · have E := (if_pos c18).symm.trans E
        cases E
        exact hs
      have E := (if_neg c18).symm.trans E
      obtain ⟨e3, E⟩ := gd_some E
      obtain ⟨f4, E⟩ := gd_some E
      obtain ⟨z5, E⟩ := gd_some E
      by_cases c17 : (vX10_isGoing ((ea_i h (Option.getD (ea_r h (b0 + 13) 3) 0) (Int32.toNatClampNeg x1)) : Int32) h) = (0 : Int32)
      · have E := (if_pos c17).symm.trans E
        exact ih 10 ((x1 + (1 : Int32)) : Int32) 0 0 h _ _ E hs
      have E := (if_neg c17).symm.trans E
      obtain ⟨z7, E⟩ := gd_some E
      obtain ⟨z8, E⟩ := gd_some E
      by_cases c16 : (ea_i h (b0 + 15) (Int32.toNatClampNeg (vX10_townIn b0 ((ea_i h (Option.getD (ea_r h (b0 + 13) 3) 0) (Int32.toNatClampNeg x1)) : Int32) h))) = (vX10_minuteIn ((ea_i h (Option.getD (ea_r h (b0 + 13) 3) 0) (Int32.toNatClampNeg x1)) : Int32) h)
      · have E := (if_pos c16).symm.trans E
        exact ih 71 (x1 : Int32) ((ea_i h (Option.getD (ea_r h (b0 + 13) 3) 0) (Int32.toNatClampNeg x1)) : Int32) ((vX10_townIn b0 ((ea_i h (Option.getD (ea_r h (b0 + 13) 3) 0) (Int32.toNatClampNeg x1)) : Int32) h) : Int32) h _ _ E hs
      have E := (if_neg c16).symm.trans E
      obtain ⟨z11, E⟩ := gd_some E
      obtain ⟨z14, E⟩ := gd_some E
      exact ih 71 (x1 : Int32) ((ea_i h (Option.getD (ea_r h (b0 + 13) 3) 0) (Int32.toNatClampNeg x1)) : Int32) ((vX10_townIn b0 ((ea_i h (Option.getD (ea_r h (b0 + 13) 3) 0) (Int32.toNatClampNeg x1)) : Int32) h) : Int32) (ea_wi (ea_wi h (b0 + 15) (Int32.toNatClampNeg (vX10_townIn b0 ((ea_i h (Option.getD (ea_r h (b0 + 13) 3) 0) (Int32.toNatClampNeg x1)) : Int32) h)) (vX10_minuteIn ((ea_i h (Option.getD (ea_r h (b0 + 13) 3) 0) (Int32.toNatClampNeg x1)) : Int32) h)) (b0 + 14) (Int32.toNatClampNeg (vX10_townIn b0 ((ea_i h (Option.getD (ea_r h (b0 + 13) 3) 0) (Int32.toNatClampNeg x1)) : Int32) h)) (vX10_slotIn ((ea_i h (Option.getD (ea_r h (b0 + 13) 3) 0) (Int32.toNatClampNeg x1)) : Int32) (ea_wi h (b0 + 15) (Int32.toNatClampNeg (vX10_townIn b0 ((ea_i h (Option.getD (ea_r h (b0 + 13) 3) 0) (Int32.toNatClampNeg x1)) : Int32) h)) (vX10_minuteIn ((ea_i h (Option.getD (ea_r h (b0 + 13) 3) 0) (Int32.toNatClampNeg x1)) : Int32) h)))) _ _ E (ShC_wi (ShC_wi hs))
    have E := (if_neg el1).symm.trans E
    by_cases el2 : lbl = 71
    · have E := (if_pos el2).symm.trans E
      obtain ⟨z20, E⟩ := gd_some E
      obtain ⟨e21, E⟩ := gd_some E
      obtain ⟨f22, E⟩ := gd_some E
      obtain ⟨z23, E⟩ := gd_some E
      exact ih 10 ((x1 + (1 : Int32)) : Int32) 0 0 (ea_wi h (Option.getD (ea_r h (b0 + 13) 6) 0) (Int32.toNatClampNeg (vX10_slotIn (x2 : Int32) h)) (ea_i h (b0 + 14) (Int32.toNatClampNeg x3))) _ _ E (ShC_wi hs)
    have E := (if_neg el2).symm.trans E
    cases E
theorem shX10_linkMinutes {b0 : Nat} {h : ea_H} (hs : ShC b0 h) : ShC b0 (wX10_linkMinutes b0 h) := by
  unfold wX10_linkMinutes
  cases K : qX10_linkMinutes b0 h with
  | none => exact hs
  | some x => obtain ⟨x, y⟩ := x; unfold qX10_linkMinutes at K; exact zX10_linkMinutes _ _ _ _ _ _ _ _ K hs
noncomputable def gX10_takeRun (b0 : Nat) : Nat → Nat → Int64 → Int32 → Int32 → Int32 → Int32 → Int64 → ea_H → Option (Unit × ea_H)
  | 0, _, _, _, _, _, _, _, _ => none
  | f + 1, lbl, sy0, x1, x2, x3, x4, y5, h =>
    if lbl = 0 then (gX10_takeRun b0 f 3 0 (x1 : Int32) (x2 : Int32) (x3 : Int32) (0 : Int32) 0 h) else
    if lbl = 3 then (if (12 : Int32) ≤ x4 then (gd (vp_in x3 12) (some ((), (ea_wi h (b0 + 14) (Int32.toNatClampNeg x3) x2)))) else (gd ((ea_r h (b0 + 13) 5) = some (Option.getD (ea_r h (b0 + 13) 5) 0)) (gd (((Option.getD (ea_r h (b0 + 13) 5) 0) < ea_n h ∧ ea_c h (Option.getD (ea_r h (b0 + 13) 5) 0) = 22)) (gd (vp_in (((12 : Int32) * (x2 / (8 : Int32))) + x4) (ea_l h (Option.getD (ea_r h (b0 + 13) 5) 0))) (if (lg_cmp (ea_j h (Option.getD (ea_r h (b0 + 13) 5) 0) (Int32.toNatClampNeg (((12 : Int32) * (x2 / (8 : Int32))) + x4))) (9223372036854775807 : Int64)) = (0 : Int32) then (gX10_takeRun b0 f 48 0 (x1 : Int32) (x2 : Int32) (x3 : Int32) (x4 : Int32) ((ea_j h (Option.getD (ea_r h (b0 + 13) 5) 0) (Int32.toNatClampNeg (((12 : Int32) * (x2 / (8 : Int32))) + x4))) : Int64) h) else (gX10_takeRun b0 f 48 0 (x1 : Int32) (x2 : Int32) (x3 : Int32) (x4 : Int32) (((ea_j h (Option.getD (ea_r h (b0 + 13) 5) 0) (Int32.toNatClampNeg (((12 : Int32) * (x2 / (8 : Int32))) + x4))) + ((Int32.toInt64 (vX10_stopIn (x1 : Int32) h)) <<< (Int32.toInt64 3 &&& 63))) : Int64) h)))))) else
    if lbl = 48 then (gd (vp_in x3 12) (if (0 : Int32) ≤ (ea_i h (b0 + 14) (Int32.toNatClampNeg x3)) then (gd (vp_in x3 12) (gd ((ea_r h (b0 + 13) 4) = some (Option.getD (ea_r h (b0 + 13) 4) 0)) (gd (((Option.getD (ea_r h (b0 + 13) 4) 0) < ea_n h ∧ ea_c h (Option.getD (ea_r h (b0 + 13) 4) 0) = 22)) (gd (vp_in (((12 : Int32) * (ea_i h (b0 + 14) (Int32.toNatClampNeg x3))) + x4) (ea_l h (Option.getD (ea_r h (b0 + 13) 4) 0))) (gX10_takeRun b0 f 80 ((ea_j h (Option.getD (ea_r h (b0 + 13) 4) 0) (Int32.toNatClampNeg (((12 : Int32) * (ea_i h (b0 + 14) (Int32.toNatClampNeg x3))) + x4))) : Int64) (x1 : Int32) (x2 : Int32) (x3 : Int32) (x4 : Int32) (y5 : Int64) h))))) else (gX10_takeRun b0 f 80 (9223372036854775807 : Int64) (x1 : Int32) (x2 : Int32) (x3 : Int32) (x4 : Int32) (y5 : Int64) h))) else
    if lbl = 80 then (gd ((ea_r h (b0 + 13) 4) = some (Option.getD (ea_r h (b0 + 13) 4) 0)) (gd (((Option.getD (ea_r h (b0 + 13) 4) 0) < ea_n h ∧ ea_c h (Option.getD (ea_r h (b0 + 13) 4) 0) = 22)) (gd (vp_in (((12 : Int32) * x2) + x4) (ea_l h (Option.getD (ea_r h (b0 + 13) 4) 0))) (gX10_takeRun b0 f 3 0 (x1 : Int32) (x2 : Int32) (x3 : Int32) ((x4 + (1 : Int32)) : Int32) 0 (ea_wj h (Option.getD (ea_r h (b0 + 13) 4) 0) (Int32.toNatClampNeg (((12 : Int32) * x2) + x4)) (vJ9_min_f86c9 (y5 : Int64) (sy0 : Int64) h)))))) else none
theorem tX10_takeRun {d : Nat} {b0 : Nat} {h0 : ea_H} (hd : 2 ≤ d) : ∀ (f lbl : Nat) (sy0 : Int64) (x1 : Int32) (x2 : Int32) (x3 : Int32) (x4 : Int32) (y5 : Int64) (h : ea_H) (r : Unit) (h' : ea_H), gX10_takeRun b0 f lbl sy0 x1 x2 x3 x4 y5 h = some (r, h') → ShC b0 h → (lbl = 0 → ea_W mX10_takeRun d h0 none h' 0 [(0, vR (some (b0 + 13))), (1, vI x1), (2, vI x2), (3, vI x3)] [] h) ∧ (lbl = 3 → ea_W mX10_takeRun d h0 none h' 3 [(0, vR (some (b0 + 13))), (1, vI x1), (2, vI x2), (3, vI x3), (4, vI x4)] [] h) ∧ (lbl = 48 → ea_W mX10_takeRun d h0 none h' 48 [(0, vR (some (b0 + 13))), (1, vI x1), (2, vI x2), (3, vI x3), (4, vI x4), (5, vJ y5)] [] h) ∧ (lbl = 80 → ea_W mX10_takeRun d h0 none h' 80 [(0, vR (some (b0 + 13))), (1, vI x1), (2, vI x2), (3, vI x3), (4, vI x4), (5, vJ y5)] [vJ sy0] h) := by
  intro f
  induction f with
  | zero => intro lbl sy0 x1 x2 x3 x4 y5 h r h' E; cases E
  | succ f ih =>
    intro lbl sy0 x1 x2 x3 x4 y5 h r h' E hs
    unfold gX10_takeRun at E
    refine ⟨?_, ?_⟩
    · intro el
      subst el
      have E := (if_pos rfl).symm.trans E
      refine ea_iconst (pc := 0) dX10_takeRun_0 (v := 0) rfl ?_
      refine ea_istore (pc := 1) (lv' := [(0, vR (some (b0 + 13))), (1, vI x1), (2, vI x2), (3, vI x3), (4, vI 0)]) dX10_takeRun_1 (Nat.le_of_ble_eq_true rfl) [1, 2, 3, 4, 0] rfl ?_
      exact ((ih 3 0 (x1 : Int32) (x2 : Int32) (x3 : Int32) (0 : Int32) 0 h _ _ E hs).2.1 rfl)
    refine ⟨?_, ?_⟩
    · intro el
      subst el
      have E := (if_neg (by decide)).symm.trans E
      have E := (if_pos rfl).symm.trans E
      refine ea_iload (pc := 3) dX10_takeRun_3 4 rfl ?_
      refine ea_bipush (pc := 5) dX10_takeRun_5 (v := 12) rfl ?_
      refine ea_icmp_ge (pc := 7) (tgt := 107) dX10_takeRun_7 rfl (fun c8 => ?_) (fun c8 => ?_)
      · have E := (if_pos c8).symm.trans E
        refine ea_aload_n (pc := 107) dX10_takeRun_107 rfl 0 rfl ?_
        refine ea_getR (pc := 108) dX10_takeRun_108 ec_10 (k := 7) (Nat.le_of_ble_eq_true rfl) rfl (Or.inl ew_234) (hs.1 13 (by decide)).1 (hs.1 13 (by decide)).2.1 (hs.2 13 7 rfl) ?_
        refine ea_iload_n (pc := 111) dX10_takeRun_111 rfl 3 rfl ?_
        refine ea_iload_n (pc := 112) dX10_takeRun_112 rfl 2 rfl ?_
        obtain ⟨z1, E⟩ := gd_some E
        refine ea_iast (pc := 113) dX10_takeRun_113 (hs.1 14 (by decide)).1 (hs.1 14 (by decide)).2.1 (ea_vpl (hs.1 14 (by decide)).2.2 z1) ?_
        have hs2 : ShC b0 (ea_wi h (b0 + 14) (Int32.toNatClampNeg x3) x2) := ShC_wi hs
        cases E
        exact ea_return (pc := 114) dX10_takeRun_114 rfl
      · have E := (if_neg c8).symm.trans E
        refine ea_aload_n (pc := 10) dX10_takeRun_10 rfl 0 rfl ?_
        refine ea_getR (pc := 11) dX10_takeRun_11 ec_10 (k := 5) (Nat.le_of_ble_eq_true rfl) rfl (Or.inl ew_232) (hs.1 13 (by decide)).1 (hs.1 13 (by decide)).2.1 rfl ?_
        refine ea_bipush (pc := 14) dX10_takeRun_14 (v := 12) rfl ?_
        refine ea_iload_n (pc := 16) dX10_takeRun_16 rfl 2 rfl ?_
        refine ea_bipush (pc := 17) dX10_takeRun_17 (v := 8) rfl ?_
        refine ea_idiv (pc := 19) dX10_takeRun_19 (by decide) ?_
        refine ea_imul (pc := 20) dX10_takeRun_20 ?_
        refine ea_iload (pc := 21) dX10_takeRun_21 4 rfl ?_
        refine ea_iadd (pc := 23) dX10_takeRun_23 ?_
        obtain ⟨e3, E⟩ := gd_some E
        obtain ⟨f4, E⟩ := gd_some E
        obtain ⟨z5, E⟩ := gd_some E
        refine ea_deref1 e3 ?_
        refine ea_lald (pc := 24) dX10_takeRun_24 f4.1 f4.2 z5 ?_
        refine ea_lstore (pc := 25) (lv' := [(0, vR (some (b0 + 13))), (1, vI x1), (2, vI x2), (3, vI x3), (4, vI x4), (5, vJ (ea_j h (Option.getD (ea_r h (b0 + 13) 5) 0) (Int32.toNatClampNeg (((12 : Int32) * (x2 / (8 : Int32))) + x4))))]) dX10_takeRun_25 (Nat.le_of_ble_eq_true rfl) [1, 2, 3, 4, 5, 0] rfl ?_
        refine ea_lload (pc := 27) dX10_takeRun_27 5 rfl ?_
        refine ea_ldc2 (pc := 29) dX10_takeRun_29 ew_615 ?_
        refine ea_lcmp (pc := 32) dX10_takeRun_32 ?_
        refine ea_if_eq (pc := 33) (tgt := 48) dX10_takeRun_33 rfl (fun c7 => ?_) (fun c7 => ?_)
        · have E := (if_pos c7).symm.trans E
          exact ((ih 48 0 (x1 : Int32) (x2 : Int32) (x3 : Int32) (x4 : Int32) ((ea_j h (Option.getD (ea_r h (b0 + 13) 5) 0) (Int32.toNatClampNeg (((12 : Int32) * (x2 / (8 : Int32))) + x4))) : Int64) h _ _ E hs).2.2.1 rfl)
        · have E := (if_neg c7).symm.trans E
          refine ea_lload (pc := 36) dX10_takeRun_36 5 rfl ?_
          refine ea_iload_n (pc := 38) dX10_takeRun_38 rfl 1 rfl ?_
          refine ea_callS (pc := 39) (d' := d - 1) (As := [vI x1]) (st := [vJ (ea_j h (Option.getD (ea_r h (b0 + 13) 5) 0) (Int32.toNatClampNeg (((12 : Int32) * (x2 / (8 : Int32))) + x4)))]) dX10_takeRun_39 kX10_stopIn (sX10_stopIn (d := d - 1) (by omega)) (by omega) rfl (Nat.le_of_ble_eq_true rfl) ew_599 ew_600 ?_
          refine ea_i2l (pc := 42) dX10_takeRun_42 ?_
          refine ea_iconst (pc := 43) dX10_takeRun_43 (v := 3) rfl ?_
          refine ea_lshl (pc := 44) dX10_takeRun_44 ?_
          refine ea_ladd (pc := 45) dX10_takeRun_45 ?_
          refine ea_lstore (pc := 46) (lv' := [(0, vR (some (b0 + 13))), (1, vI x1), (2, vI x2), (3, vI x3), (4, vI x4), (5, vJ ((ea_j h (Option.getD (ea_r h (b0 + 13) 5) 0) (Int32.toNatClampNeg (((12 : Int32) * (x2 / (8 : Int32))) + x4))) + ((Int32.toInt64 (vX10_stopIn (x1 : Int32) h)) <<< (Int32.toInt64 3 &&& 63))))]) dX10_takeRun_46 (Nat.le_of_ble_eq_true rfl) [1, 2, 3, 4, 5, 0] rfl ?_
          exact ((ih 48 0 (x1 : Int32) (x2 : Int32) (x3 : Int32) (x4 : Int32) (((ea_j h (Option.getD (ea_r h (b0 + 13) 5) 0) (Int32.toNatClampNeg (((12 : Int32) * (x2 / (8 : Int32))) + x4))) + ((Int32.toInt64 (vX10_stopIn (x1 : Int32) h)) <<< (Int32.toInt64 3 &&& 63))) : Int64) h _ _ E hs).2.2.1 rfl)
    refine ⟨?_, ?_⟩
    · intro el
      subst el
      have E := (if_neg (by decide)).symm.trans E
      have E := (if_neg (by decide)).symm.trans E
      have E := (if_pos rfl).symm.trans E
      refine ea_aload_n (pc := 48) dX10_takeRun_48 rfl 0 rfl ?_
      refine ea_getR (pc := 49) dX10_takeRun_49 ec_10 (k := 7) (Nat.le_of_ble_eq_true rfl) rfl (Or.inl ew_234) (hs.1 13 (by decide)).1 (hs.1 13 (by decide)).2.1 (hs.2 13 7 rfl) ?_
      refine ea_iload_n (pc := 52) dX10_takeRun_52 rfl 3 rfl ?_
      obtain ⟨z9, E⟩ := gd_some E
      refine ea_iald (pc := 53) dX10_takeRun_53 (hs.1 14 (by decide)).1 (hs.1 14 (by decide)).2.1 (ea_vpl (hs.1 14 (by decide)).2.2 z9) ?_
      refine ea_if_ge (pc := 54) (tgt := 63) dX10_takeRun_54 rfl (fun c14 => ?_) (fun c14 => ?_)
      · have E := (if_pos c14).symm.trans E
        refine ea_aload_n (pc := 63) dX10_takeRun_63 rfl 0 rfl ?_
        refine ea_getR (pc := 64) dX10_takeRun_64 ec_10 (k := 4) (Nat.le_of_ble_eq_true rfl) rfl (Or.inl ew_231) (hs.1 13 (by decide)).1 (hs.1 13 (by decide)).2.1 rfl ?_
        refine ea_bipush (pc := 67) dX10_takeRun_67 (v := 12) rfl ?_
        refine ea_aload_n (pc := 69) dX10_takeRun_69 rfl 0 rfl ?_
        refine ea_getR (pc := 70) dX10_takeRun_70 ec_10 (k := 7) (Nat.le_of_ble_eq_true rfl) rfl (Or.inl ew_234) (hs.1 13 (by decide)).1 (hs.1 13 (by decide)).2.1 (hs.2 13 7 rfl) ?_
        refine ea_iload_n (pc := 73) dX10_takeRun_73 rfl 3 rfl ?_
        obtain ⟨z10, E⟩ := gd_some E
        refine ea_iald (pc := 74) dX10_takeRun_74 (hs.1 14 (by decide)).1 (hs.1 14 (by decide)).2.1 (ea_vpl (hs.1 14 (by decide)).2.2 z10) ?_
        refine ea_imul (pc := 75) dX10_takeRun_75 ?_
        refine ea_iload (pc := 76) dX10_takeRun_76 4 rfl ?_
        refine ea_iadd (pc := 78) dX10_takeRun_78 ?_
        obtain ⟨e11, E⟩ := gd_some E
        obtain ⟨f12, E⟩ := gd_some E
        obtain ⟨z13, E⟩ := gd_some E
        refine ea_deref1 e11 ?_
        refine ea_lald (pc := 79) dX10_takeRun_79 f12.1 f12.2 z13 ?_
        exact ((ih 80 ((ea_j h (Option.getD (ea_r h (b0 + 13) 4) 0) (Int32.toNatClampNeg (((12 : Int32) * (ea_i h (b0 + 14) (Int32.toNatClampNeg x3))) + x4))) : Int64) (x1 : Int32) (x2 : Int32) (x3 : Int32) (x4 : Int32) (y5 : Int64) h _ _ E hs).2.2.2 rfl)
      · have E := (if_neg c14).symm.trans E
        refine ea_ldc2 (pc := 57) dX10_takeRun_57 ew_615 ?_
        refine ea_goto (pc := 60) (tgt := 80) dX10_takeRun_60 rfl ?_
        exact ((ih 80 (9223372036854775807 : Int64) (x1 : Int32) (x2 : Int32) (x3 : Int32) (x4 : Int32) (y5 : Int64) h _ _ E hs).2.2.2 rfl)
    intro el
    subst el
    have E := (if_neg (by decide)).symm.trans E
    have E := (if_neg (by decide)).symm.trans E
    have E := (if_neg (by decide)).symm.trans E
    have E := (if_pos rfl).symm.trans E
    refine ea_lstore (pc := 80) (lv' := [(0, vR (some (b0 + 13))), (1, vI x1), (2, vI x2), (3, vI x3), (4, vI x4), (5, vJ y5), (7, vJ sy0)]) dX10_takeRun_80 (Nat.le_of_ble_eq_true rfl) [1, 2, 3, 4, 5, 6, 0] rfl ?_
    refine ea_aload_n (pc := 82) dX10_takeRun_82 rfl 0 rfl ?_
    refine ea_getR (pc := 83) dX10_takeRun_83 ec_10 (k := 4) (Nat.le_of_ble_eq_true rfl) rfl (Or.inl ew_231) (hs.1 13 (by decide)).1 (hs.1 13 (by decide)).2.1 rfl ?_
    refine ea_bipush (pc := 86) dX10_takeRun_86 (v := 12) rfl ?_
    refine ea_iload_n (pc := 88) dX10_takeRun_88 rfl 2 rfl ?_
    refine ea_imul (pc := 89) dX10_takeRun_89 ?_
    refine ea_iload (pc := 90) dX10_takeRun_90 4 rfl ?_
    refine ea_iadd (pc := 92) dX10_takeRun_92 ?_
    refine ea_lload (pc := 93) dX10_takeRun_93 5 rfl ?_
    refine ea_lload (pc := 95) dX10_takeRun_95 6 rfl ?_
    refine ea_callS (pc := 97) (d' := d - 1) (As := [vJ y5, vJ sy0]) (st := [vI (((12 : Int32) * x2) + x4), vR (ea_r h (b0 + 13) 4)]) dX10_takeRun_97 kJ9_min_f86c9 (sJ9_min_f86c9 (d := d - 1) (by omega)) (by omega) rfl (Nat.le_of_ble_eq_true rfl) ew_623 ew_624 ?_
    obtain ⟨e16, E⟩ := gd_some E
    obtain ⟨f17, E⟩ := gd_some E
    obtain ⟨z18, E⟩ := gd_some E
    refine ea_deref2 e16 ?_
    refine ea_last (pc := 100) dX10_takeRun_100 f17.1 f17.2 z18 ?_
    have hs19 : ShC b0 (ea_wj h (Option.getD (ea_r h (b0 + 13) 4) 0) (Int32.toNatClampNeg (((12 : Int32) * x2) + x4)) (vJ9_min_f86c9 (y5 : Int64) (sy0 : Int64) h)) := ShC_wj hs
    refine ea_iinc (pc := 101) (v := 1) (lv' := [(0, vR (some (b0 + 13))), (1, vI x1), (2, vI x2), (3, vI x3), (4, vI (x4 + (1 : Int32)))]) dX10_takeRun_101 4 rfl rfl (Nat.le_of_ble_eq_true rfl) [1, 2, 3, 4, 0] rfl ?_
    refine ea_goto (pc := 104) (tgt := 3) dX10_takeRun_104 rfl ?_
    exact ((ih 3 0 (x1 : Int32) (x2 : Int32) (x3 : Int32) ((x4 + (1 : Int32)) : Int32) 0 (ea_wj h (Option.getD (ea_r h (b0 + 13) 4) 0) (Int32.toNatClampNeg (((12 : Int32) * x2) + x4)) (vJ9_min_f86c9 (y5 : Int64) (sy0 : Int64) h)) _ _ E hs19).2.1 rfl)
noncomputable def qX10_takeRun (b0 : Nat) (x1 : Int32) (x2 : Int32) (x3 : Int32) (h : ea_H) : Option (Unit × ea_H) := gX10_takeRun b0 1000000000 0 0 x1 x2 x3 0 0 h
def okX10_takeRun (b0 : Nat) (x1 : Int32) (x2 : Int32) (x3 : Int32) (h : ea_H) : Prop := ∃ x, qX10_takeRun b0 x1 x2 x3 h = some x
noncomputable def wX10_takeRun (b0 : Nat) (x1 : Int32) (x2 : Int32) (x3 : Int32) (h : ea_H) : ea_H := ((qX10_takeRun b0 x1 x2 x3 h).getD ((), h)).2
theorem sX10_takeRun {d : Nat} {b0 : Nat} {x1 : Int32} {x2 : Int32} {x3 : Int32} {h : ea_H} (hd : 2 ≤ d) (hs : ShC b0 h) (K : okX10_takeRun b0 x1 x2 x3 h) : ea_Met mX10_takeRun d [vR (some (b0 + 13)), vI x1, vI x2, vI x3] h none (wX10_takeRun b0 x1 x2 x3 h) := by
  obtain ⟨⟨x, y⟩, K⟩ := K
  unfold wX10_takeRun
  rw [K]
  unfold qX10_takeRun at K
  exact ea_enter rfl (Nat.le_of_ble_eq_true rfl) ((tX10_takeRun hd 1000000000 0 0 x1 x2 x3 0 0 h x y K hs).1 rfl)
theorem zX10_takeRun {b0 : Nat} : ∀ (f lbl : Nat) (sy0 : Int64) (x1 : Int32) (x2 : Int32) (x3 : Int32) (x4 : Int32) (y5 : Int64) (h : ea_H) (r : Unit) (h' : ea_H), gX10_takeRun b0 f lbl sy0 x1 x2 x3 x4 y5 h = some (r, h') → ShC b0 h → ShC b0 h' := by
  intro f
  induction f with
  | zero => intro lbl sy0 x1 x2 x3 x4 y5 h r h' E; cases E
  | succ f ih =>
    intro lbl sy0 x1 x2 x3 x4 y5 h r h' E hs
    unfold gX10_takeRun at E
    by_cases el0 : lbl = 0
    · have E := (if_pos el0).symm.trans E
      exact ih 3 0 (x1 : Int32) (x2 : Int32) (x3 : Int32) (0 : Int32) 0 h _ _ E hs
    have E := (if_neg el0).symm.trans E
    by_cases el1 : lbl = 3
    · have E := (if_pos el1).symm.trans E
      by_cases c8 : (12 : Int32) ≤ x4
      · have E := (if_pos c8).symm.trans E
        obtain ⟨z1, E⟩ := gd_some E
        cases E
        exact (ShC_wi hs)
      have E := (if_neg c8).symm.trans E
      obtain ⟨e3, E⟩ := gd_some E
      obtain ⟨f4, E⟩ := gd_some E
      obtain ⟨z5, E⟩ := gd_some E
      by_cases c7 : (lg_cmp (ea_j h (Option.getD (ea_r h (b0 + 13) 5) 0) (Int32.toNatClampNeg (((12 : Int32) * (x2 / (8 : Int32))) + x4))) (9223372036854775807 : Int64)) = (0 : Int32)
      · have E := (if_pos c7).symm.trans E
        exact ih 48 0 (x1 : Int32) (x2 : Int32) (x3 : Int32) (x4 : Int32) ((ea_j h (Option.getD (ea_r h (b0 + 13) 5) 0) (Int32.toNatClampNeg (((12 : Int32) * (x2 / (8 : Int32))) + x4))) : Int64) h _ _ E hs
      have E := (if_neg c7).symm.trans E
      exact ih 48 0 (x1 : Int32) (x2 : Int32) (x3 : Int32) (x4 : Int32) (((ea_j h (Option.getD (ea_r h (b0 + 13) 5) 0) (Int32.toNatClampNeg (((12 : Int32) * (x2 / (8 : Int32))) + x4))) + ((Int32.toInt64 (vX10_stopIn (x1 : Int32) h)) <<< (Int32.toInt64 3 &&& 63))) : Int64) h _ _ E hs
    have E := (if_neg el1).symm.trans E
    by_cases el2 : lbl = 48
    · have E := (if_pos el2).symm.trans E
      obtain ⟨z9, E⟩ := gd_some E
      by_cases c14 : (0 : Int32) ≤ (ea_i h (b0 + 14) (Int32.toNatClampNeg x3))
      · have E := (if_pos c14).symm.trans E
        obtain ⟨z10, E⟩ := gd_some E
        obtain ⟨e11, E⟩ := gd_some E
        obtain ⟨f12, E⟩ := gd_some E
        obtain ⟨z13, E⟩ := gd_some E
        exact ih 80 ((ea_j h (Option.getD (ea_r h (b0 + 13) 4) 0) (Int32.toNatClampNeg (((12 : Int32) * (ea_i h (b0 + 14) (Int32.toNatClampNeg x3))) + x4))) : Int64) (x1 : Int32) (x2 : Int32) (x3 : Int32) (x4 : Int32) (y5 : Int64) h _ _ E hs
      have E := (if_neg c14).symm.trans E
      exact ih 80 (9223372036854775807 : Int64) (x1 : Int32) (x2 : Int32) (x3 : Int32) (x4 : Int32) (y5 : Int64) h _ _ E hs
    have E := (if_neg el2).symm.trans E
    by_cases el3 : lbl = 80
    · have E := (if_pos el3).symm.trans E
      obtain ⟨e16, E⟩ := gd_some E
      obtain ⟨f17, E⟩ := gd_some E
      obtain ⟨z18, E⟩ := gd_some E
      exact ih 3 0 (x1 : Int32) (x2 : Int32) (x3 : Int32) ((x4 + (1 : Int32)) : Int32) 0 (ea_wj h (Option.getD (ea_r h (b0 + 13) 4) 0) (Int32.toNatClampNeg (((12 : Int32) * x2) + x4)) (vJ9_min_f86c9 (y5 : Int64) (sy0 : Int64) h)) _ _ E (ShC_wj hs)
    have E := (if_neg el3).symm.trans E
    cases E
theorem shX10_takeRun {b0 : Nat} {x1 : Int32} {x2 : Int32} {x3 : Int32} {h : ea_H} (hs : ShC b0 h) : ShC b0 (wX10_takeRun b0 x1 x2 x3 h) := by
  unfold wX10_takeRun
  cases K : qX10_takeRun b0 x1 x2 x3 h with
  | none => exact hs
  | some x => obtain ⟨x, y⟩ := x; unfold qX10_takeRun at K; exact zX10_takeRun _ _ _ _ _ _ _ _ _ _ _ K hs
noncomputable def gX10_leaveRun (b0 : Nat) : Nat → Nat → Int64 → Int32 → Int32 → Int32 → Int32 → Int64 → Int64 → ea_H → Option (Unit × ea_H)
  | 0, _, _, _, _, _, _, _, _, _ => none
  | f + 1, lbl, sy0, x1, x2, x3, x6, y4, y9, h =>
    if lbl = 0 then (gX10_leaveRun b0 f 26 0 (x1 : Int32) (x2 : Int32) (x3 : Int32) (0 : Int32) ((Int32.toInt64 ((((vX10_trainIn (x1 : Int32) h) <<< ((9 : Int32) &&& 31)) ||| ((vX10_dayIn (x1 : Int32) h) <<< ((6 : Int32) &&& 31))) ||| (vX10_stopIn (x1 : Int32) h))) : Int64) 0 h) else
    if lbl = 26 then (if (12 : Int32) ≤ x6 then (some ((), h)) else (gd (vp_in x3 12) (if (0 : Int32) ≤ (ea_i h (b0 + 14) (Int32.toNatClampNeg x3)) then (gd (vp_in x3 12) (gd ((ea_r h (b0 + 13) 4) = some (Option.getD (ea_r h (b0 + 13) 4) 0)) (gd (((Option.getD (ea_r h (b0 + 13) 4) 0) < ea_n h ∧ ea_c h (Option.getD (ea_r h (b0 + 13) 4) 0) = 22)) (gd (vp_in (((12 : Int32) * (ea_i h (b0 + 14) (Int32.toNatClampNeg x3))) + x6) (ea_l h (Option.getD (ea_r h (b0 + 13) 4) 0))) (gX10_leaveRun b0 f 65 ((ea_j h (Option.getD (ea_r h (b0 + 13) 4) 0) (Int32.toNatClampNeg (((12 : Int32) * (ea_i h (b0 + 14) (Int32.toNatClampNeg x3))) + x6))) : Int64) (x1 : Int32) (x2 : Int32) (x3 : Int32) (x6 : Int32) (y4 : Int64) 0 h))))) else (gX10_leaveRun b0 f 65 (9223372036854775807 : Int64) (x1 : Int32) (x2 : Int32) (x3 : Int32) (x6 : Int32) (y4 : Int64) 0 h)))) else
    if lbl = 65 then (if x6 = x3 then (gX10_leaveRun b0 f 122 0 (x1 : Int32) (x2 : Int32) (x3 : Int32) (x6 : Int32) (y4 : Int64) (((((Int32.toInt64 (vX10_minuteIn (x1 : Int32) h)) <<< (Int32.toInt64 21 &&& 63)) ||| (8192 : Int64)) ||| y4) : Int64) h) else (if (lg_cmp sy0 (9223372036854775807 : Int64)) = (0 : Int32) then (gX10_leaveRun b0 f 122 0 (x1 : Int32) (x2 : Int32) (x3 : Int32) (x6 : Int32) (y4 : Int64) (9223372036854775807 : Int64) h) else (gX10_leaveRun b0 f 122 0 (x1 : Int32) (x2 : Int32) (x3 : Int32) (x6 : Int32) (y4 : Int64) (((((sy0 >>> (Int32.toInt64 13 &&& 63)) + (1 : Int64)) <<< (Int32.toInt64 13 &&& 63)) ||| y4) : Int64) h))) else
    if lbl = 122 then (gd ((ea_r h (b0 + 13) 5) = some (Option.getD (ea_r h (b0 + 13) 5) 0)) (gd (((Option.getD (ea_r h (b0 + 13) 5) 0) < ea_n h ∧ ea_c h (Option.getD (ea_r h (b0 + 13) 5) 0) = 22)) (gd (vp_in (((12 : Int32) * (x2 / (8 : Int32))) + x6) (ea_l h (Option.getD (ea_r h (b0 + 13) 5) 0))) (gd ((ea_r h (b0 + 13) 5) = some (Option.getD (ea_r h (b0 + 13) 5) 0)) (gd (((Option.getD (ea_r h (b0 + 13) 5) 0) < ea_n h ∧ ea_c h (Option.getD (ea_r h (b0 + 13) 5) 0) = 22)) (gd (vp_in (((12 : Int32) * (x2 / (8 : Int32))) + x6) (ea_l h (Option.getD (ea_r h (b0 + 13) 5) 0))) (gX10_leaveRun b0 f 26 0 (x1 : Int32) (x2 : Int32) (x3 : Int32) ((x6 + (1 : Int32)) : Int32) (y4 : Int64) 0 (ea_wj h (Option.getD (ea_r h (b0 + 13) 5) 0) (Int32.toNatClampNeg (((12 : Int32) * (x2 / (8 : Int32))) + x6)) (vJ9_min_f86c9 ((ea_j h (Option.getD (ea_r h (b0 + 13) 5) 0) (Int32.toNatClampNeg (((12 : Int32) * (x2 / (8 : Int32))) + x6))) : Int64) (y9 : Int64) h))))))))) else none
theorem tX10_leaveRun {d : Nat} {b0 : Nat} {h0 : ea_H} (hd : 2 ≤ d) : ∀ (f lbl : Nat) (sy0 : Int64) (x1 : Int32) (x2 : Int32) (x3 : Int32) (x6 : Int32) (y4 : Int64) (y9 : Int64) (h : ea_H) (r : Unit) (h' : ea_H), gX10_leaveRun b0 f lbl sy0 x1 x2 x3 x6 y4 y9 h = some (r, h') → ShC b0 h → (lbl = 0 → ea_W mX10_leaveRun d h0 none h' 0 [(0, vR (some (b0 + 13))), (1, vI x1), (2, vI x2), (3, vI x3)] [] h) ∧ (lbl = 26 → ea_W mX10_leaveRun d h0 none h' 26 [(0, vR (some (b0 + 13))), (1, vI x1), (2, vI x2), (3, vI x3), (4, vJ y4), (6, vI x6)] [] h) ∧ (lbl = 65 → ea_W mX10_leaveRun d h0 none h' 65 [(0, vR (some (b0 + 13))), (1, vI x1), (2, vI x2), (3, vI x3), (4, vJ y4), (6, vI x6)] [vJ sy0] h) ∧ (lbl = 122 → ea_W mX10_leaveRun d h0 none h' 122 [(0, vR (some (b0 + 13))), (1, vI x1), (2, vI x2), (3, vI x3), (4, vJ y4), (6, vI x6), (9, vJ y9)] [] h) := by
  intro f
  induction f with
  | zero => intro lbl sy0 x1 x2 x3 x6 y4 y9 h r h' E; cases E
  | succ f ih =>
    intro lbl sy0 x1 x2 x3 x6 y4 y9 h r h' E hs
    unfold gX10_leaveRun at E
    refine ⟨?_, ?_⟩
    · intro el
      subst el
      have E := (if_pos rfl).symm.trans E
      refine ea_iload_n (pc := 0) dX10_leaveRun_0 rfl 1 rfl ?_
      refine ea_callS (pc := 1) (d' := d - 1) (As := [vI x1]) (st := []) dX10_leaveRun_1 kX10_trainIn (sX10_trainIn (d := d - 1) (by omega)) (by omega) rfl (Nat.le_of_ble_eq_true rfl) ew_596 ew_597 ?_
      refine ea_bipush (pc := 4) dX10_leaveRun_4 (v := 9) rfl ?_
      refine ea_ishl (pc := 6) dX10_leaveRun_6 ?_
      refine ea_iload_n (pc := 7) dX10_leaveRun_7 rfl 1 rfl ?_
      refine ea_callS (pc := 8) (d' := d - 1) (As := [vI x1]) (st := [vI ((vX10_trainIn (x1 : Int32) h) <<< ((9 : Int32) &&& 31))]) dX10_leaveRun_8 kX10_dayIn (sX10_dayIn (d := d - 1) (by omega)) (by omega) rfl (Nat.le_of_ble_eq_true rfl) ew_608 ew_609 ?_
      refine ea_bipush (pc := 11) dX10_leaveRun_11 (v := 6) rfl ?_
      refine ea_ishl (pc := 13) dX10_leaveRun_13 ?_
      refine ea_ior (pc := 14) dX10_leaveRun_14 ?_
      refine ea_iload_n (pc := 15) dX10_leaveRun_15 rfl 1 rfl ?_
      refine ea_callS (pc := 16) (d' := d - 1) (As := [vI x1]) (st := [vI (((vX10_trainIn (x1 : Int32) h) <<< ((9 : Int32) &&& 31)) ||| ((vX10_dayIn (x1 : Int32) h) <<< ((6 : Int32) &&& 31)))]) dX10_leaveRun_16 kX10_stopIn (sX10_stopIn (d := d - 1) (by omega)) (by omega) rfl (Nat.le_of_ble_eq_true rfl) ew_599 ew_600 ?_
      refine ea_ior (pc := 19) dX10_leaveRun_19 ?_
      refine ea_i2l (pc := 20) dX10_leaveRun_20 ?_
      refine ea_lstore (pc := 21) (lv' := [(0, vR (some (b0 + 13))), (1, vI x1), (2, vI x2), (3, vI x3), (4, vJ (Int32.toInt64 ((((vX10_trainIn (x1 : Int32) h) <<< ((9 : Int32) &&& 31)) ||| ((vX10_dayIn (x1 : Int32) h) <<< ((6 : Int32) &&& 31))) ||| (vX10_stopIn (x1 : Int32) h))))]) dX10_leaveRun_21 (Nat.le_of_ble_eq_true rfl) [1, 2, 3, 4, 0] rfl ?_
      refine ea_iconst (pc := 23) dX10_leaveRun_23 (v := 0) rfl ?_
      refine ea_istore (pc := 24) (lv' := [(0, vR (some (b0 + 13))), (1, vI x1), (2, vI x2), (3, vI x3), (4, vJ (Int32.toInt64 ((((vX10_trainIn (x1 : Int32) h) <<< ((9 : Int32) &&& 31)) ||| ((vX10_dayIn (x1 : Int32) h) <<< ((6 : Int32) &&& 31))) ||| (vX10_stopIn (x1 : Int32) h)))), (6, vI 0)]) dX10_leaveRun_24 (Nat.le_of_ble_eq_true rfl) [1, 2, 3, 4, 5, 0] rfl ?_
      exact ((ih 26 0 (x1 : Int32) (x2 : Int32) (x3 : Int32) (0 : Int32) ((Int32.toInt64 ((((vX10_trainIn (x1 : Int32) h) <<< ((9 : Int32) &&& 31)) ||| ((vX10_dayIn (x1 : Int32) h) <<< ((6 : Int32) &&& 31))) ||| (vX10_stopIn (x1 : Int32) h))) : Int64) 0 h _ _ E hs).2.1 rfl)
    refine ⟨?_, ?_⟩
    · intro el
      subst el
      have E := (if_neg (by decide)).symm.trans E
      have E := (if_pos rfl).symm.trans E
      refine ea_iload (pc := 26) dX10_leaveRun_26 5 rfl ?_
      refine ea_bipush (pc := 28) dX10_leaveRun_28 (v := 12) rfl ?_
      refine ea_icmp_ge (pc := 30) (tgt := 159) dX10_leaveRun_30 rfl (fun c10 => ?_) (fun c10 => ?_)
      · have E := (if_pos c10).symm.trans E
        cases E
        exact ea_return (pc := 159) dX10_leaveRun_159 rfl
      · have E := (if_neg c10).symm.trans E
        refine ea_aload_n (pc := 33) dX10_leaveRun_33 rfl 0 rfl ?_
        refine ea_getR (pc := 34) dX10_leaveRun_34 ec_10 (k := 7) (Nat.le_of_ble_eq_true rfl) rfl (Or.inl ew_234) (hs.1 13 (by decide)).1 (hs.1 13 (by decide)).2.1 (hs.2 13 7 rfl) ?_
        refine ea_iload_n (pc := 37) dX10_leaveRun_37 rfl 3 rfl ?_
        obtain ⟨z4, E⟩ := gd_some E
        refine ea_iald (pc := 38) dX10_leaveRun_38 (hs.1 14 (by decide)).1 (hs.1 14 (by decide)).2.1 (ea_vpl (hs.1 14 (by decide)).2.2 z4) ?_
        refine ea_if_ge (pc := 39) (tgt := 48) dX10_leaveRun_39 rfl (fun c9 => ?_) (fun c9 => ?_)
        · have E := (if_pos c9).symm.trans E
          refine ea_aload_n (pc := 48) dX10_leaveRun_48 rfl 0 rfl ?_
          refine ea_getR (pc := 49) dX10_leaveRun_49 ec_10 (k := 4) (Nat.le_of_ble_eq_true rfl) rfl (Or.inl ew_231) (hs.1 13 (by decide)).1 (hs.1 13 (by decide)).2.1 rfl ?_
          refine ea_bipush (pc := 52) dX10_leaveRun_52 (v := 12) rfl ?_
          refine ea_aload_n (pc := 54) dX10_leaveRun_54 rfl 0 rfl ?_
          refine ea_getR (pc := 55) dX10_leaveRun_55 ec_10 (k := 7) (Nat.le_of_ble_eq_true rfl) rfl (Or.inl ew_234) (hs.1 13 (by decide)).1 (hs.1 13 (by decide)).2.1 (hs.2 13 7 rfl) ?_
          refine ea_iload_n (pc := 58) dX10_leaveRun_58 rfl 3 rfl ?_
          obtain ⟨z5, E⟩ := gd_some E
          refine ea_iald (pc := 59) dX10_leaveRun_59 (hs.1 14 (by decide)).1 (hs.1 14 (by decide)).2.1 (ea_vpl (hs.1 14 (by decide)).2.2 z5) ?_
          refine ea_imul (pc := 60) dX10_leaveRun_60 ?_
          refine ea_iload (pc := 61) dX10_leaveRun_61 5 rfl ?_
          refine ea_iadd (pc := 63) dX10_leaveRun_63 ?_
          obtain ⟨e6, E⟩ := gd_some E
          obtain ⟨f7, E⟩ := gd_some E
          obtain ⟨z8, E⟩ := gd_some E
          refine ea_deref1 e6 ?_
          refine ea_lald (pc := 64) dX10_leaveRun_64 f7.1 f7.2 z8 ?_
          exact ((ih 65 ((ea_j h (Option.getD (ea_r h (b0 + 13) 4) 0) (Int32.toNatClampNeg (((12 : Int32) * (ea_i h (b0 + 14) (Int32.toNatClampNeg x3))) + x6))) : Int64) (x1 : Int32) (x2 : Int32) (x3 : Int32) (x6 : Int32) (y4 : Int64) 0 h _ _ E hs).2.2.1 rfl)
        · have E := (if_neg c9).symm.trans E
          refine ea_ldc2 (pc := 42) dX10_leaveRun_42 ew_615 ?_
          refine ea_goto (pc := 45) (tgt := 65) dX10_leaveRun_45 rfl ?_
          exact ((ih 65 (9223372036854775807 : Int64) (x1 : Int32) (x2 : Int32) (x3 : Int32) (x6 : Int32) (y4 : Int64) 0 h _ _ E hs).2.2.1 rfl)
    refine ⟨?_, ?_⟩
    · intro el
      subst el
      have E := (if_neg (by decide)).symm.trans E
      have E := (if_neg (by decide)).symm.trans E
      have E := (if_pos rfl).symm.trans E
      refine ea_lstore (pc := 65) (lv' := [(0, vR (some (b0 + 13))), (1, vI x1), (2, vI x2), (3, vI x3), (4, vJ y4), (6, vI x6), (7, vJ sy0)]) dX10_leaveRun_65 (Nat.le_of_ble_eq_true rfl) [1, 2, 3, 4, 5, 6, 0] rfl ?_
      refine ea_ldc2 (pc := 67) dX10_leaveRun_67 ew_615 ?_
      refine ea_lstore (pc := 70) (lv' := [(0, vR (some (b0 + 13))), (1, vI x1), (2, vI x2), (3, vI x3), (4, vJ y4), (6, vI x6), (7, vJ sy0), (9, vJ 9223372036854775807)]) dX10_leaveRun_70 (Nat.le_of_ble_eq_true rfl) [1, 2, 3, 4, 5, 6, 7, 0] rfl ?_
      refine ea_iload (pc := 72) dX10_leaveRun_72 5 rfl ?_
      refine ea_iload_n (pc := 74) dX10_leaveRun_74 rfl 3 rfl ?_
      refine ea_icmp_ne (pc := 75) (tgt := 98) dX10_leaveRun_75 rfl (fun c13 => ?_) (fun c13 => ?_)
      · have E := (if_neg c13).symm.trans E
        refine ea_lload (pc := 98) dX10_leaveRun_98 6 rfl ?_
        refine ea_ldc2 (pc := 100) dX10_leaveRun_100 ew_615 ?_
        refine ea_lcmp (pc := 103) dX10_leaveRun_103 ?_
        refine ea_if_eq (pc := 104) (tgt := 122) dX10_leaveRun_104 rfl (fun c11 => ?_) (fun c11 => ?_)
        · have E := (if_pos c11).symm.trans E
          exact (ea_fewer [0, 1, 2, 3, 4, 5, 7] rfl ((ih 122 0 (x1 : Int32) (x2 : Int32) (x3 : Int32) (x6 : Int32) (y4 : Int64) (9223372036854775807 : Int64) h _ _ E hs).2.2.2 rfl))
        · have E := (if_neg c11).symm.trans E
          refine ea_lload (pc := 107) dX10_leaveRun_107 6 rfl ?_
          refine ea_bipush (pc := 109) dX10_leaveRun_109 (v := 13) rfl ?_
          refine ea_lshr (pc := 111) dX10_leaveRun_111 ?_
          refine ea_lconst (pc := 112) dX10_leaveRun_112 (v := 1) rfl ?_
          refine ea_ladd (pc := 113) dX10_leaveRun_113 ?_
          refine ea_bipush (pc := 114) dX10_leaveRun_114 (v := 13) rfl ?_
          refine ea_lshl (pc := 116) dX10_leaveRun_116 ?_
          refine ea_lload (pc := 117) dX10_leaveRun_117 4 rfl ?_
          refine ea_lor (pc := 119) dX10_leaveRun_119 ?_
          refine ea_lstore (pc := 120) (lv' := [(0, vR (some (b0 + 13))), (1, vI x1), (2, vI x2), (3, vI x3), (4, vJ y4), (6, vI x6), (9, vJ ((((sy0 >>> (Int32.toInt64 13 &&& 63)) + (1 : Int64)) <<< (Int32.toInt64 13 &&& 63)) ||| y4))]) dX10_leaveRun_120 (Nat.le_of_ble_eq_true rfl) [1, 2, 3, 4, 5, 6, 0] rfl ?_
          exact ((ih 122 0 (x1 : Int32) (x2 : Int32) (x3 : Int32) (x6 : Int32) (y4 : Int64) (((((sy0 >>> (Int32.toInt64 13 &&& 63)) + (1 : Int64)) <<< (Int32.toInt64 13 &&& 63)) ||| y4) : Int64) h _ _ E hs).2.2.2 rfl)
      · have E := (if_pos c13).symm.trans E
        refine ea_iload_n (pc := 78) dX10_leaveRun_78 rfl 1 rfl ?_
        refine ea_callS (pc := 79) (d' := d - 1) (As := [vI x1]) (st := []) dX10_leaveRun_79 kX10_minuteIn (sX10_minuteIn (d := d - 1) (by omega)) (by omega) rfl (Nat.le_of_ble_eq_true rfl) ew_602 ew_603 ?_
        refine ea_i2l (pc := 82) dX10_leaveRun_82 ?_
        refine ea_bipush (pc := 83) dX10_leaveRun_83 (v := 21) rfl ?_
        refine ea_lshl (pc := 85) dX10_leaveRun_85 ?_
        refine ea_ldc2 (pc := 86) dX10_leaveRun_86 ew_630 ?_
        refine ea_lor (pc := 89) dX10_leaveRun_89 ?_
        refine ea_lload (pc := 90) dX10_leaveRun_90 4 rfl ?_
        refine ea_lor (pc := 92) dX10_leaveRun_92 ?_
        refine ea_lstore (pc := 93) (lv' := [(0, vR (some (b0 + 13))), (1, vI x1), (2, vI x2), (3, vI x3), (4, vJ y4), (6, vI x6), (9, vJ ((((Int32.toInt64 (vX10_minuteIn (x1 : Int32) h)) <<< (Int32.toInt64 21 &&& 63)) ||| (8192 : Int64)) ||| y4))]) dX10_leaveRun_93 (Nat.le_of_ble_eq_true rfl) [1, 2, 3, 4, 5, 6, 0] rfl ?_
        refine ea_goto (pc := 95) (tgt := 122) dX10_leaveRun_95 rfl ?_
        exact ((ih 122 0 (x1 : Int32) (x2 : Int32) (x3 : Int32) (x6 : Int32) (y4 : Int64) (((((Int32.toInt64 (vX10_minuteIn (x1 : Int32) h)) <<< (Int32.toInt64 21 &&& 63)) ||| (8192 : Int64)) ||| y4) : Int64) h _ _ E hs).2.2.2 rfl)
    intro el
    subst el
    have E := (if_neg (by decide)).symm.trans E
    have E := (if_neg (by decide)).symm.trans E
    have E := (if_neg (by decide)).symm.trans E
    have E := (if_pos rfl).symm.trans E
    refine ea_bipush (pc := 122) dX10_leaveRun_122 (v := 12) rfl ?_
    refine ea_iload_n (pc := 124) dX10_leaveRun_124 rfl 2 rfl ?_
    refine ea_bipush (pc := 125) dX10_leaveRun_125 (v := 8) rfl ?_
    refine ea_idiv (pc := 127) dX10_leaveRun_127 (by decide) ?_
    refine ea_imul (pc := 128) dX10_leaveRun_128 ?_
    refine ea_iload (pc := 129) dX10_leaveRun_129 5 rfl ?_
    refine ea_iadd (pc := 131) dX10_leaveRun_131 ?_
    refine ea_istore (pc := 132) (lv' := [(0, vR (some (b0 + 13))), (1, vI x1), (2, vI x2), (3, vI x3), (4, vJ y4), (6, vI x6), (9, vJ y9), (11, vI (((12 : Int32) * (x2 / (8 : Int32))) + x6))]) dX10_leaveRun_132 (Nat.le_of_ble_eq_true rfl) [1, 2, 3, 4, 5, 6, 7, 0] rfl ?_
    refine ea_aload_n (pc := 134) dX10_leaveRun_134 rfl 0 rfl ?_
    refine ea_getR (pc := 135) dX10_leaveRun_135 ec_10 (k := 5) (Nat.le_of_ble_eq_true rfl) rfl (Or.inl ew_232) (hs.1 13 (by decide)).1 (hs.1 13 (by decide)).2.1 rfl ?_
    refine ea_iload (pc := 138) dX10_leaveRun_138 7 rfl ?_
    refine ea_aload_n (pc := 140) dX10_leaveRun_140 rfl 0 rfl ?_
    refine ea_getR (pc := 141) dX10_leaveRun_141 ec_10 (k := 5) (Nat.le_of_ble_eq_true rfl) rfl (Or.inl ew_232) (hs.1 13 (by decide)).1 (hs.1 13 (by decide)).2.1 rfl ?_
    refine ea_iload (pc := 144) dX10_leaveRun_144 7 rfl ?_
    obtain ⟨e14, E⟩ := gd_some E
    obtain ⟨f15, E⟩ := gd_some E
    obtain ⟨z16, E⟩ := gd_some E
    refine ea_deref1 e14 ?_
    refine ea_lald (pc := 146) dX10_leaveRun_146 f15.1 f15.2 z16 ?_
    refine ea_lload (pc := 147) dX10_leaveRun_147 6 rfl ?_
    refine ea_callS (pc := 149) (d' := d - 1) (As := [vJ (ea_j h (Option.getD (ea_r h (b0 + 13) 5) 0) (Int32.toNatClampNeg (((12 : Int32) * (x2 / (8 : Int32))) + x6))), vJ y9]) (st := [vI (((12 : Int32) * (x2 / (8 : Int32))) + x6), vR (ea_r h (b0 + 13) 5)]) dX10_leaveRun_149 kJ9_min_f86c9 (sJ9_min_f86c9 (d := d - 1) (by omega)) (by omega) rfl (Nat.le_of_ble_eq_true rfl) ew_623 ew_624 ?_
    obtain ⟨e18, E⟩ := gd_some E
    obtain ⟨f19, E⟩ := gd_some E
    obtain ⟨z20, E⟩ := gd_some E
    refine ea_deref2 e18 ?_
    refine ea_last (pc := 152) dX10_leaveRun_152 f19.1 f19.2 z20 ?_
    have hs21 : ShC b0 (ea_wj h (Option.getD (ea_r h (b0 + 13) 5) 0) (Int32.toNatClampNeg (((12 : Int32) * (x2 / (8 : Int32))) + x6)) (vJ9_min_f86c9 ((ea_j h (Option.getD (ea_r h (b0 + 13) 5) 0) (Int32.toNatClampNeg (((12 : Int32) * (x2 / (8 : Int32))) + x6))) : Int64) (y9 : Int64) h)) := ShC_wj hs
    refine ea_iinc (pc := 153) (v := 1) (lv' := [(0, vR (some (b0 + 13))), (1, vI x1), (2, vI x2), (3, vI x3), (4, vJ y4), (6, vI (x6 + (1 : Int32)))]) dX10_leaveRun_153 5 rfl rfl (Nat.le_of_ble_eq_true rfl) [1, 2, 3, 4, 5, 0] rfl ?_
    refine ea_goto (pc := 156) (tgt := 26) dX10_leaveRun_156 rfl ?_
    exact ((ih 26 0 (x1 : Int32) (x2 : Int32) (x3 : Int32) ((x6 + (1 : Int32)) : Int32) (y4 : Int64) 0 (ea_wj h (Option.getD (ea_r h (b0 + 13) 5) 0) (Int32.toNatClampNeg (((12 : Int32) * (x2 / (8 : Int32))) + x6)) (vJ9_min_f86c9 ((ea_j h (Option.getD (ea_r h (b0 + 13) 5) 0) (Int32.toNatClampNeg (((12 : Int32) * (x2 / (8 : Int32))) + x6))) : Int64) (y9 : Int64) h)) _ _ E hs21).2.1 rfl)
noncomputable def qX10_leaveRun (b0 : Nat) (x1 : Int32) (x2 : Int32) (x3 : Int32) (h : ea_H) : Option (Unit × ea_H) := gX10_leaveRun b0 1000000000 0 0 x1 x2 x3 0 0 0 h
def okX10_leaveRun (b0 : Nat) (x1 : Int32) (x2 : Int32) (x3 : Int32) (h : ea_H) : Prop := ∃ x, qX10_leaveRun b0 x1 x2 x3 h = some x
noncomputable def wX10_leaveRun (b0 : Nat) (x1 : Int32) (x2 : Int32) (x3 : Int32) (h : ea_H) : ea_H := ((qX10_leaveRun b0 x1 x2 x3 h).getD ((), h)).2
theorem sX10_leaveRun {d : Nat} {b0 : Nat} {x1 : Int32} {x2 : Int32} {x3 : Int32} {h : ea_H} (hd : 2 ≤ d) (hs : ShC b0 h) (K : okX10_leaveRun b0 x1 x2 x3 h) : ea_Met mX10_leaveRun d [vR (some (b0 + 13)), vI x1, vI x2, vI x3] h none (wX10_leaveRun b0 x1 x2 x3 h) := by
  obtain ⟨⟨x, y⟩, K⟩ := K
  unfold wX10_leaveRun
  rw [K]
  unfold qX10_leaveRun at K
  exact ea_enter rfl (Nat.le_of_ble_eq_true rfl) ((tX10_leaveRun hd 1000000000 0 0 x1 x2 x3 0 0 0 h x y K hs).1 rfl)
theorem zX10_leaveRun {b0 : Nat} : ∀ (f lbl : Nat) (sy0 : Int64) (x1 : Int32) (x2 : Int32) (x3 : Int32) (x6 : Int32) (y4 : Int64) (y9 : Int64) (h : ea_H) (r : Unit) (h' : ea_H), gX10_leaveRun b0 f lbl sy0 x1 x2 x3 x6 y4 y9 h = some (r, h') → ShC b0 h → ShC b0 h' := by
  intro f
  induction f with
  | zero => intro lbl sy0 x1 x2 x3 x6 y4 y9 h r h' E; cases E
  | succ f ih =>
    intro lbl sy0 x1 x2 x3 x6 y4 y9 h r h' E hs
    unfold gX10_leaveRun at E
    by_cases el0 : lbl = 0
    · have E := (if_pos el0).symm.trans E
      exact ih 26 0 (x1 : Int32) (x2 : Int32) (x3 : Int32) (0 : Int32) ((Int32.toInt64 ((((vX10_trainIn (x1 : Int32) h) <<< ((9 : Int32) &&& 31)) ||| ((vX10_dayIn (x1 : Int32) h) <<< ((6 : Int32) &&& 31))) ||| (vX10_stopIn (x1 : Int32) h))) : Int64) 0 h _ _ E hs
    have E := (if_neg el0).symm.trans E
    by_cases el1 : lbl = 26
    · have E := (if_pos el1).symm.trans E
      by_cases c10 : (12 : Int32) ≤ x6
      · have E := (if_pos c10).symm.trans E
        cases E
        exact hs
      have E := (if_neg c10).symm.trans E
      obtain ⟨z4, E⟩ := gd_some E
      by_cases c9 : (0 : Int32) ≤ (ea_i h (b0 + 14) (Int32.toNatClampNeg x3))
      · have E := (if_pos c9).symm.trans E
        obtain ⟨z5, E⟩ := gd_some E
        obtain ⟨e6, E⟩ := gd_some E
        obtain ⟨f7, E⟩ := gd_some E
        obtain ⟨z8, E⟩ := gd_some E
        exact ih 65 ((ea_j h (Option.getD (ea_r h (b0 + 13) 4) 0) (Int32.toNatClampNeg (((12 : Int32) * (ea_i h (b0 + 14) (Int32.toNatClampNeg x3))) + x6))) : Int64) (x1 : Int32) (x2 : Int32) (x3 : Int32) (x6 : Int32) (y4 : Int64) 0 h _ _ E hs
      have E := (if_neg c9).symm.trans E
      exact ih 65 (9223372036854775807 : Int64) (x1 : Int32) (x2 : Int32) (x3 : Int32) (x6 : Int32) (y4 : Int64) 0 h _ _ E hs
    have E := (if_neg el1).symm.trans E
    by_cases el2 : lbl = 65
    · have E := (if_pos el2).symm.trans E
      by_cases c13 : x6 = x3
      · have E := (if_pos c13).symm.trans E
        exact ih 122 0 (x1 : Int32) (x2 : Int32) (x3 : Int32) (x6 : Int32) (y4 : Int64) (((((Int32.toInt64 (vX10_minuteIn (x1 : Int32) h)) <<< (Int32.toInt64 21 &&& 63)) ||| (8192 : Int64)) ||| y4) : Int64) h _ _ E hs
      have E := (if_neg c13).symm.trans E
      by_cases c11 : (lg_cmp sy0 (9223372036854775807 : Int64)) = (0 : Int32)
      · have E := (if_pos c11).symm.trans E
        exact ih 122 0 (x1 : Int32) (x2 : Int32) (x3 : Int32) (x6 : Int32) (y4 : Int64) (9223372036854775807 : Int64) h _ _ E hs
      have E := (if_neg c11).symm.trans E
      exact ih 122 0 (x1 : Int32) (x2 : Int32) (x3 : Int32) (x6 : Int32) (y4 : Int64) (((((sy0 >>> (Int32.toInt64 13 &&& 63)) + (1 : Int64)) <<< (Int32.toInt64 13 &&& 63)) ||| y4) : Int64) h _ _ E hs
    have E := (if_neg el2).symm.trans E
    by_cases el3 : lbl = 122
    · have E := (if_pos el3).symm.trans E
      obtain ⟨e14, E⟩ := gd_some E
      obtain ⟨f15, E⟩ := gd_some E
      obtain ⟨z16, E⟩ := gd_some E
      obtain ⟨e18, E⟩ := gd_some E
      obtain ⟨f19, E⟩ := gd_some E
      obtain ⟨z20, E⟩ := gd_some E
      exact ih 26 0 (x1 : Int32) (x2 : Int32) (x3 : Int32) ((x6 + (1 : Int32)) : Int32) (y4 : Int64) 0 (ea_wj h (Option.getD (ea_r h (b0 + 13) 5) 0) (Int32.toNatClampNeg (((12 : Int32) * (x2 / (8 : Int32))) + x6)) (vJ9_min_f86c9 ((ea_j h (Option.getD (ea_r h (b0 + 13) 5) 0) (Int32.toNatClampNeg (((12 : Int32) * (x2 / (8 : Int32))) + x6))) : Int64) (y9 : Int64) h)) _ _ E (ShC_wj hs)
    have E := (if_neg el3).symm.trans E
    cases E
theorem shX10_leaveRun {b0 : Nat} {x1 : Int32} {x2 : Int32} {x3 : Int32} {h : ea_H} (hs : ShC b0 h) : ShC b0 (wX10_leaveRun b0 x1 x2 x3 h) := by
  unfold wX10_leaveRun
  cases K : qX10_leaveRun b0 x1 x2 x3 h with
  | none => exact hs
  | some x => obtain ⟨x, y⟩ := x; unfold qX10_leaveRun at K; exact zX10_leaveRun _ _ _ _ _ _ _ _ _ _ _ _ K hs
noncomputable def vX11_late (b0 : Nat) (x1 : Int32) (x2 : Int32) (x3 : Int32) (h : ea_H) : Int32 := (if (vX11_mayBeTold b0 (x1 : Int32) (x2 : Int32) (x3 : Int32) h) = (0 : Int32) then (0 : Int32) else (1 : Int32))
noncomputable def wX11_late (b0 : Nat) (x1 : Int32) (x2 : Int32) (x3 : Int32) (h : ea_H) : ea_H := (if (vX11_mayBeTold b0 (x1 : Int32) (x2 : Int32) (x3 : Int32) h) = (0 : Int32) then h else (wX11_tableChanged b0 (ea_wi h (b0 + 11) (Int32.toNatClampNeg (((10 : Int32) * x2) + x1)) x3)))
def okX11_late (b0 : Nat) (x1 : Int32) (x2 : Int32) (x3 : Int32) (h : ea_H) : Prop := (okX11_mayBeTold b0 (x1 : Int32) (x2 : Int32) (x3 : Int32) h) ∧ (((vX11_mayBeTold b0 (x1 : Int32) (x2 : Int32) (x3 : Int32) h) = (0 : Int32) → True) ∧ (¬ (vX11_mayBeTold b0 (x1 : Int32) (x2 : Int32) (x3 : Int32) h) = (0 : Int32) → vp_in (((10 : Int32) * x2) + x1) 70))
theorem bo_vX11_late (b0 : Nat) (x1 : Int32) (x2 : Int32) (x3 : Int32) (h : ea_H) : vX11_late b0 x1 x2 x3 h = 0 ∨ vX11_late b0 x1 x2 x3 h = 1 := (ea_itB (Or.inl rfl) (Or.inr rfl))
theorem shX11_late {b0 : Nat} {x1 : Int32} {x2 : Int32} {x3 : Int32} {h : ea_H} (hs : ShC b0 h) : ShC b0 (wX11_late b0 x1 x2 x3 h) := (ShC_it hs (shX11_tableChanged (ShC_wi hs)))
theorem sX11_late {d : Nat} {b0 : Nat} {x1 : Int32} {x2 : Int32} {x3 : Int32} {h : ea_H} (hd : 4 ≤ d) (hs : ShC b0 h) (K : okX11_late b0 x1 x2 x3 h) : ea_Met mX11_late d [vR (some (b0 + 0)), vI x1, vI x2, vI x3] h (some (vI (vX11_late b0 x1 x2 x3 h))) (wX11_late b0 x1 x2 x3 h) := by
  obtain ⟨X, EX⟩ : ∃ z, z = vX11_late b0 x1 x2 x3 h := ⟨_, rfl⟩
  rw [← EX]
  unfold vX11_late at EX
  obtain ⟨Y, EY⟩ : ∃ z, z = wX11_late b0 x1 x2 x3 h := ⟨_, rfl⟩
  rw [← EY]
  unfold wX11_late at EY
  unfold okX11_late at K
  refine ea_enter rfl (Nat.le_of_ble_eq_true rfl) ?_
  refine ea_aload_n (pc := 0) dX11_late_0 rfl 0 rfl ?_
  refine ea_iload_n (pc := 1) dX11_late_1 rfl 1 rfl ?_
  refine ea_iload_n (pc := 2) dX11_late_2 rfl 2 rfl ?_
  refine ea_iload_n (pc := 3) dX11_late_3 rfl 3 rfl ?_
  obtain ⟨z1, K⟩ := K
  refine ea_callV (pc := 4) (d' := d - 1) (As := [vI x1, vI x2, vI x3]) (st := []) dX11_late_4 kX11_mayBeTold (sX11_mayBeTold (d := d - 1) (by omega) hs z1) (by omega) rfl (Nat.le_of_ble_eq_true rfl) ew_538 ew_540 ew_2 (ci := 11) rfl (by decide) (hs.1 0 (by decide)).1 (hs.1 0 (by decide)).2.1 ?_
  refine ea_if_ne (pc := 7) (tgt := 12) dX11_late_7 rfl (fun c6 => ?_) (fun c6 => ?_)
  · have EX := EX.trans (if_neg c6)
    have EY := EY.trans (if_neg c6)
    have K := K.2 c6
    refine ea_aload_n (pc := 12) dX11_late_12 rfl 0 rfl ?_
    refine ea_getR (pc := 13) dX11_late_13 ec_11 (k := 1) (Nat.le_of_ble_eq_true rfl) rfl (Or.inl ew_438) (hs.1 0 (by decide)).1 (hs.1 0 (by decide)).2.1 (hs.2 0 1 rfl) ?_
    refine ea_getR (pc := 16) dX11_late_16 ec_9 (k := 6) (Nat.le_of_ble_eq_true rfl) rfl (Or.inl ew_197) (hs.1 5 (by decide)).1 (hs.1 5 (by decide)).2.1 (hs.2 5 6 rfl) ?_
    refine ea_bipush (pc := 19) dX11_late_19 (v := 10) rfl ?_
    refine ea_iload_n (pc := 21) dX11_late_21 rfl 2 rfl ?_
    refine ea_imul (pc := 22) dX11_late_22 ?_
    refine ea_iload_n (pc := 23) dX11_late_23 rfl 1 rfl ?_
    refine ea_iadd (pc := 24) dX11_late_24 ?_
    refine ea_iload_n (pc := 25) dX11_late_25 rfl 3 rfl ?_
    have z2 := K
    refine ea_iast (pc := 26) dX11_late_26 (hs.1 11 (by decide)).1 (hs.1 11 (by decide)).2.1 (ea_vpl (hs.1 11 (by decide)).2.2 z2) ?_
    have hs3 : ShC b0 (ea_wi h (b0 + 11) (Int32.toNatClampNeg (((10 : Int32) * x2) + x1)) x3) := ShC_wi hs
    refine ea_aload_n (pc := 27) dX11_late_27 rfl 0 rfl ?_
    refine ea_callV (pc := 28) (d' := d - 1) (As := []) (st := []) dX11_late_28 kX11_tableChanged (sX11_tableChanged (d := d - 1) (by omega) hs3) (by omega) rfl (Nat.le_of_ble_eq_true rfl) ew_526 ew_528 ew_1 (ci := 11) rfl (by decide) (hs3.1 0 (by decide)).1 (hs3.1 0 (by decide)).2.1 ?_
    have hs5 : ShC b0 (wX11_tableChanged b0 (ea_wi h (b0 + 11) (Int32.toNatClampNeg (((10 : Int32) * x2) + x1)) x3)) := shX11_tableChanged hs3
    refine ea_iconst (pc := 31) dX11_late_31 (v := 1) rfl ?_
    subst EX
    subst EY
    exact ea_ireturn (pc := 32) dX11_late_32 rfl (ea_bn (Or.inr rfl))
  · have EX := EX.trans (if_pos c6)
    have EY := EY.trans (if_pos c6)
    refine ea_iconst (pc := 10) dX11_late_10 (v := 0) rfl ?_
    subst EX
    subst EY
    exact ea_ireturn (pc := 11) dX11_late_11 rfl (ea_bn (Or.inl rfl))
noncomputable def vX11_account (b0 : Nat) (x1 : Int32) (x2 : Int32) (x3 : Int32) (h : ea_H) : Int32 := (if (vX6_has b0 (x1 : Int32) h) = (0 : Int32) then ((-1) : Int32) else (if (vX6_has b0 (x2 : Int32) h) = (0 : Int32) then ((-1) : Int32) else (if x1 = x2 then ((-1) : Int32) else (if Int32.toInt x3 = 0 then (vX11_owedBetween b0 (x1 : Int32) (x2 : Int32) (0 : Int32) h) else (if Int32.toInt x3 = 1 then (vX11_owedBetween b0 (x1 : Int32) (x2 : Int32) (1 : Int32) h) else (if Int32.toInt x3 = 2 then (vX11_differing b0 (x1 : Int32) (x2 : Int32) h) else (if (10 : Int32) ≤ x3 then (vX11_differingLetter b0 (x1 : Int32) (x2 : Int32) ((x3 - (10 : Int32)) : Int32) h) else ((-1) : Int32))))))))
noncomputable def wX11_account (b0 : Nat) (x1 : Int32) (x2 : Int32) (x3 : Int32) (h : ea_H) : ea_H := (if (vX6_has b0 (x1 : Int32) h) = (0 : Int32) then h else (if (vX6_has b0 (x2 : Int32) h) = (0 : Int32) then h else (if x1 = x2 then h else (if Int32.toInt x3 = 0 then (wX11_owedBetween b0 (x1 : Int32) (x2 : Int32) (0 : Int32) h) else (if Int32.toInt x3 = 1 then (wX11_owedBetween b0 (x1 : Int32) (x2 : Int32) (1 : Int32) h) else (if Int32.toInt x3 = 2 then (wX11_differing b0 (x1 : Int32) (x2 : Int32) h) else (if (10 : Int32) ≤ x3 then (wX11_differingLetter b0 (x1 : Int32) (x2 : Int32) ((x3 - (10 : Int32)) : Int32) h) else h)))))))
def okX11_account (b0 : Nat) (x1 : Int32) (x2 : Int32) (x3 : Int32) (h : ea_H) : Prop := ((vX6_has b0 (x1 : Int32) h) = (0 : Int32) → True) ∧ (¬ (vX6_has b0 (x1 : Int32) h) = (0 : Int32) → ((vX6_has b0 (x2 : Int32) h) = (0 : Int32) → True) ∧ (¬ (vX6_has b0 (x2 : Int32) h) = (0 : Int32) → (x1 = x2 → True) ∧ (¬ x1 = x2 → (Int32.toInt x3 = 0 → (okX11_owedBetween b0 (x1 : Int32) (x2 : Int32) (0 : Int32) h)) ∧ (¬ Int32.toInt x3 = 0 → (Int32.toInt x3 = 1 → (okX11_owedBetween b0 (x1 : Int32) (x2 : Int32) (1 : Int32) h)) ∧ (¬ Int32.toInt x3 = 1 → (Int32.toInt x3 = 2 → (okX11_differing b0 (x1 : Int32) (x2 : Int32) h)) ∧ (¬ Int32.toInt x3 = 2 → ((10 : Int32) ≤ x3 → (okX11_differingLetter b0 (x1 : Int32) (x2 : Int32) ((x3 - (10 : Int32)) : Int32) h)) ∧ (¬ (10 : Int32) ≤ x3 → True)))))))
theorem shX11_account {b0 : Nat} {x1 : Int32} {x2 : Int32} {x3 : Int32} {h : ea_H} (hs : ShC b0 h) : ShC b0 (wX11_account b0 x1 x2 x3 h) := (ShC_it hs (ShC_it hs (ShC_it hs (ShC_it (shX11_owedBetween hs) (ShC_it (shX11_owedBetween hs) (ShC_it (shX11_differing hs) (ShC_it (shX11_differingLetter hs) hs)))))))
theorem sX11_account {d : Nat} {b0 : Nat} {x1 : Int32} {x2 : Int32} {x3 : Int32} {h : ea_H} (hd : 4 ≤ d) (hs : ShC b0 h) (K : okX11_account b0 x1 x2 x3 h) : ea_Met mX11_account d [vR (some (b0 + 0)), vI x1, vI x2, vI x3] h (some (vI (vX11_account b0 x1 x2 x3 h))) (wX11_account b0 x1 x2 x3 h) := by
  obtain ⟨X, EX⟩ : ∃ z, z = vX11_account b0 x1 x2 x3 h := ⟨_, rfl⟩
  rw [← EX]
  unfold vX11_account at EX
  obtain ⟨Y, EY⟩ : ∃ z, z = wX11_account b0 x1 x2 x3 h := ⟨_, rfl⟩
  rw [← EY]
  unfold wX11_account at EY
  unfold okX11_account at K
  refine ea_enter rfl (Nat.le_of_ble_eq_true rfl) ?_
  refine ea_aload_n (pc := 0) dX11_account_0 rfl 0 rfl ?_
  refine ea_getR (pc := 1) dX11_account_1 ec_11 (k := 0) (Nat.le_of_ble_eq_true rfl) rfl (Or.inl ew_437) (hs.1 0 (by decide)).1 (hs.1 0 (by decide)).2.1 (hs.2 0 0 rfl) ?_
  refine ea_iload_n (pc := 4) dX11_account_4 rfl 1 rfl ?_
  refine ea_callV (pc := 5) (d' := d - 1) (As := [vI x1]) (st := []) dX11_account_5 kX6_has (sX6_has (d := d - 1) (by omega) hs) (by omega) rfl (Nat.le_of_ble_eq_true rfl) ew_494 ew_495 ew_496 (ci := 6) rfl (by decide) (hs.1 1 (by decide)).1 (hs.1 1 (by decide)).2.1 ?_
  refine ea_if_eq (pc := 8) (tgt := 27) dX11_account_8 rfl (fun c14 => ?_) (fun c14 => ?_)
  · have EX := EX.trans (if_pos c14)
    have EY := EY.trans (if_pos c14)
    refine ea_iconst (pc := 27) dX11_account_27 (v := (-1)) rfl ?_
    subst EX
    subst EY
    exact ea_ireturn (pc := 28) dX11_account_28 rfl rfl
  · have EX := EX.trans (if_neg c14)
    have EY := EY.trans (if_neg c14)
    have K := K.2 c14
    refine ea_aload_n (pc := 11) dX11_account_11 rfl 0 rfl ?_
    refine ea_getR (pc := 12) dX11_account_12 ec_11 (k := 0) (Nat.le_of_ble_eq_true rfl) rfl (Or.inl ew_437) (hs.1 0 (by decide)).1 (hs.1 0 (by decide)).2.1 (hs.2 0 0 rfl) ?_
    refine ea_iload_n (pc := 15) dX11_account_15 rfl 2 rfl ?_
    refine ea_callV (pc := 16) (d' := d - 1) (As := [vI x2]) (st := []) dX11_account_16 kX6_has (sX6_has (d := d - 1) (by omega) hs) (by omega) rfl (Nat.le_of_ble_eq_true rfl) ew_494 ew_495 ew_496 (ci := 6) rfl (by decide) (hs.1 1 (by decide)).1 (hs.1 1 (by decide)).2.1 ?_
    refine ea_if_eq (pc := 19) (tgt := 27) dX11_account_19 rfl (fun c13 => ?_) (fun c13 => ?_)
    · have EX := EX.trans (if_pos c13)
      have EY := EY.trans (if_pos c13)
      refine ea_iconst (pc := 27) dX11_account_27 (v := (-1)) rfl ?_
      subst EX
      subst EY
      exact ea_ireturn (pc := 28) dX11_account_28 rfl rfl
    · have EX := EX.trans (if_neg c13)
      have EY := EY.trans (if_neg c13)
      have K := K.2 c13
      refine ea_iload_n (pc := 22) dX11_account_22 rfl 1 rfl ?_
      refine ea_iload_n (pc := 23) dX11_account_23 rfl 2 rfl ?_
      refine ea_icmp_ne (pc := 24) (tgt := 29) dX11_account_24 rfl (fun c12 => ?_) (fun c12 => ?_)
      · have EX := EX.trans (if_neg c12)
        have EY := EY.trans (if_neg c12)
        have K := K.2 c12
        refine ea_iload_n (pc := 29) dX11_account_29 rfl 3 rfl ?_
        by_cases qc30_0 : Int32.toInt x3 = 0
        · have EX := EX.trans (if_pos qc30_0)
          have EY := EY.trans (if_pos qc30_0)
          have K := K.1 qc30_0
          refine ea_tswIn (pc := 30) (tgt := 56) dX11_account_30 (by rw [qc30_0]; decide) (by rw [qc30_0]; decide) (by rw [qc30_0]; rfl) rfl ?_
          refine ea_aload_n (pc := 56) dX11_account_56 rfl 0 rfl ?_
          refine ea_iload_n (pc := 57) dX11_account_57 rfl 1 rfl ?_
          refine ea_iload_n (pc := 58) dX11_account_58 rfl 2 rfl ?_
          refine ea_iconst (pc := 59) dX11_account_59 (v := 0) rfl ?_
          have z6 := K
          refine ea_callV (pc := 60) (d' := d - 1) (As := [vI x1, vI x2, vI 0]) (st := []) dX11_account_60 kX11_owedBetween (sX11_owedBetween (d := d - 1) (by omega) hs z6) (by omega) rfl (Nat.le_of_ble_eq_true rfl) ew_1162 ew_1164 ew_38 (ci := 11) rfl (by decide) (hs.1 0 (by decide)).1 (hs.1 0 (by decide)).2.1 ?_
          have hs7 : ShC b0 (wX11_owedBetween b0 (x1 : Int32) (x2 : Int32) (0 : Int32) h) := shX11_owedBetween hs
          subst EX
          subst EY
          exact ea_ireturn (pc := 63) dX11_account_63 rfl rfl
        have EX := EX.trans (if_neg qc30_0)
        have EY := EY.trans (if_neg qc30_0)
        have K := K.2 qc30_0
        by_cases qc30_1 : Int32.toInt x3 = 1
        · have EX := EX.trans (if_pos qc30_1)
          have EY := EY.trans (if_pos qc30_1)
          have K := K.1 qc30_1
          refine ea_tswIn (pc := 30) (tgt := 64) dX11_account_30 (by rw [qc30_1]; decide) (by rw [qc30_1]; decide) (by rw [qc30_1]; rfl) rfl ?_
          refine ea_aload_n (pc := 64) dX11_account_64 rfl 0 rfl ?_
          refine ea_iload_n (pc := 65) dX11_account_65 rfl 1 rfl ?_
          refine ea_iload_n (pc := 66) dX11_account_66 rfl 2 rfl ?_
          refine ea_iconst (pc := 67) dX11_account_67 (v := 1) rfl ?_
          have z8 := K
          refine ea_callV (pc := 68) (d' := d - 1) (As := [vI x1, vI x2, vI 1]) (st := []) dX11_account_68 kX11_owedBetween (sX11_owedBetween (d := d - 1) (by omega) hs z8) (by omega) rfl (Nat.le_of_ble_eq_true rfl) ew_1162 ew_1164 ew_38 (ci := 11) rfl (by decide) (hs.1 0 (by decide)).1 (hs.1 0 (by decide)).2.1 ?_
          have hs9 : ShC b0 (wX11_owedBetween b0 (x1 : Int32) (x2 : Int32) (1 : Int32) h) := shX11_owedBetween hs
          subst EX
          subst EY
          exact ea_ireturn (pc := 71) dX11_account_71 rfl rfl
        have EX := EX.trans (if_neg qc30_1)
        have EY := EY.trans (if_neg qc30_1)
        have K := K.2 qc30_1
        by_cases qc30_2 : Int32.toInt x3 = 2
        · have EX := EX.trans (if_pos qc30_2)
          have EY := EY.trans (if_pos qc30_2)
          have K := K.1 qc30_2
          refine ea_tswIn (pc := 30) (tgt := 72) dX11_account_30 (by rw [qc30_2]; decide) (by rw [qc30_2]; decide) (by rw [qc30_2]; rfl) rfl ?_
          refine ea_aload_n (pc := 72) dX11_account_72 rfl 0 rfl ?_
          refine ea_iload_n (pc := 73) dX11_account_73 rfl 1 rfl ?_
          refine ea_iload_n (pc := 74) dX11_account_74 rfl 2 rfl ?_
          have z10 := K
          refine ea_callV (pc := 75) (d' := d - 1) (As := [vI x1, vI x2]) (st := []) dX11_account_75 kX11_differing (sX11_differing (d := d - 1) (by omega) hs z10) (by omega) rfl (Nat.le_of_ble_eq_true rfl) ew_1170 ew_1172 ew_40 (ci := 11) rfl (by decide) (hs.1 0 (by decide)).1 (hs.1 0 (by decide)).2.1 ?_
          have hs11 : ShC b0 (wX11_differing b0 (x1 : Int32) (x2 : Int32) h) := shX11_differing hs
          subst EX
          subst EY
          exact ea_ireturn (pc := 78) dX11_account_78 rfl rfl
        have EX := EX.trans (if_neg qc30_2)
        have EY := EY.trans (if_neg qc30_2)
        have K := K.2 qc30_2
        refine ea_tswOut (pc := 30) (tgt := 79) dX11_account_30 (ec_sw_0_2 qc30_0 qc30_1 qc30_2) rfl ?_
        refine ea_iload_n (pc := 79) dX11_account_79 rfl 3 rfl ?_
        refine ea_bipush (pc := 80) dX11_account_80 (v := 10) rfl ?_
        refine ea_icmp_ge (pc := 82) (tgt := 89) dX11_account_82 rfl (fun c5 => ?_) (fun c5 => ?_)
        · have EX := EX.trans (if_pos c5)
          have EY := EY.trans (if_pos c5)
          have K := K.1 c5
          refine ea_aload_n (pc := 89) dX11_account_89 rfl 0 rfl ?_
          refine ea_iload_n (pc := 90) dX11_account_90 rfl 1 rfl ?_
          refine ea_iload_n (pc := 91) dX11_account_91 rfl 2 rfl ?_
          refine ea_iload_n (pc := 92) dX11_account_92 rfl 3 rfl ?_
          refine ea_bipush (pc := 93) dX11_account_93 (v := 10) rfl ?_
          refine ea_isub (pc := 95) dX11_account_95 ?_
          have z3 := K
          refine ea_callV (pc := 96) (d' := d - 1) (As := [vI x1, vI x2, vI (x3 - (10 : Int32))]) (st := []) dX11_account_96 kX11_differingLetter (sX11_differingLetter (d := d - 1) (by omega) hs z3) (by omega) rfl (Nat.le_of_ble_eq_true rfl) ew_1178 ew_1180 ew_42 (ci := 11) rfl (by decide) (hs.1 0 (by decide)).1 (hs.1 0 (by decide)).2.1 ?_
          have hs4 : ShC b0 (wX11_differingLetter b0 (x1 : Int32) (x2 : Int32) ((x3 - (10 : Int32)) : Int32) h) := shX11_differingLetter hs
          subst EX
          subst EY
          exact ea_ireturn (pc := 99) dX11_account_99 rfl rfl
        · have EX := EX.trans (if_neg c5)
          have EY := EY.trans (if_neg c5)
          refine ea_iconst (pc := 85) dX11_account_85 (v := (-1)) rfl ?_
          refine ea_goto (pc := 86) (tgt := 99) dX11_account_86 rfl ?_
          subst EX
          subst EY
          exact ea_ireturn (pc := 99) dX11_account_99 rfl rfl
      · have EX := EX.trans (if_pos c12)
        have EY := EY.trans (if_pos c12)
        refine ea_iconst (pc := 27) dX11_account_27 (v := (-1)) rfl ?_
        subst EX
        subst EY
        exact ea_ireturn (pc := 28) dX11_account_28 rfl rfl
noncomputable def vX5_readAfter (b0 : Nat) (r1 : Option Nat) (x2 : Int32) (h : ea_H) : Int32 := (if (vX5_skip b0 (14 : Int32) h) = (0 : Int32) then (0 : Int32) else (if (ea_i (wX5_skip b0 (14 : Int32) h) (b0 + 22) 9) = (18 : Int32) then (if (ea_i (wX5_skip b0 (14 : Int32) h) (b0 + 26) (Int32.toNatClampNeg (ea_i (wX5_skip b0 (14 : Int32) h) (b0 + 22) 8))) ≤ (1439 : Int32) then (1 : Int32) else (vX5_refuse b0 (2 : Int32) (wX5_skip b0 (14 : Int32) h))) else (vX5_refuse b0 (1 : Int32) (wX5_skip b0 (14 : Int32) h))))
noncomputable def wX5_readAfter (b0 : Nat) (r1 : Option Nat) (x2 : Int32) (h : ea_H) : ea_H := (if (vX5_skip b0 (14 : Int32) h) = (0 : Int32) then (wX5_skip b0 (14 : Int32) h) else (if (ea_i (wX5_skip b0 (14 : Int32) h) (b0 + 22) 9) = (18 : Int32) then (if (ea_i (wX5_skip b0 (14 : Int32) h) (b0 + 26) (Int32.toNatClampNeg (ea_i (wX5_skip b0 (14 : Int32) h) (b0 + 22) 8))) ≤ (1439 : Int32) then (wX5_step b0 (ea_wi (ea_wi (wX5_skip b0 (14 : Int32) h) (Option.getD r1 0) 2 x2) (Option.getD r1 0) 3 (ea_i (ea_wi (wX5_skip b0 (14 : Int32) h) (Option.getD r1 0) 2 x2) (b0 + 26) (Int32.toNatClampNeg (ea_i (ea_wi (wX5_skip b0 (14 : Int32) h) (Option.getD r1 0) 2 x2) (b0 + 22) 8))))) else (wX5_refuse b0 (2 : Int32) (wX5_skip b0 (14 : Int32) h))) else (wX5_refuse b0 (1 : Int32) (wX5_skip b0 (14 : Int32) h))))
def okX5_readAfter (b0 : Nat) (r1 : Option Nat) (x2 : Int32) (h : ea_H) : Prop := (okX5_skip b0 (14 : Int32) h) ∧ (((vX5_skip b0 (14 : Int32) h) = (0 : Int32) → True) ∧ (¬ (vX5_skip b0 (14 : Int32) h) = (0 : Int32) → ((ea_i (wX5_skip b0 (14 : Int32) h) (b0 + 22) 9) = (18 : Int32) → vp_in (ea_i (wX5_skip b0 (14 : Int32) h) (b0 + 22) 8) 601 ∧ (((ea_i (wX5_skip b0 (14 : Int32) h) (b0 + 26) (Int32.toNatClampNeg (ea_i (wX5_skip b0 (14 : Int32) h) (b0 + 22) 8))) ≤ (1439 : Int32) → r1 = some (Option.getD r1 0) ∧ (((Option.getD r1 0) < ea_n (wX5_skip b0 (14 : Int32) h) ∧ ea_c (wX5_skip b0 (14 : Int32) h) (Option.getD r1 0) = 0) ∧ (vp_in (ea_i (ea_wi (wX5_skip b0 (14 : Int32) h) (Option.getD r1 0) 2 x2) (b0 + 22) 8) 601 ∧ (r1 = some (Option.getD r1 0) ∧ (((Option.getD r1 0) < ea_n (ea_wi (wX5_skip b0 (14 : Int32) h) (Option.getD r1 0) 2 x2) ∧ ea_c (ea_wi (wX5_skip b0 (14 : Int32) h) (Option.getD r1 0) 2 x2) (Option.getD r1 0) = 0) ∧ ((okX5_step b0 (ea_wi (ea_wi (wX5_skip b0 (14 : Int32) h) (Option.getD r1 0) 2 x2) (Option.getD r1 0) 3 (ea_i (ea_wi (wX5_skip b0 (14 : Int32) h) (Option.getD r1 0) 2 x2) (b0 + 26) (Int32.toNatClampNeg (ea_i (ea_wi (wX5_skip b0 (14 : Int32) h) (Option.getD r1 0) 2 x2) (b0 + 22) 8))))))))))) ∧ (¬ (ea_i (wX5_skip b0 (14 : Int32) h) (b0 + 26) (Int32.toNatClampNeg (ea_i (wX5_skip b0 (14 : Int32) h) (b0 + 22) 8))) ≤ (1439 : Int32) → (okX5_refuse b0 (2 : Int32) (wX5_skip b0 (14 : Int32) h))))) ∧ (¬ (ea_i (wX5_skip b0 (14 : Int32) h) (b0 + 22) 9) = (18 : Int32) → (okX5_refuse b0 (1 : Int32) (wX5_skip b0 (14 : Int32) h)))))
theorem bo_vX5_readAfter (b0 : Nat) (r1 : Option Nat) (x2 : Int32) (h : ea_H) : vX5_readAfter b0 r1 x2 h = 0 ∨ vX5_readAfter b0 r1 x2 h = 1 := (ea_itB (Or.inl rfl) (ea_itB (ea_itB (Or.inr rfl) (bo_vX5_refuse _ _ _)) (bo_vX5_refuse _ _ _)))
theorem shX5_readAfter {b0 : Nat} {r1 : Option Nat} {x2 : Int32} {h : ea_H} (hs : ShC b0 h) : ShC b0 (wX5_readAfter b0 r1 x2 h) := (ShC_it (shX5_skip hs) (ShC_it (ShC_it (shX5_step (ShC_wi (ShC_wi (shX5_skip hs)))) (shX5_refuse (shX5_skip hs))) (shX5_refuse (shX5_skip hs))))
theorem sX5_readAfter {d : Nat} {b0 : Nat} {r1 : Option Nat} {x2 : Int32} {h : ea_H} (hd : 3 ≤ d) (hs : ShC b0 h) (K : okX5_readAfter b0 r1 x2 h) : ea_Met mX5_readAfter d [vR (some (b0 + 22)), vR r1, vI x2] h (some (vI (vX5_readAfter b0 r1 x2 h))) (wX5_readAfter b0 r1 x2 h) := by
  obtain ⟨X, EX⟩ : ∃ z, z = vX5_readAfter b0 r1 x2 h := ⟨_, rfl⟩
  rw [← EX]
  unfold vX5_readAfter at EX
  obtain ⟨Y, EY⟩ : ∃ z, z = wX5_readAfter b0 r1 x2 h := ⟨_, rfl⟩
  rw [← EY]
  unfold wX5_readAfter at EY
  unfold okX5_readAfter at K
  refine ea_enter rfl (Nat.le_of_ble_eq_true rfl) ?_
  refine ea_aload_n (pc := 0) dX5_readAfter_0 rfl 0 rfl ?_
  refine ea_bipush (pc := 1) dX5_readAfter_1 (v := 14) rfl ?_
  obtain ⟨z1, K⟩ := K
  refine ea_callV (pc := 3) (d' := d - 1) (As := [vI 14]) (st := []) dX5_readAfter_3 kX5_skip (sX5_skip (d := d - 1) (by omega) hs z1) (by omega) rfl (Nat.le_of_ble_eq_true rfl) ew_899 ew_901 ew_32 (ci := 5) rfl (by decide) (hs.1 22 (by decide)).1 (hs.1 22 (by decide)).2.1 ?_
  have hs2 : ShC b0 (wX5_skip b0 (14 : Int32) h) := shX5_skip hs
  refine ea_if_ne (pc := 6) (tgt := 11) dX5_readAfter_6 rfl (fun c19 => ?_) (fun c19 => ?_)
  · have EX := EX.trans (if_neg c19)
    have EY := EY.trans (if_neg c19)
    have K := K.2 c19
    refine ea_aload_n (pc := 11) dX5_readAfter_11 rfl 0 rfl ?_
    refine ea_getI (pc := 12) dX5_readAfter_12 ec_5 (k := 9) (Nat.le_of_ble_eq_true rfl) rfl (Or.inl ew_303) (hs2.1 22 (by decide)).1 (hs2.1 22 (by decide)).2.1 ?_
    refine ea_bipush (pc := 15) dX5_readAfter_15 (v := 18) rfl ?_
    refine ea_icmp_eq (pc := 17) (tgt := 26) dX5_readAfter_17 rfl (fun c18 => ?_) (fun c18 => ?_)
    · have EX := EX.trans (if_pos c18)
      have EY := EY.trans (if_pos c18)
      have K := K.1 c18
      refine ea_aload_n (pc := 26) dX5_readAfter_26 rfl 0 rfl ?_
      refine ea_getR (pc := 27) dX5_readAfter_27 ec_5 (k := 6) (Nat.le_of_ble_eq_true rfl) rfl (Or.inl ew_300) (hs2.1 22 (by decide)).1 (hs2.1 22 (by decide)).2.1 (hs2.2 22 6 rfl) ?_
      refine ea_aload_n (pc := 30) dX5_readAfter_30 rfl 0 rfl ?_
      refine ea_getI (pc := 31) dX5_readAfter_31 ec_5 (k := 8) (Nat.le_of_ble_eq_true rfl) rfl (Or.inl ew_302) (hs2.1 22 (by decide)).1 (hs2.1 22 (by decide)).2.1 ?_
      obtain ⟨z3, K⟩ := K
      refine ea_iald (pc := 34) dX5_readAfter_34 (hs2.1 26 (by decide)).1 (hs2.1 26 (by decide)).2.1 (ea_vpl (hs2.1 26 (by decide)).2.2 z3) ?_
      refine ea_sipush (pc := 35) dX5_readAfter_35 (v := 1439) rfl ?_
      refine ea_icmp_le (pc := 38) (tgt := 47) dX5_readAfter_38 rfl (fun c15 => ?_) (fun c15 => ?_)
      · have EX := EX.trans (if_pos c15)
        have EY := EY.trans (if_pos c15)
        have K := K.1 c15
        refine ea_aload_n (pc := 47) dX5_readAfter_47 rfl 1 rfl ?_
        refine ea_iload_n (pc := 48) dX5_readAfter_48 rfl 2 rfl ?_
        obtain ⟨e4, f5, K⟩ := K
        refine ea_deref1 e4 ?_
        refine ea_putI (pc := 49) dX5_readAfter_49 ec_0 (k := 2) (Nat.le_of_ble_eq_true rfl) rfl (Or.inl ⟨rfl, Or.inl ew_796⟩) rfl rfl f5.1 f5.2 ?_
        have hs6 : ShC b0 (ea_wi (wX5_skip b0 (14 : Int32) h) (Option.getD r1 0) 2 x2) := ShC_wi hs2
        refine ea_aload_n (pc := 52) dX5_readAfter_52 rfl 1 rfl ?_
        refine ea_aload_n (pc := 53) dX5_readAfter_53 rfl 0 rfl ?_
        refine ea_getR (pc := 54) dX5_readAfter_54 ec_5 (k := 6) (Nat.le_of_ble_eq_true rfl) rfl (Or.inl ew_300) (hs6.1 22 (by decide)).1 (hs6.1 22 (by decide)).2.1 (hs6.2 22 6 rfl) ?_
        refine ea_aload_n (pc := 57) dX5_readAfter_57 rfl 0 rfl ?_
        refine ea_getI (pc := 58) dX5_readAfter_58 ec_5 (k := 8) (Nat.le_of_ble_eq_true rfl) rfl (Or.inl ew_302) (hs6.1 22 (by decide)).1 (hs6.1 22 (by decide)).2.1 ?_
        obtain ⟨z7, K⟩ := K
        refine ea_iald (pc := 61) dX5_readAfter_61 (hs6.1 26 (by decide)).1 (hs6.1 26 (by decide)).2.1 (ea_vpl (hs6.1 26 (by decide)).2.2 z7) ?_
        obtain ⟨e8, f9, K⟩ := K
        refine ea_deref1 e8 ?_
        refine ea_putI (pc := 62) dX5_readAfter_62 ec_0 (k := 3) (Nat.le_of_ble_eq_true rfl) rfl (Or.inl ⟨rfl, Or.inl ew_800⟩) rfl rfl f9.1 f9.2 ?_
        have hs10 : ShC b0 (ea_wi (ea_wi (wX5_skip b0 (14 : Int32) h) (Option.getD r1 0) 2 x2) (Option.getD r1 0) 3 (ea_i (ea_wi (wX5_skip b0 (14 : Int32) h) (Option.getD r1 0) 2 x2) (b0 + 26) (Int32.toNatClampNeg (ea_i (ea_wi (wX5_skip b0 (14 : Int32) h) (Option.getD r1 0) 2 x2) (b0 + 22) 8)))) := ShC_wi hs6
        refine ea_aload_n (pc := 65) dX5_readAfter_65 rfl 0 rfl ?_
        have z11 := K
        refine ea_callV (pc := 66) (d' := d - 1) (As := []) (st := []) dX5_readAfter_66 kX5_step (sX5_step (d := d - 1) (by omega) hs10 z11) (by omega) rfl (Nat.le_of_ble_eq_true rfl) ew_859 ew_861 ew_22 (ci := 5) rfl (by decide) (hs10.1 22 (by decide)).1 (hs10.1 22 (by decide)).2.1 ?_
        have hs12 : ShC b0 (wX5_step b0 (ea_wi (ea_wi (wX5_skip b0 (14 : Int32) h) (Option.getD r1 0) 2 x2) (Option.getD r1 0) 3 (ea_i (ea_wi (wX5_skip b0 (14 : Int32) h) (Option.getD r1 0) 2 x2) (b0 + 26) (Int32.toNatClampNeg (ea_i (ea_wi (wX5_skip b0 (14 : Int32) h) (Option.getD r1 0) 2 x2) (b0 + 22) 8))))) := shX5_step hs10
        refine ea_iconst (pc := 69) dX5_readAfter_69 (v := 1) rfl ?_
        subst EX
        subst EY
        exact ea_ireturn (pc := 70) dX5_readAfter_70 rfl (ea_bn (Or.inr rfl))
      · have EX := EX.trans (if_neg c15)
        have EY := EY.trans (if_neg c15)
        have K := K.2 c15
        refine ea_aload_n (pc := 41) dX5_readAfter_41 rfl 0 rfl ?_
        refine ea_iconst (pc := 42) dX5_readAfter_42 (v := 2) rfl ?_
        have z13 := K
        refine ea_callV (pc := 43) (d' := d - 1) (As := [vI 2]) (st := []) dX5_readAfter_43 kX5_refuse (sX5_refuse (d := d - 1) (by omega) hs2 z13) (by omega) rfl (Nat.le_of_ble_eq_true rfl) ew_851 ew_853 ew_20 (ci := 5) rfl (by decide) (hs2.1 22 (by decide)).1 (hs2.1 22 (by decide)).2.1 ?_
        have hs14 : ShC b0 (wX5_refuse b0 (2 : Int32) (wX5_skip b0 (14 : Int32) h)) := shX5_refuse hs2
        subst EX
        subst EY
        exact ea_ireturn (pc := 46) dX5_readAfter_46 rfl (ea_bn (bo_vX5_refuse ..))
    · have EX := EX.trans (if_neg c18)
      have EY := EY.trans (if_neg c18)
      have K := K.2 c18
      refine ea_aload_n (pc := 20) dX5_readAfter_20 rfl 0 rfl ?_
      refine ea_iconst (pc := 21) dX5_readAfter_21 (v := 1) rfl ?_
      have z16 := K
      refine ea_callV (pc := 22) (d' := d - 1) (As := [vI 1]) (st := []) dX5_readAfter_22 kX5_refuse (sX5_refuse (d := d - 1) (by omega) hs2 z16) (by omega) rfl (Nat.le_of_ble_eq_true rfl) ew_851 ew_853 ew_20 (ci := 5) rfl (by decide) (hs2.1 22 (by decide)).1 (hs2.1 22 (by decide)).2.1 ?_
      have hs17 : ShC b0 (wX5_refuse b0 (1 : Int32) (wX5_skip b0 (14 : Int32) h)) := shX5_refuse hs2
      subst EX
      subst EY
      exact ea_ireturn (pc := 25) dX5_readAfter_25 rfl (ea_bn (bo_vX5_refuse ..))
  · have EX := EX.trans (if_pos c19)
    have EY := EY.trans (if_pos c19)
    refine ea_iconst (pc := 9) dX5_readAfter_9 (v := 0) rfl ?_
    subst EX
    subst EY
    exact ea_ireturn (pc := 10) dX5_readAfter_10 rfl (ea_bn (Or.inl rfl))
noncomputable def gX5_scan (b0 : Nat) : Nat → Nat → Int32 → ea_H → Option (Unit × ea_H)
  | 0, _, _, _ => none
  | f + 1, lbl, x1, h =>
    if lbl = 0 then (gX5_scan b0 f 7 (0 : Int32) (ea_wi h (b0 + 22) 7 0)) else
    if lbl = 7 then (if (ea_i h (b0 + 22) 0) ≤ x1 then (gd ((okX5_addToken b0 (19 : Int32) ((ea_i h (b0 + 22) 0) : Int32) (0 : Int32) h)) (some ((), (wX5_addToken b0 (19 : Int32) ((ea_i h (b0 + 22) 0) : Int32) (0 : Int32) h)))) else (gd (vp_in x1 600) (if (vX5_isLetter ((ea_i h (b0 + 23) (Int32.toNatClampNeg x1)) : Int32) h) = (0 : Int32) then (if (vX5_isDigit ((ea_i h (b0 + 23) (Int32.toNatClampNeg x1)) : Int32) h) = (0 : Int32) then (if (ea_i h (b0 + 23) (Int32.toNatClampNeg x1)) = (32 : Int32) then (gX5_scan b0 f 7 ((x1 + (1 : Int32)) : Int32) h) else (if (ea_i h (b0 + 23) (Int32.toNatClampNeg x1)) = (10 : Int32) then (gX5_scan b0 f 7 ((x1 + (1 : Int32)) : Int32) h) else (if (vX5_isSign ((ea_i h (b0 + 23) (Int32.toNatClampNeg x1)) : Int32) h) = (0 : Int32) then (gd ((okX5_addToken b0 (20 : Int32) (x1 : Int32) (0 : Int32) h)) (gX5_scan b0 f 7 ((x1 + (1 : Int32)) : Int32) (wX5_addToken b0 (20 : Int32) (x1 : Int32) (0 : Int32) h))) else (gd ((okX5_addToken b0 ((ea_i h (b0 + 23) (Int32.toNatClampNeg x1)) : Int32) (x1 : Int32) (0 : Int32) h)) (gX5_scan b0 f 7 ((x1 + (1 : Int32)) : Int32) (wX5_addToken b0 ((ea_i h (b0 + 23) (Int32.toNatClampNeg x1)) : Int32) (x1 : Int32) (0 : Int32) h)))))) else (gd ((okX5_scanNumber b0 (x1 : Int32) h)) (gX5_scan b0 f 7 (((vX5_scanNumber b0 (x1 : Int32) h) + (1 : Int32)) : Int32) (wX5_scanNumber b0 (x1 : Int32) h)))) else (gd ((okX5_scanWord b0 (x1 : Int32) h)) (gX5_scan b0 f 7 (((vX5_scanWord b0 (x1 : Int32) h) + (1 : Int32)) : Int32) (wX5_scanWord b0 (x1 : Int32) h)))))) else none
theorem tX5_scan {d : Nat} {b0 : Nat} {h0 : ea_H} (hd : 3 ≤ d) : ∀ (f lbl : Nat) (x1 : Int32) (h : ea_H) (r : Unit) (h' : ea_H), gX5_scan b0 f lbl x1 h = some (r, h') → ShC b0 h → (lbl = 0 → ea_W mX5_scan d h0 none h' 0 [(0, vR (some (b0 + 22)))] [] h) ∧ (lbl = 7 → ea_W mX5_scan d h0 none h' 7 [(0, vR (some (b0 + 22))), (1, vI x1)] [] h) := by
  intro f
  induction f with
  | zero => intro lbl x1 h r h' E; cases E
  | succ f ih =>
    intro lbl x1 h r h' E hs
    unfold gX5_scan at E
    refine ⟨?_, ?_⟩
    · intro el
      subst el
      have E := (if_pos rfl).symm.trans E
      refine ea_aload_n (pc := 0) dX5_scan_0 rfl 0 rfl ?_
      refine ea_iconst (pc := 1) dX5_scan_1 (v := 0) rfl ?_
      refine ea_putI (pc := 2) dX5_scan_2 ec_5 (k := 7) (Nat.le_of_ble_eq_true rfl) rfl (Or.inl ⟨rfl, Or.inl ew_301⟩) rfl rfl (hs.1 22 (by decide)).1 (hs.1 22 (by decide)).2.1 ?_
      have hs1 : ShC b0 (ea_wi h (b0 + 22) 7 0) := ShC_wi hs
      refine ea_iconst (pc := 5) dX5_scan_5 (v := 0) rfl ?_
      refine ea_istore_n (pc := 6) (lv' := [(0, vR (some (b0 + 22))), (1, vI 0)]) dX5_scan_6 rfl (Nat.le_of_ble_eq_true rfl) [1, 0] rfl ?_
      exact ((ih 7 (0 : Int32) (ea_wi h (b0 + 22) 7 0) _ _ E hs1).2 rfl)
    intro el
    subst el
    have E := (if_neg (by decide)).symm.trans E
    have E := (if_pos rfl).symm.trans E
    refine ea_iload_n (pc := 7) dX5_scan_7 rfl 1 rfl ?_
    refine ea_aload_n (pc := 8) dX5_scan_8 rfl 0 rfl ?_
    refine ea_getI (pc := 9) dX5_scan_9 ec_5 (k := 0) (Nat.le_of_ble_eq_true rfl) rfl (Or.inl ew_291) (hs.1 22 (by decide)).1 (hs.1 22 (by decide)).2.1 ?_
    refine ea_icmp_ge (pc := 12) (tgt := 91) dX5_scan_12 rfl (fun c21 => ?_) (fun c21 => ?_)
    · have E := (if_pos c21).symm.trans E
      refine ea_aload_n (pc := 91) dX5_scan_91 rfl 0 rfl ?_
      refine ea_bipush (pc := 92) dX5_scan_92 (v := 19) rfl ?_
      refine ea_aload_n (pc := 94) dX5_scan_94 rfl 0 rfl ?_
      refine ea_getI (pc := 95) dX5_scan_95 ec_5 (k := 0) (Nat.le_of_ble_eq_true rfl) rfl (Or.inl ew_291) (hs.1 22 (by decide)).1 (hs.1 22 (by decide)).2.1 ?_
      refine ea_iconst (pc := 98) dX5_scan_98 (v := 0) rfl ?_
      obtain ⟨z2, E⟩ := gd_some E
      refine ea_callV (pc := 99) (d' := d - 1) (As := [vI 19, vI (ea_i h (b0 + 22) 0), vI 0]) (st := []) dX5_scan_99 kX5_addToken (sX5_addToken (d := d - 1) (by omega) hs z2) (by omega) rfl (Nat.le_of_ble_eq_true rfl) ew_771 ew_773 ew_18 (ci := 5) rfl (by decide) (hs.1 22 (by decide)).1 (hs.1 22 (by decide)).2.1 ?_
      have hs3 : ShC b0 (wX5_addToken b0 (19 : Int32) ((ea_i h (b0 + 22) 0) : Int32) (0 : Int32) h) := shX5_addToken hs
      cases E
      exact ea_return (pc := 102) dX5_scan_102 rfl
    · have E := (if_neg c21).symm.trans E
      refine ea_aload_n (pc := 15) dX5_scan_15 rfl 0 rfl ?_
      refine ea_getR (pc := 16) dX5_scan_16 ec_5 (k := 3) (Nat.le_of_ble_eq_true rfl) rfl (Or.inl ew_297) (hs.1 22 (by decide)).1 (hs.1 22 (by decide)).2.1 (hs.2 22 3 rfl) ?_
      refine ea_iload_n (pc := 19) dX5_scan_19 rfl 1 rfl ?_
      obtain ⟨z4, E⟩ := gd_some E
      refine ea_iald (pc := 20) dX5_scan_20 (hs.1 23 (by decide)).1 (hs.1 23 (by decide)).2.1 (ea_vpl (hs.1 23 (by decide)).2.2 z4) ?_
      refine ea_istore_n (pc := 21) (lv' := [(0, vR (some (b0 + 22))), (1, vI x1), (2, vI (ea_i h (b0 + 23) (Int32.toNatClampNeg x1)))]) dX5_scan_21 rfl (Nat.le_of_ble_eq_true rfl) [1, 2, 0] rfl ?_
      refine ea_iload_n (pc := 22) dX5_scan_22 rfl 2 rfl ?_
      refine ea_callS (pc := 23) (d' := d - 1) (As := [vI (ea_i h (b0 + 23) (Int32.toNatClampNeg x1))]) (st := []) dX5_scan_23 kX5_isLetter (sX5_isLetter (d := d - 1) (by omega)) (by omega) rfl (Nat.le_of_ble_eq_true rfl) ew_761 ew_762 ?_
      refine ea_if_eq (pc := 26) (tgt := 38) dX5_scan_26 rfl (fun c20 => ?_) (fun c20 => ?_)
      · have E := (if_pos c20).symm.trans E
        refine ea_iload_n (pc := 38) dX5_scan_38 rfl 2 rfl ?_
        refine ea_callS (pc := 39) (d' := d - 1) (As := [vI (ea_i h (b0 + 23) (Int32.toNatClampNeg x1))]) (st := []) dX5_scan_39 kX5_isDigit (sX5_isDigit (d := d - 1) (by omega)) (by omega) rfl (Nat.le_of_ble_eq_true rfl) ew_775 ew_776 ?_
        refine ea_if_eq (pc := 42) (tgt := 54) dX5_scan_42 rfl (fun c17 => ?_) (fun c17 => ?_)
        · have E := (if_pos c17).symm.trans E
          refine ea_iload_n (pc := 54) dX5_scan_54 rfl 2 rfl ?_
          refine ea_bipush (pc := 55) dX5_scan_55 (v := 32) rfl ?_
          refine ea_icmp_eq (pc := 57) (tgt := 85) dX5_scan_57 rfl (fun c14 => ?_) (fun c14 => ?_)
          · have E := (if_pos c14).symm.trans E
            refine ea_iinc (pc := 85) (v := 1) (lv' := [(0, vR (some (b0 + 22))), (1, vI (x1 + (1 : Int32)))]) dX5_scan_85 1 rfl rfl (Nat.le_of_ble_eq_true rfl) [1, 0] rfl ?_
            refine ea_goto (pc := 88) (tgt := 7) dX5_scan_88 rfl ?_
            exact ((ih 7 ((x1 + (1 : Int32)) : Int32) h _ _ E hs).2 rfl)
          · have E := (if_neg c14).symm.trans E
            refine ea_iload_n (pc := 60) dX5_scan_60 rfl 2 rfl ?_
            refine ea_bipush (pc := 61) dX5_scan_61 (v := 10) rfl ?_
            refine ea_icmp_eq (pc := 63) (tgt := 85) dX5_scan_63 rfl (fun c13 => ?_) (fun c13 => ?_)
            · have E := (if_pos c13).symm.trans E
              refine ea_iinc (pc := 85) (v := 1) (lv' := [(0, vR (some (b0 + 22))), (1, vI (x1 + (1 : Int32)))]) dX5_scan_85 1 rfl rfl (Nat.le_of_ble_eq_true rfl) [1, 0] rfl ?_
              refine ea_goto (pc := 88) (tgt := 7) dX5_scan_88 rfl ?_
              exact ((ih 7 ((x1 + (1 : Int32)) : Int32) h _ _ E hs).2 rfl)
            · have E := (if_neg c13).symm.trans E
              refine ea_aload_n (pc := 66) dX5_scan_66 rfl 0 rfl ?_
              refine ea_iload_n (pc := 67) dX5_scan_67 rfl 2 rfl ?_
              refine ea_callS (pc := 68) (d' := d - 1) (As := [vI (ea_i h (b0 + 23) (Int32.toNatClampNeg x1))]) (st := [vR (some (b0 + 22))]) dX5_scan_68 kX5_isSign (sX5_isSign (d := d - 1) (by omega)) (by omega) rfl (Nat.le_of_ble_eq_true rfl) ew_782 ew_783 ?_
              refine ea_if_eq (pc := 71) (tgt := 78) dX5_scan_71 rfl (fun c12 => ?_) (fun c12 => ?_)
              · have E := (if_pos c12).symm.trans E
                refine ea_bipush (pc := 78) dX5_scan_78 (v := 20) rfl ?_
                refine ea_iload_n (pc := 80) dX5_scan_80 rfl 1 rfl ?_
                refine ea_iconst (pc := 81) dX5_scan_81 (v := 0) rfl ?_
                obtain ⟨z8, E⟩ := gd_some E
                refine ea_callV (pc := 82) (d' := d - 1) (As := [vI 20, vI x1, vI 0]) (st := []) dX5_scan_82 kX5_addToken (sX5_addToken (d := d - 1) (by omega) hs z8) (by omega) rfl (Nat.le_of_ble_eq_true rfl) ew_771 ew_773 ew_18 (ci := 5) rfl (by decide) (hs.1 22 (by decide)).1 (hs.1 22 (by decide)).2.1 ?_
                have hs9 : ShC b0 (wX5_addToken b0 (20 : Int32) (x1 : Int32) (0 : Int32) h) := shX5_addToken hs
                refine ea_iinc (pc := 85) (v := 1) (lv' := [(0, vR (some (b0 + 22))), (1, vI (x1 + (1 : Int32)))]) dX5_scan_85 1 rfl rfl (Nat.le_of_ble_eq_true rfl) [1, 0] rfl ?_
                refine ea_goto (pc := 88) (tgt := 7) dX5_scan_88 rfl ?_
                exact ((ih 7 ((x1 + (1 : Int32)) : Int32) (wX5_addToken b0 (20 : Int32) (x1 : Int32) (0 : Int32) h) _ _ E hs9).2 rfl)
              · have E := (if_neg c12).symm.trans E
                refine ea_iload_n (pc := 74) dX5_scan_74 rfl 2 rfl ?_
                refine ea_goto (pc := 75) (tgt := 80) dX5_scan_75 rfl ?_
                refine ea_iload_n (pc := 80) dX5_scan_80 rfl 1 rfl ?_
                refine ea_iconst (pc := 81) dX5_scan_81 (v := 0) rfl ?_
                obtain ⟨z10, E⟩ := gd_some E
                refine ea_callV (pc := 82) (d' := d - 1) (As := [vI (ea_i h (b0 + 23) (Int32.toNatClampNeg x1)), vI x1, vI 0]) (st := []) dX5_scan_82 kX5_addToken (sX5_addToken (d := d - 1) (by omega) hs z10) (by omega) rfl (Nat.le_of_ble_eq_true rfl) ew_771 ew_773 ew_18 (ci := 5) rfl (by decide) (hs.1 22 (by decide)).1 (hs.1 22 (by decide)).2.1 ?_
                have hs11 : ShC b0 (wX5_addToken b0 ((ea_i h (b0 + 23) (Int32.toNatClampNeg x1)) : Int32) (x1 : Int32) (0 : Int32) h) := shX5_addToken hs
                refine ea_iinc (pc := 85) (v := 1) (lv' := [(0, vR (some (b0 + 22))), (1, vI (x1 + (1 : Int32)))]) dX5_scan_85 1 rfl rfl (Nat.le_of_ble_eq_true rfl) [1, 0] rfl ?_
                refine ea_goto (pc := 88) (tgt := 7) dX5_scan_88 rfl ?_
                exact ((ih 7 ((x1 + (1 : Int32)) : Int32) (wX5_addToken b0 ((ea_i h (b0 + 23) (Int32.toNatClampNeg x1)) : Int32) (x1 : Int32) (0 : Int32) h) _ _ E hs11).2 rfl)
        · have E := (if_neg c17).symm.trans E
          refine ea_aload_n (pc := 45) dX5_scan_45 rfl 0 rfl ?_
          refine ea_iload_n (pc := 46) dX5_scan_46 rfl 1 rfl ?_
          obtain ⟨z15, E⟩ := gd_some E
          refine ea_callV (pc := 47) (d' := d - 1) (As := [vI x1]) (st := []) dX5_scan_47 kX5_scanNumber (sX5_scanNumber (d := d - 1) (by omega) hs z15) (by omega) rfl (Nat.le_of_ble_eq_true rfl) ew_778 ew_780 ew_19 (ci := 5) rfl (by decide) (hs.1 22 (by decide)).1 (hs.1 22 (by decide)).2.1 ?_
          have hs16 : ShC b0 (wX5_scanNumber b0 (x1 : Int32) h) := shX5_scanNumber hs
          refine ea_istore_n (pc := 50) (lv' := [(0, vR (some (b0 + 22))), (1, vI (vX5_scanNumber b0 (x1 : Int32) h))]) dX5_scan_50 rfl (Nat.le_of_ble_eq_true rfl) [1, 0] rfl ?_
          refine ea_goto (pc := 51) (tgt := 85) dX5_scan_51 rfl ?_
          refine ea_iinc (pc := 85) (v := 1) (lv' := [(0, vR (some (b0 + 22))), (1, vI ((vX5_scanNumber b0 (x1 : Int32) h) + (1 : Int32)))]) dX5_scan_85 1 rfl rfl (Nat.le_of_ble_eq_true rfl) [1, 0] rfl ?_
          refine ea_goto (pc := 88) (tgt := 7) dX5_scan_88 rfl ?_
          exact ((ih 7 (((vX5_scanNumber b0 (x1 : Int32) h) + (1 : Int32)) : Int32) (wX5_scanNumber b0 (x1 : Int32) h) _ _ E hs16).2 rfl)
      · have E := (if_neg c20).symm.trans E
        refine ea_aload_n (pc := 29) dX5_scan_29 rfl 0 rfl ?_
        refine ea_iload_n (pc := 30) dX5_scan_30 rfl 1 rfl ?_
        obtain ⟨z18, E⟩ := gd_some E
        refine ea_callV (pc := 31) (d' := d - 1) (As := [vI x1]) (st := []) dX5_scan_31 kX5_scanWord (sX5_scanWord (d := d - 1) (by omega) hs z18) (by omega) rfl (Nat.le_of_ble_eq_true rfl) ew_764 ew_766 ew_17 (ci := 5) rfl (by decide) (hs.1 22 (by decide)).1 (hs.1 22 (by decide)).2.1 ?_
        have hs19 : ShC b0 (wX5_scanWord b0 (x1 : Int32) h) := shX5_scanWord hs
        refine ea_istore_n (pc := 34) (lv' := [(0, vR (some (b0 + 22))), (1, vI (vX5_scanWord b0 (x1 : Int32) h))]) dX5_scan_34 rfl (Nat.le_of_ble_eq_true rfl) [1, 0] rfl ?_
        refine ea_goto (pc := 35) (tgt := 85) dX5_scan_35 rfl ?_
        refine ea_iinc (pc := 85) (v := 1) (lv' := [(0, vR (some (b0 + 22))), (1, vI ((vX5_scanWord b0 (x1 : Int32) h) + (1 : Int32)))]) dX5_scan_85 1 rfl rfl (Nat.le_of_ble_eq_true rfl) [1, 0] rfl ?_
        refine ea_goto (pc := 88) (tgt := 7) dX5_scan_88 rfl ?_
        exact ((ih 7 (((vX5_scanWord b0 (x1 : Int32) h) + (1 : Int32)) : Int32) (wX5_scanWord b0 (x1 : Int32) h) _ _ E hs19).2 rfl)
noncomputable def qX5_scan (b0 : Nat) (h : ea_H) : Option (Unit × ea_H) := gX5_scan b0 1000000000 0 0 h
def okX5_scan (b0 : Nat) (h : ea_H) : Prop := ∃ x, qX5_scan b0 h = some x
noncomputable def wX5_scan (b0 : Nat) (h : ea_H) : ea_H := ((qX5_scan b0 h).getD ((), h)).2
theorem sX5_scan {d : Nat} {b0 : Nat} {h : ea_H} (hd : 3 ≤ d) (hs : ShC b0 h) (K : okX5_scan b0 h) : ea_Met mX5_scan d [vR (some (b0 + 22))] h none (wX5_scan b0 h) := by
  obtain ⟨⟨x, y⟩, K⟩ := K
  unfold wX5_scan
  rw [K]
  unfold qX5_scan at K
  exact ea_enter rfl (Nat.le_of_ble_eq_true rfl) ((tX5_scan hd 1000000000 0 0 h x y K hs).1 rfl)
theorem zX5_scan {b0 : Nat} : ∀ (f lbl : Nat) (x1 : Int32) (h : ea_H) (r : Unit) (h' : ea_H), gX5_scan b0 f lbl x1 h = some (r, h') → ShC b0 h → ShC b0 h' := by
  intro f
  induction f with
  | zero => intro lbl x1 h r h' E; cases E
  | succ f ih =>
    intro lbl x1 h r h' E hs
    unfold gX5_scan at E
    by_cases el0 : lbl = 0
    · have E := (if_pos el0).symm.trans E
      exact ih 7 (0 : Int32) (ea_wi h (b0 + 22) 7 0) _ _ E (ShC_wi hs)
    have E := (if_neg el0).symm.trans E
    by_cases el1 : lbl = 7
    · have E := (if_pos el1).symm.trans E
      by_cases c21 : (ea_i h (b0 + 22) 0) ≤ x1
      · have E := (if_pos c21).symm.trans E
        obtain ⟨z2, E⟩ := gd_some E
        cases E
        exact (shX5_addToken hs)
      have E := (if_neg c21).symm.trans E
      obtain ⟨z4, E⟩ := gd_some E
      by_cases c20 : (vX5_isLetter ((ea_i h (b0 + 23) (Int32.toNatClampNeg x1)) : Int32) h) = (0 : Int32)
      · have E := (if_pos c20).symm.trans E
        by_cases c17 : (vX5_isDigit ((ea_i h (b0 + 23) (Int32.toNatClampNeg x1)) : Int32) h) = (0 : Int32)
        · have E := (if_pos c17).symm.trans E
          by_cases c14 : (ea_i h (b0 + 23) (Int32.toNatClampNeg x1)) = (32 : Int32)
          · have E := (if_pos c14).symm.trans E
            exact ih 7 ((x1 + (1 : Int32)) : Int32) h _ _ E hs
          have E := (if_neg c14).symm.trans E
          by_cases c13 : (ea_i h (b0 + 23) (Int32.toNatClampNeg x1)) = (10 : Int32)
          · have E := (if_pos c13).symm.trans E
            exact ih 7 ((x1 + (1 : Int32)) : Int32) h _ _ E hs
          have E := (if_neg c13).symm.trans E
          by_cases c12 : (vX5_isSign ((ea_i h (b0 + 23) (Int32.toNatClampNeg x1)) : Int32) h) = (0 : Int32)
          · have E := (if_pos c12).symm.trans E
            obtain ⟨z8, E⟩ := gd_some E
            exact ih 7 ((x1 + (1 : Int32)) : Int32) (wX5_addToken b0 (20 : Int32) (x1 : Int32) (0 : Int32) h) _ _ E (shX5_addToken hs)
          have E := (if_neg c12).symm.trans E
          obtain ⟨z10, E⟩ := gd_some E
          exact ih 7 ((x1 + (1 : Int32)) : Int32) (wX5_addToken b0 ((ea_i h (b0 + 23) (Int32.toNatClampNeg x1)) : Int32) (x1 : Int32) (0 : Int32) h) _ _ E (shX5_addToken hs)
        have E := (if_neg c17).symm.trans E
        obtain ⟨z15, E⟩ := gd_some E
        exact ih 7 (((vX5_scanNumber b0 (x1 : Int32) h) + (1 : Int32)) : Int32) (wX5_scanNumber b0 (x1 : Int32) h) _ _ E (shX5_scanNumber hs)
      have E := (if_neg c20).symm.trans E
      obtain ⟨z18, E⟩ := gd_some E
      exact ih 7 (((vX5_scanWord b0 (x1 : Int32) h) + (1 : Int32)) : Int32) (wX5_scanWord b0 (x1 : Int32) h) _ _ E (shX5_scanWord hs)
    have E := (if_neg el1).symm.trans E
    cases E
theorem shX5_scan {b0 : Nat} {h : ea_H} (hs : ShC b0 h) : ShC b0 (wX5_scan b0 h) := by
  unfold wX5_scan
  cases K : qX5_scan b0 h with
  | none => exact hs
  | some x => obtain ⟨x, y⟩ := x; unfold qX5_scan at K; exact zX5_scan _ _ _ _ _ _ K hs
noncomputable def gX8_lineFor (b0 : Nat) : Nat → Nat → Option Nat → Option Nat → Int32 → ea_H → Option (Int32 × ea_H)
  | 0, _, _, _, _, _ => none
  | f + 1, lbl, r1, r2, x3, h =>
    if lbl = 0 then (gd ((okX8_ask b0 (r2 : Option Nat) h)) (gX8_lineFor b0 f 7 (r1 : Option Nat) none (0 : Int32) (wX8_ask b0 (r2 : Option Nat) h))) else
    if lbl = 7 then (gd (r1 = some (Option.getD r1 0)) (gd (((Option.getD r1 0) < ea_n h ∧ ea_c h (Option.getD r1 0) = 0)) (if (ea_i h (Option.getD r1 0) 8) ≤ x3 then (some (((-1) : Int32), h)) else (gd (r1 = some (Option.getD r1 0)) (gd (((Option.getD r1 0) < ea_n h ∧ ea_c h (Option.getD r1 0) = 0)) (gd ((ea_r h (Option.getD r1 0) 10) = some (Option.getD (ea_r h (Option.getD r1 0) 10) 0)) (gd (((Option.getD (ea_r h (Option.getD r1 0) 10) 0) < ea_n h ∧ ea_c h (Option.getD (ea_r h (Option.getD r1 0) 10) 0) = 20)) (gd (vp_in x3 (ea_l h (Option.getD (ea_r h (Option.getD r1 0) 10) 0))) (if (ea_i h (Option.getD (ea_r h (Option.getD r1 0) 10) 0) (Int32.toNatClampNeg x3)) = ((-1) : Int32) then (some (x3, h)) else (gd (r1 = some (Option.getD r1 0)) (gd (((Option.getD r1 0) < ea_n h ∧ ea_c h (Option.getD r1 0) = 0)) (gd (r1 = some (Option.getD r1 0)) (gd (((Option.getD r1 0) < ea_n h ∧ ea_c h (Option.getD r1 0) = 0)) (gd ((ea_r h (Option.getD r1 0) 10) = some (Option.getD (ea_r h (Option.getD r1 0) 10) 0)) (gd (((Option.getD (ea_r h (Option.getD r1 0) 10) 0) < ea_n h ∧ ea_c h (Option.getD (ea_r h (Option.getD r1 0) 10) 0) = 20)) (gd (vp_in x3 (ea_l h (Option.getD (ea_r h (Option.getD r1 0) 10) 0))) (gd ((okX8_worth b0 ((ea_r h (Option.getD r1 0) 11) : Option Nat) ((ea_i h (Option.getD (ea_r h (Option.getD r1 0) 10) 0) (Int32.toNatClampNeg x3)) : Int32) h)) (if (vX8_worth b0 ((ea_r h (Option.getD r1 0) 11) : Option Nat) ((ea_i h (Option.getD (ea_r h (Option.getD r1 0) 10) 0) (Int32.toNatClampNeg x3)) : Int32) h) = (0 : Int32) then (gX8_lineFor b0 f 7 (r1 : Option Nat) none ((x3 + (1 : Int32)) : Int32) (wX8_worth b0 ((ea_r h (Option.getD r1 0) 11) : Option Nat) ((ea_i h (Option.getD (ea_r h (Option.getD r1 0) 10) 0) (Int32.toNatClampNeg x3)) : Int32) h)) else (some (x3, (wX8_worth b0 ((ea_r h (Option.getD r1 0) 11) : Option Nat) ((ea_i h (Option.getD (ea_r h (Option.getD r1 0) 10) 0) (Int32.toNatClampNeg x3)) : Int32) h))))))))))))))))))))) else none
theorem tX8_lineFor {d : Nat} {b0 : Nat} {h0 : ea_H} (hd : 3 ≤ d) : ∀ (f lbl : Nat) (r1 : Option Nat) (r2 : Option Nat) (x3 : Int32) (h : ea_H) (r : Int32) (h' : ea_H), gX8_lineFor b0 f lbl r1 r2 x3 h = some (r, h') → ShC b0 h → (lbl = 0 → ea_W mX8_lineFor d h0 (some (vI r)) h' 0 [(0, vR (some (b0 + 21))), (1, vR r1), (2, vR r2)] [] h) ∧ (lbl = 7 → ea_W mX8_lineFor d h0 (some (vI r)) h' 7 [(0, vR (some (b0 + 21))), (1, vR r1), (3, vI x3)] [] h) := by
  intro f
  induction f with
  | zero => intro lbl r1 r2 x3 h r h' E; cases E
  | succ f ih =>
    intro lbl r1 r2 x3 h r h' E hs
    unfold gX8_lineFor at E
    refine ⟨?_, ?_⟩
    · intro el
      subst el
      have E := (if_pos rfl).symm.trans E
      refine ea_aload_n (pc := 0) dX8_lineFor_0 rfl 0 rfl ?_
      refine ea_aload_n (pc := 1) dX8_lineFor_1 rfl 2 rfl ?_
      obtain ⟨z1, E⟩ := gd_some E
      refine ea_callV (pc := 2) (d' := d - 1) (As := [vR r2]) (st := []) dX8_lineFor_2 kX8_ask (sX8_ask (d := d - 1) (by omega) hs z1) (by omega) rfl (Nat.le_of_ble_eq_true rfl) ew_1054 ew_1056 ew_35 (ci := 8) rfl (by decide) (hs.1 21 (by decide)).1 (hs.1 21 (by decide)).2.1 ?_
      have hs2 : ShC b0 (wX8_ask b0 (r2 : Option Nat) h) := shX8_ask hs
      refine ea_iconst (pc := 5) dX8_lineFor_5 (v := 0) rfl ?_
      refine ea_istore_n (pc := 6) (lv' := [(0, vR (some (b0 + 21))), (1, vR r1), (3, vI 0)]) dX8_lineFor_6 rfl (Nat.le_of_ble_eq_true rfl) [1, 2, 0] rfl ?_
      exact ((ih 7 (r1 : Option Nat) none (0 : Int32) (wX8_ask b0 (r2 : Option Nat) h) _ _ E hs2).2 rfl)
    intro el
    subst el
    have E := (if_neg (by decide)).symm.trans E
    have E := (if_pos rfl).symm.trans E
    refine ea_iload_n (pc := 7) dX8_lineFor_7 rfl 2 rfl ?_
    refine ea_aload_n (pc := 8) dX8_lineFor_8 rfl 1 rfl ?_
    obtain ⟨e3, E⟩ := gd_some E
    obtain ⟨f4, E⟩ := gd_some E
    refine ea_deref0 e3 ?_
    refine ea_getI (pc := 9) dX8_lineFor_9 ec_0 (k := 8) (Nat.le_of_ble_eq_true rfl) rfl (Or.inl ew_817) f4.1 f4.2 ?_
    refine ea_icmp_ge (pc := 12) (tgt := 50) dX8_lineFor_12 rfl (fun c21 => ?_) (fun c21 => ?_)
    · have E := (if_pos c21).symm.trans E
      refine ea_iconst (pc := 50) dX8_lineFor_50 (v := (-1)) rfl ?_
      cases E
      exact ea_ireturn (pc := 51) dX8_lineFor_51 rfl rfl
    · have E := (if_neg c21).symm.trans E
      refine ea_aload_n (pc := 15) dX8_lineFor_15 rfl 1 rfl ?_
      obtain ⟨e5, E⟩ := gd_some E
      obtain ⟨f6, E⟩ := gd_some E
      refine ea_deref0 e5 ?_
      refine ea_getR (pc := 16) dX8_lineFor_16 ec_0 (k := 10) (Nat.le_of_ble_eq_true rfl) rfl (Or.inl ew_823) f6.1 f6.2 rfl ?_
      refine ea_iload_n (pc := 19) dX8_lineFor_19 rfl 2 rfl ?_
      obtain ⟨e7, E⟩ := gd_some E
      obtain ⟨f8, E⟩ := gd_some E
      obtain ⟨z9, E⟩ := gd_some E
      refine ea_deref1 e7 ?_
      refine ea_iald (pc := 20) dX8_lineFor_20 f8.1 f8.2 z9 ?_
      refine ea_iconst (pc := 21) dX8_lineFor_21 (v := (-1)) rfl ?_
      refine ea_icmp_eq (pc := 22) (tgt := 42) dX8_lineFor_22 rfl (fun c20 => ?_) (fun c20 => ?_)
      · have E := (if_pos c20).symm.trans E
        refine ea_iload_n (pc := 42) dX8_lineFor_42 rfl 2 rfl ?_
        cases E
        exact ea_ireturn (pc := 43) dX8_lineFor_43 rfl rfl
      · have E := (if_neg c20).symm.trans E
        refine ea_aload_n (pc := 25) dX8_lineFor_25 rfl 0 rfl ?_
        refine ea_aload_n (pc := 26) dX8_lineFor_26 rfl 1 rfl ?_
        obtain ⟨e10, E⟩ := gd_some E
        obtain ⟨f11, E⟩ := gd_some E
        refine ea_deref0 e10 ?_
        refine ea_getR (pc := 27) dX8_lineFor_27 ec_0 (k := 11) (Nat.le_of_ble_eq_true rfl) rfl (Or.inl ew_825) f11.1 f11.2 rfl ?_
        refine ea_aload_n (pc := 30) dX8_lineFor_30 rfl 1 rfl ?_
        obtain ⟨e12, E⟩ := gd_some E
        obtain ⟨f13, E⟩ := gd_some E
        refine ea_deref0 e12 ?_
        refine ea_getR (pc := 31) dX8_lineFor_31 ec_0 (k := 10) (Nat.le_of_ble_eq_true rfl) rfl (Or.inl ew_823) f13.1 f13.2 rfl ?_
        refine ea_iload_n (pc := 34) dX8_lineFor_34 rfl 2 rfl ?_
        obtain ⟨e14, E⟩ := gd_some E
        obtain ⟨f15, E⟩ := gd_some E
        obtain ⟨z16, E⟩ := gd_some E
        refine ea_deref1 e14 ?_
        refine ea_iald (pc := 35) dX8_lineFor_35 f15.1 f15.2 z16 ?_
        obtain ⟨z17, E⟩ := gd_some E
        refine ea_callV (pc := 36) (d' := d - 1) (As := [vR (ea_r h (Option.getD r1 0) 11), vI (ea_i h (Option.getD (ea_r h (Option.getD r1 0) 10) 0) (Int32.toNatClampNeg x3))]) (st := []) dX8_lineFor_36 kX8_worth (sX8_worth (d := d - 1) (by omega) hs z17) (by omega) rfl (Nat.le_of_ble_eq_true rfl) ew_1058 ew_1060 ew_36 (ci := 8) rfl (by decide) (hs.1 21 (by decide)).1 (hs.1 21 (by decide)).2.1 ?_
        have hs18 : ShC b0 (wX8_worth b0 ((ea_r h (Option.getD r1 0) 11) : Option Nat) ((ea_i h (Option.getD (ea_r h (Option.getD r1 0) 10) 0) (Int32.toNatClampNeg x3)) : Int32) h) := shX8_worth hs
        refine ea_if_eq (pc := 39) (tgt := 44) dX8_lineFor_39 rfl (fun c19 => ?_) (fun c19 => ?_)
        · have E := (if_pos c19).symm.trans E
          refine ea_iinc (pc := 44) (v := 1) (lv' := [(0, vR (some (b0 + 21))), (1, vR r1), (3, vI (x3 + (1 : Int32)))]) dX8_lineFor_44 2 rfl rfl (Nat.le_of_ble_eq_true rfl) [1, 2, 0] rfl ?_
          refine ea_goto (pc := 47) (tgt := 7) dX8_lineFor_47 rfl ?_
          exact ((ih 7 (r1 : Option Nat) none ((x3 + (1 : Int32)) : Int32) (wX8_worth b0 ((ea_r h (Option.getD r1 0) 11) : Option Nat) ((ea_i h (Option.getD (ea_r h (Option.getD r1 0) 10) 0) (Int32.toNatClampNeg x3)) : Int32) h) _ _ E hs18).2 rfl)
        · have E := (if_neg c19).symm.trans E
          refine ea_iload_n (pc := 42) dX8_lineFor_42 rfl 2 rfl ?_
          cases E
          exact ea_ireturn (pc := 43) dX8_lineFor_43 rfl rfl
noncomputable def qX8_lineFor (b0 : Nat) (r1 : Option Nat) (r2 : Option Nat) (h : ea_H) : Option (Int32 × ea_H) := gX8_lineFor b0 1000000000 0 r1 r2 0 h
def okX8_lineFor (b0 : Nat) (r1 : Option Nat) (r2 : Option Nat) (h : ea_H) : Prop := ∃ x, qX8_lineFor b0 r1 r2 h = some x
noncomputable def vX8_lineFor (b0 : Nat) (r1 : Option Nat) (r2 : Option Nat) (h : ea_H) : Int32 := ((qX8_lineFor b0 r1 r2 h).getD (0, h)).1
noncomputable def wX8_lineFor (b0 : Nat) (r1 : Option Nat) (r2 : Option Nat) (h : ea_H) : ea_H := ((qX8_lineFor b0 r1 r2 h).getD (0, h)).2
theorem sX8_lineFor {d : Nat} {b0 : Nat} {r1 : Option Nat} {r2 : Option Nat} {h : ea_H} (hd : 3 ≤ d) (hs : ShC b0 h) (K : okX8_lineFor b0 r1 r2 h) : ea_Met mX8_lineFor d [vR (some (b0 + 21)), vR r1, vR r2] h (some (vI (vX8_lineFor b0 r1 r2 h))) (wX8_lineFor b0 r1 r2 h) := by
  obtain ⟨⟨x, y⟩, K⟩ := K
  unfold wX8_lineFor vX8_lineFor
  rw [K]
  unfold qX8_lineFor at K
  exact ea_enter rfl (Nat.le_of_ble_eq_true rfl) ((tX8_lineFor hd 1000000000 0 r1 r2 0 h x y K hs).1 rfl)
theorem zX8_lineFor {b0 : Nat} : ∀ (f lbl : Nat) (r1 : Option Nat) (r2 : Option Nat) (x3 : Int32) (h : ea_H) (r : Int32) (h' : ea_H), gX8_lineFor b0 f lbl r1 r2 x3 h = some (r, h') → ShC b0 h → ShC b0 h' := by
  intro f
  induction f with
  | zero => intro lbl r1 r2 x3 h r h' E; cases E
  | succ f ih =>
    intro lbl r1 r2 x3 h r h' E hs
    unfold gX8_lineFor at E
    by_cases el0 : lbl = 0
    · have E := (if_pos el0).symm.trans E
      obtain ⟨z1, E⟩ := gd_some E
      exact ih 7 (r1 : Option Nat) none (0 : Int32) (wX8_ask b0 (r2 : Option Nat) h) _ _ E (shX8_ask hs)
    have E := (if_neg el0).symm.trans E
    by_cases el1 : lbl = 7
    · have E := (if_pos el1).symm.trans E
      obtain ⟨e3, E⟩ := gd_some E
      obtain ⟨f4, E⟩ := gd_some E
      by_cases c21 : (ea_i h (Option.getD r1 0) 8) ≤ x3
      · have E := (if_pos c21).symm.trans E
        cases E
        exact hs
      have E := (if_neg c21).symm.trans E
      obtain ⟨e5, E⟩ := gd_some E
      obtain ⟨f6, E⟩ := gd_some E
      obtain ⟨e7, E⟩ := gd_some E
      obtain ⟨f8, E⟩ := gd_some E
      obtain ⟨z9, E⟩ := gd_some E
      by_cases c20 : (ea_i h (Option.getD (ea_r h (Option.getD r1 0) 10) 0) (Int32.toNatClampNeg x3)) = ((-1) : Int32)
      · have E := (if_pos c20).symm.trans E
        cases E
        exact hs
      have E := (if_neg c20).symm.trans E
      obtain ⟨e10, E⟩ := gd_some E
      obtain ⟨f11, E⟩ := gd_some E
      obtain ⟨e12, E⟩ := gd_some E
      obtain ⟨f13, E⟩ := gd_some E
      obtain ⟨e14, E⟩ := gd_some E
      obtain ⟨f15, E⟩ := gd_some E
      obtain ⟨z16, E⟩ := gd_some E
      obtain ⟨z17, E⟩ := gd_some E
      by_cases c19 : (vX8_worth b0 ((ea_r h (Option.getD r1 0) 11) : Option Nat) ((ea_i h (Option.getD (ea_r h (Option.getD r1 0) 10) 0) (Int32.toNatClampNeg x3)) : Int32) h) = (0 : Int32)
      · have E := (if_pos c19).symm.trans E
        exact ih 7 (r1 : Option Nat) none ((x3 + (1 : Int32)) : Int32) (wX8_worth b0 ((ea_r h (Option.getD r1 0) 11) : Option Nat) ((ea_i h (Option.getD (ea_r h (Option.getD r1 0) 10) 0) (Int32.toNatClampNeg x3)) : Int32) h) _ _ E (shX8_worth hs)
      have E := (if_neg c19).symm.trans E
      cases E
      exact (shX8_worth hs)
    have E := (if_neg el1).symm.trans E
    cases E
theorem shX8_lineFor {b0 : Nat} {r1 : Option Nat} {r2 : Option Nat} {h : ea_H} (hs : ShC b0 h) : ShC b0 (wX8_lineFor b0 r1 r2 h) := by
  unfold wX8_lineFor
  cases K : qX8_lineFor b0 r1 r2 h with
  | none => exact hs
  | some x => obtain ⟨x, y⟩ := x; unfold qX8_lineFor at K; exact zX8_lineFor _ _ _ _ _ _ _ _ K hs
noncomputable def gX10_trace (b0 : Nat) : Nat → Nat → Int32 → ea_H → Option (Unit × ea_H)
  | 0, _, _, _ => none
  | f + 1, lbl, x1, h =>
    if lbl = 0 then (gd ((okJ7_fill_d0a16 b0 ((ea_r h (b0 + 13) 5) : Option Nat) (9223372036854775807 : Int64) h)) (gd ((okJ7_fill_53178 b0 ((some (b0 + 14)) : Option Nat) ((-1) : Int32) (wJ7_fill_d0a16 b0 ((ea_r h (b0 + 13) 5) : Option Nat) (9223372036854775807 : Int64) h))) (gX10_trace b0 f 25 (((ea_i (wJ7_fill_53178 b0 ((some (b0 + 14)) : Option Nat) ((-1) : Int32) (wJ7_fill_d0a16 b0 ((ea_r h (b0 + 13) 5) : Option Nat) (9223372036854775807 : Int64) h)) (b0 + 13) 1) - (1 : Int32)) : Int32) (wJ7_fill_53178 b0 ((some (b0 + 14)) : Option Nat) ((-1) : Int32) (wJ7_fill_d0a16 b0 ((ea_r h (b0 + 13) 5) : Option Nat) (9223372036854775807 : Int64) h))))) else
    if lbl = 25 then (if x1 < (0 : Int32) then (some ((), h)) else (gd ((ea_r h (b0 + 13) 3) = some (Option.getD (ea_r h (b0 + 13) 3) 0)) (gd (((Option.getD (ea_r h (b0 + 13) 3) 0) < ea_n h ∧ ea_c h (Option.getD (ea_r h (b0 + 13) 3) 0) = 20)) (gd (vp_in x1 (ea_l h (Option.getD (ea_r h (b0 + 13) 3) 0))) (if (vX10_isGoing ((ea_i h (Option.getD (ea_r h (b0 + 13) 3) 0) (Int32.toNatClampNeg x1)) : Int32) h) = (0 : Int32) then (gd ((okX10_townIn b0 ((ea_i h (Option.getD (ea_r h (b0 + 13) 3) 0) (Int32.toNatClampNeg x1)) : Int32) h)) (gd ((okX10_leaveRun b0 ((ea_i h (Option.getD (ea_r h (b0 + 13) 3) 0) (Int32.toNatClampNeg x1)) : Int32) ((vX10_slotIn ((ea_i h (Option.getD (ea_r h (b0 + 13) 3) 0) (Int32.toNatClampNeg x1)) : Int32) h) : Int32) ((vX10_townIn b0 ((ea_i h (Option.getD (ea_r h (b0 + 13) 3) 0) (Int32.toNatClampNeg x1)) : Int32) h) : Int32) h)) (gX10_trace b0 f 25 ((x1 + ((-1) : Int32)) : Int32) (wX10_leaveRun b0 ((ea_i h (Option.getD (ea_r h (b0 + 13) 3) 0) (Int32.toNatClampNeg x1)) : Int32) ((vX10_slotIn ((ea_i h (Option.getD (ea_r h (b0 + 13) 3) 0) (Int32.toNatClampNeg x1)) : Int32) h) : Int32) ((vX10_townIn b0 ((ea_i h (Option.getD (ea_r h (b0 + 13) 3) 0) (Int32.toNatClampNeg x1)) : Int32) h) : Int32) h)))) else (gd ((okX10_townIn b0 ((ea_i h (Option.getD (ea_r h (b0 + 13) 3) 0) (Int32.toNatClampNeg x1)) : Int32) h)) (gd ((okX10_takeRun b0 ((ea_i h (Option.getD (ea_r h (b0 + 13) 3) 0) (Int32.toNatClampNeg x1)) : Int32) ((vX10_slotIn ((ea_i h (Option.getD (ea_r h (b0 + 13) 3) 0) (Int32.toNatClampNeg x1)) : Int32) h) : Int32) ((vX10_townIn b0 ((ea_i h (Option.getD (ea_r h (b0 + 13) 3) 0) (Int32.toNatClampNeg x1)) : Int32) h) : Int32) h)) (gX10_trace b0 f 25 ((x1 + ((-1) : Int32)) : Int32) (wX10_takeRun b0 ((ea_i h (Option.getD (ea_r h (b0 + 13) 3) 0) (Int32.toNatClampNeg x1)) : Int32) ((vX10_slotIn ((ea_i h (Option.getD (ea_r h (b0 + 13) 3) 0) (Int32.toNatClampNeg x1)) : Int32) h) : Int32) ((vX10_townIn b0 ((ea_i h (Option.getD (ea_r h (b0 + 13) 3) 0) (Int32.toNatClampNeg x1)) : Int32) h) : Int32) h))))))))) else none
theorem tX10_trace {d : Nat} {b0 : Nat} {h0 : ea_H} (hd : 3 ≤ d) : ∀ (f lbl : Nat) (x1 : Int32) (h : ea_H) (r : Unit) (h' : ea_H), gX10_trace b0 f lbl x1 h = some (r, h') → ShC b0 h → (lbl = 0 → ea_W mX10_trace d h0 none h' 0 [(0, vR (some (b0 + 13)))] [] h) ∧ (lbl = 25 → ea_W mX10_trace d h0 none h' 25 [(0, vR (some (b0 + 13))), (1, vI x1)] [] h) := by
  intro f
  induction f with
  | zero => intro lbl x1 h r h' E; cases E
  | succ f ih =>
    intro lbl x1 h r h' E hs
    unfold gX10_trace at E
    refine ⟨?_, ?_⟩
    · intro el
      subst el
      have E := (if_pos rfl).symm.trans E
      refine ea_aload_n (pc := 0) dX10_trace_0 rfl 0 rfl ?_
      refine ea_getR (pc := 1) dX10_trace_1 ec_10 (k := 5) (Nat.le_of_ble_eq_true rfl) rfl (Or.inl ew_232) (hs.1 13 (by decide)).1 (hs.1 13 (by decide)).2.1 rfl ?_
      refine ea_ldc2 (pc := 4) dX10_trace_4 ew_615 ?_
      obtain ⟨z1, E⟩ := gd_some E
      refine ea_callS (pc := 7) (d' := d - 1) (As := [vR (ea_r h (b0 + 13) 5), vJ 9223372036854775807]) (st := []) dX10_trace_7 kJ7_fill_d0a16 (sJ7_fill_d0a16 (d := d - 1) (by omega) hs z1) (by omega) rfl (Nat.le_of_ble_eq_true rfl) ew_616 ew_617 ?_
      have hs2 : ShC b0 (wJ7_fill_d0a16 b0 ((ea_r h (b0 + 13) 5) : Option Nat) (9223372036854775807 : Int64) h) := shJ7_fill_d0a16 hs
      refine ea_aload_n (pc := 10) dX10_trace_10 rfl 0 rfl ?_
      refine ea_getR (pc := 11) dX10_trace_11 ec_10 (k := 7) (Nat.le_of_ble_eq_true rfl) rfl (Or.inl ew_234) (hs2.1 13 (by decide)).1 (hs2.1 13 (by decide)).2.1 (hs2.2 13 7 rfl) ?_
      refine ea_iconst (pc := 14) dX10_trace_14 (v := (-1)) rfl ?_
      obtain ⟨z3, E⟩ := gd_some E
      refine ea_callS (pc := 15) (d' := d - 1) (As := [vR (some (b0 + 14)), vI (-1)]) (st := []) dX10_trace_15 kJ7_fill_53178 (sJ7_fill_53178 (d := d - 1) (by omega) hs2 z3) (by omega) rfl (Nat.le_of_ble_eq_true rfl) ew_588 ew_144 ?_
      have hs4 : ShC b0 (wJ7_fill_53178 b0 ((some (b0 + 14)) : Option Nat) ((-1) : Int32) (wJ7_fill_d0a16 b0 ((ea_r h (b0 + 13) 5) : Option Nat) (9223372036854775807 : Int64) h)) := shJ7_fill_53178 hs2
      refine ea_aload_n (pc := 18) dX10_trace_18 rfl 0 rfl ?_
      refine ea_getI (pc := 19) dX10_trace_19 ec_10 (k := 1) (Nat.le_of_ble_eq_true rfl) rfl (Or.inl ew_227) (hs4.1 13 (by decide)).1 (hs4.1 13 (by decide)).2.1 ?_
      refine ea_iconst (pc := 22) dX10_trace_22 (v := 1) rfl ?_
      refine ea_isub (pc := 23) dX10_trace_23 ?_
      refine ea_istore_n (pc := 24) (lv' := [(0, vR (some (b0 + 13))), (1, vI ((ea_i (wJ7_fill_53178 b0 ((some (b0 + 14)) : Option Nat) ((-1) : Int32) (wJ7_fill_d0a16 b0 ((ea_r h (b0 + 13) 5) : Option Nat) (9223372036854775807 : Int64) h)) (b0 + 13) 1) - (1 : Int32)))]) dX10_trace_24 rfl (Nat.le_of_ble_eq_true rfl) [1, 0] rfl ?_
      exact ((ih 25 (((ea_i (wJ7_fill_53178 b0 ((some (b0 + 14)) : Option Nat) ((-1) : Int32) (wJ7_fill_d0a16 b0 ((ea_r h (b0 + 13) 5) : Option Nat) (9223372036854775807 : Int64) h)) (b0 + 13) 1) - (1 : Int32)) : Int32) (wJ7_fill_53178 b0 ((some (b0 + 14)) : Option Nat) ((-1) : Int32) (wJ7_fill_d0a16 b0 ((ea_r h (b0 + 13) 5) : Option Nat) (9223372036854775807 : Int64) h)) _ _ E hs4).2 rfl)
    intro el
    subst el
    have E := (if_neg (by decide)).symm.trans E
    have E := (if_pos rfl).symm.trans E
    refine ea_iload_n (pc := 25) dX10_trace_25 rfl 1 rfl ?_
    refine ea_if_lt (pc := 26) (tgt := 80) dX10_trace_26 rfl (fun c18 => ?_) (fun c18 => ?_)
    · have E := (if_pos c18).symm.trans E
      cases E
      exact ea_return (pc := 80) dX10_trace_80 rfl
    · have E := (if_neg c18).symm.trans E
      refine ea_aload_n (pc := 29) dX10_trace_29 rfl 0 rfl ?_
      refine ea_getR (pc := 30) dX10_trace_30 ec_10 (k := 3) (Nat.le_of_ble_eq_true rfl) rfl (Or.inl ew_230) (hs.1 13 (by decide)).1 (hs.1 13 (by decide)).2.1 rfl ?_
      refine ea_iload_n (pc := 33) dX10_trace_33 rfl 1 rfl ?_
      obtain ⟨e5, E⟩ := gd_some E
      obtain ⟨f6, E⟩ := gd_some E
      obtain ⟨z7, E⟩ := gd_some E
      refine ea_deref1 e5 ?_
      refine ea_iald (pc := 34) dX10_trace_34 f6.1 f6.2 z7 ?_
      refine ea_istore_n (pc := 35) (lv' := [(0, vR (some (b0 + 13))), (1, vI x1), (2, vI (ea_i h (Option.getD (ea_r h (b0 + 13) 3) 0) (Int32.toNatClampNeg x1)))]) dX10_trace_35 rfl (Nat.le_of_ble_eq_true rfl) [1, 2, 0] rfl ?_
      refine ea_iload_n (pc := 36) dX10_trace_36 rfl 2 rfl ?_
      refine ea_callS (pc := 37) (d' := d - 1) (As := [vI (ea_i h (Option.getD (ea_r h (b0 + 13) 3) 0) (Int32.toNatClampNeg x1))]) (st := []) dX10_trace_37 kX10_isGoing (sX10_isGoing (d := d - 1) (by omega)) (by omega) rfl (Nat.le_of_ble_eq_true rfl) ew_589 ew_590 ?_
      refine ea_if_eq (pc := 40) (tgt := 60) dX10_trace_40 rfl (fun c17 => ?_) (fun c17 => ?_)
      · have E := (if_pos c17).symm.trans E
        refine ea_aload_n (pc := 60) dX10_trace_60 rfl 0 rfl ?_
        refine ea_iload_n (pc := 61) dX10_trace_61 rfl 2 rfl ?_
        refine ea_iload_n (pc := 62) dX10_trace_62 rfl 2 rfl ?_
        refine ea_callS (pc := 63) (d' := d - 1) (As := [vI (ea_i h (Option.getD (ea_r h (b0 + 13) 3) 0) (Int32.toNatClampNeg x1))]) (st := [vI (ea_i h (Option.getD (ea_r h (b0 + 13) 3) 0) (Int32.toNatClampNeg x1)), vR (some (b0 + 13))]) dX10_trace_63 kX10_slotIn (sX10_slotIn (d := d - 1) (by omega)) (by omega) rfl (Nat.le_of_ble_eq_true rfl) ew_605 ew_606 ?_
        refine ea_aload_n (pc := 66) dX10_trace_66 rfl 0 rfl ?_
        refine ea_iload_n (pc := 67) dX10_trace_67 rfl 2 rfl ?_
        obtain ⟨z10, E⟩ := gd_some E
        refine ea_callV (pc := 68) (d' := d - 1) (As := [vI (ea_i h (Option.getD (ea_r h (b0 + 13) 3) 0) (Int32.toNatClampNeg x1))]) (st := [vI (vX10_slotIn ((ea_i h (Option.getD (ea_r h (b0 + 13) 3) 0) (Int32.toNatClampNeg x1)) : Int32) h), vI (ea_i h (Option.getD (ea_r h (b0 + 13) 3) 0) (Int32.toNatClampNeg x1)), vR (some (b0 + 13))]) dX10_trace_68 kX10_townIn (sX10_townIn (d := d - 1) (by omega) hs z10) (by omega) rfl (Nat.le_of_ble_eq_true rfl) ew_592 ew_594 ew_7 (ci := 10) rfl (by decide) (hs.1 13 (by decide)).1 (hs.1 13 (by decide)).2.1 ?_
        obtain ⟨z11, E⟩ := gd_some E
        refine ea_callV (pc := 71) (d' := d - 1) (As := [vI (ea_i h (Option.getD (ea_r h (b0 + 13) 3) 0) (Int32.toNatClampNeg x1)), vI (vX10_slotIn ((ea_i h (Option.getD (ea_r h (b0 + 13) 3) 0) (Int32.toNatClampNeg x1)) : Int32) h), vI (vX10_townIn b0 ((ea_i h (Option.getD (ea_r h (b0 + 13) 3) 0) (Int32.toNatClampNeg x1)) : Int32) h)]) (st := []) dX10_trace_71 kX10_leaveRun (sX10_leaveRun (d := d - 1) (by omega) hs z11) (by omega) rfl (Nat.le_of_ble_eq_true rfl) ew_626 ew_628 ew_10 (ci := 10) rfl (by decide) (hs.1 13 (by decide)).1 (hs.1 13 (by decide)).2.1 ?_
        have hs12 : ShC b0 (wX10_leaveRun b0 ((ea_i h (Option.getD (ea_r h (b0 + 13) 3) 0) (Int32.toNatClampNeg x1)) : Int32) ((vX10_slotIn ((ea_i h (Option.getD (ea_r h (b0 + 13) 3) 0) (Int32.toNatClampNeg x1)) : Int32) h) : Int32) ((vX10_townIn b0 ((ea_i h (Option.getD (ea_r h (b0 + 13) 3) 0) (Int32.toNatClampNeg x1)) : Int32) h) : Int32) h) := shX10_leaveRun hs
        refine ea_iinc (pc := 74) (v := (-1)) (lv' := [(0, vR (some (b0 + 13))), (1, vI (x1 + ((-1) : Int32)))]) dX10_trace_74 1 rfl rfl (Nat.le_of_ble_eq_true rfl) [1, 0] rfl ?_
        refine ea_goto (pc := 77) (tgt := 25) dX10_trace_77 rfl ?_
        exact ((ih 25 ((x1 + ((-1) : Int32)) : Int32) (wX10_leaveRun b0 ((ea_i h (Option.getD (ea_r h (b0 + 13) 3) 0) (Int32.toNatClampNeg x1)) : Int32) ((vX10_slotIn ((ea_i h (Option.getD (ea_r h (b0 + 13) 3) 0) (Int32.toNatClampNeg x1)) : Int32) h) : Int32) ((vX10_townIn b0 ((ea_i h (Option.getD (ea_r h (b0 + 13) 3) 0) (Int32.toNatClampNeg x1)) : Int32) h) : Int32) h) _ _ E hs12).2 rfl)
      · have E := (if_neg c17).symm.trans E
        refine ea_aload_n (pc := 43) dX10_trace_43 rfl 0 rfl ?_
        refine ea_iload_n (pc := 44) dX10_trace_44 rfl 2 rfl ?_
        refine ea_iload_n (pc := 45) dX10_trace_45 rfl 2 rfl ?_
        refine ea_callS (pc := 46) (d' := d - 1) (As := [vI (ea_i h (Option.getD (ea_r h (b0 + 13) 3) 0) (Int32.toNatClampNeg x1))]) (st := [vI (ea_i h (Option.getD (ea_r h (b0 + 13) 3) 0) (Int32.toNatClampNeg x1)), vR (some (b0 + 13))]) dX10_trace_46 kX10_slotIn (sX10_slotIn (d := d - 1) (by omega)) (by omega) rfl (Nat.le_of_ble_eq_true rfl) ew_605 ew_606 ?_
        refine ea_aload_n (pc := 49) dX10_trace_49 rfl 0 rfl ?_
        refine ea_iload_n (pc := 50) dX10_trace_50 rfl 2 rfl ?_
        obtain ⟨z14, E⟩ := gd_some E
        refine ea_callV (pc := 51) (d' := d - 1) (As := [vI (ea_i h (Option.getD (ea_r h (b0 + 13) 3) 0) (Int32.toNatClampNeg x1))]) (st := [vI (vX10_slotIn ((ea_i h (Option.getD (ea_r h (b0 + 13) 3) 0) (Int32.toNatClampNeg x1)) : Int32) h), vI (ea_i h (Option.getD (ea_r h (b0 + 13) 3) 0) (Int32.toNatClampNeg x1)), vR (some (b0 + 13))]) dX10_trace_51 kX10_townIn (sX10_townIn (d := d - 1) (by omega) hs z14) (by omega) rfl (Nat.le_of_ble_eq_true rfl) ew_592 ew_594 ew_7 (ci := 10) rfl (by decide) (hs.1 13 (by decide)).1 (hs.1 13 (by decide)).2.1 ?_
        obtain ⟨z15, E⟩ := gd_some E
        refine ea_callV (pc := 54) (d' := d - 1) (As := [vI (ea_i h (Option.getD (ea_r h (b0 + 13) 3) 0) (Int32.toNatClampNeg x1)), vI (vX10_slotIn ((ea_i h (Option.getD (ea_r h (b0 + 13) 3) 0) (Int32.toNatClampNeg x1)) : Int32) h), vI (vX10_townIn b0 ((ea_i h (Option.getD (ea_r h (b0 + 13) 3) 0) (Int32.toNatClampNeg x1)) : Int32) h)]) (st := []) dX10_trace_54 kX10_takeRun (sX10_takeRun (d := d - 1) (by omega) hs z15) (by omega) rfl (Nat.le_of_ble_eq_true rfl) ew_619 ew_621 ew_9 (ci := 10) rfl (by decide) (hs.1 13 (by decide)).1 (hs.1 13 (by decide)).2.1 ?_
        have hs16 : ShC b0 (wX10_takeRun b0 ((ea_i h (Option.getD (ea_r h (b0 + 13) 3) 0) (Int32.toNatClampNeg x1)) : Int32) ((vX10_slotIn ((ea_i h (Option.getD (ea_r h (b0 + 13) 3) 0) (Int32.toNatClampNeg x1)) : Int32) h) : Int32) ((vX10_townIn b0 ((ea_i h (Option.getD (ea_r h (b0 + 13) 3) 0) (Int32.toNatClampNeg x1)) : Int32) h) : Int32) h) := shX10_takeRun hs
        refine ea_goto (pc := 57) (tgt := 74) dX10_trace_57 rfl ?_
        refine ea_iinc (pc := 74) (v := (-1)) (lv' := [(0, vR (some (b0 + 13))), (1, vI (x1 + ((-1) : Int32)))]) dX10_trace_74 1 rfl rfl (Nat.le_of_ble_eq_true rfl) [1, 0] rfl ?_
        refine ea_goto (pc := 77) (tgt := 25) dX10_trace_77 rfl ?_
        exact ((ih 25 ((x1 + ((-1) : Int32)) : Int32) (wX10_takeRun b0 ((ea_i h (Option.getD (ea_r h (b0 + 13) 3) 0) (Int32.toNatClampNeg x1)) : Int32) ((vX10_slotIn ((ea_i h (Option.getD (ea_r h (b0 + 13) 3) 0) (Int32.toNatClampNeg x1)) : Int32) h) : Int32) ((vX10_townIn b0 ((ea_i h (Option.getD (ea_r h (b0 + 13) 3) 0) (Int32.toNatClampNeg x1)) : Int32) h) : Int32) h) _ _ E hs16).2 rfl)
noncomputable def qX10_trace (b0 : Nat) (h : ea_H) : Option (Unit × ea_H) := gX10_trace b0 1000000000 0 0 h
def okX10_trace (b0 : Nat) (h : ea_H) : Prop := ∃ x, qX10_trace b0 h = some x
noncomputable def wX10_trace (b0 : Nat) (h : ea_H) : ea_H := ((qX10_trace b0 h).getD ((), h)).2
theorem sX10_trace {d : Nat} {b0 : Nat} {h : ea_H} (hd : 3 ≤ d) (hs : ShC b0 h) (K : okX10_trace b0 h) : ea_Met mX10_trace d [vR (some (b0 + 13))] h none (wX10_trace b0 h) := by
  obtain ⟨⟨x, y⟩, K⟩ := K
  unfold wX10_trace
  rw [K]
  unfold qX10_trace at K
  exact ea_enter rfl (Nat.le_of_ble_eq_true rfl) ((tX10_trace hd 1000000000 0 0 h x y K hs).1 rfl)
theorem zX10_trace {b0 : Nat} : ∀ (f lbl : Nat) (x1 : Int32) (h : ea_H) (r : Unit) (h' : ea_H), gX10_trace b0 f lbl x1 h = some (r, h') → ShC b0 h → ShC b0 h' := by
  intro f
  induction f with
  | zero => intro lbl x1 h r h' E; cases E
  | succ f ih =>
    intro lbl x1 h r h' E hs
    unfold gX10_trace at E
    by_cases el0 : lbl = 0
    · have E := (if_pos el0).symm.trans E
      obtain ⟨z1, E⟩ := gd_some E
      obtain ⟨z3, E⟩ := gd_some E
      exact ih 25 (((ea_i (wJ7_fill_53178 b0 ((some (b0 + 14)) : Option Nat) ((-1) : Int32) (wJ7_fill_d0a16 b0 ((ea_r h (b0 + 13) 5) : Option Nat) (9223372036854775807 : Int64) h)) (b0 + 13) 1) - (1 : Int32)) : Int32) (wJ7_fill_53178 b0 ((some (b0 + 14)) : Option Nat) ((-1) : Int32) (wJ7_fill_d0a16 b0 ((ea_r h (b0 + 13) 5) : Option Nat) (9223372036854775807 : Int64) h)) _ _ E (shJ7_fill_53178 (shJ7_fill_d0a16 hs))
    have E := (if_neg el0).symm.trans E
    by_cases el1 : lbl = 25
    · have E := (if_pos el1).symm.trans E
      by_cases c18 : x1 < (0 : Int32)
      · have E := (if_pos c18).symm.trans E
        cases E
        exact hs
      have E := (if_neg c18).symm.trans E
      obtain ⟨e5, E⟩ := gd_some E
      obtain ⟨f6, E⟩ := gd_some E
      obtain ⟨z7, E⟩ := gd_some E
      by_cases c17 : (vX10_isGoing ((ea_i h (Option.getD (ea_r h (b0 + 13) 3) 0) (Int32.toNatClampNeg x1)) : Int32) h) = (0 : Int32)
      · have E := (if_pos c17).symm.trans E
        obtain ⟨z10, E⟩ := gd_some E
        obtain ⟨z11, E⟩ := gd_some E
        exact ih 25 ((x1 + ((-1) : Int32)) : Int32) (wX10_leaveRun b0 ((ea_i h (Option.getD (ea_r h (b0 + 13) 3) 0) (Int32.toNatClampNeg x1)) : Int32) ((vX10_slotIn ((ea_i h (Option.getD (ea_r h (b0 + 13) 3) 0) (Int32.toNatClampNeg x1)) : Int32) h) : Int32) ((vX10_townIn b0 ((ea_i h (Option.getD (ea_r h (b0 + 13) 3) 0) (Int32.toNatClampNeg x1)) : Int32) h) : Int32) h) _ _ E (shX10_leaveRun hs)
      have E := (if_neg c17).symm.trans E
      obtain ⟨z14, E⟩ := gd_some E
      obtain ⟨z15, E⟩ := gd_some E
      exact ih 25 ((x1 + ((-1) : Int32)) : Int32) (wX10_takeRun b0 ((ea_i h (Option.getD (ea_r h (b0 + 13) 3) 0) (Int32.toNatClampNeg x1)) : Int32) ((vX10_slotIn ((ea_i h (Option.getD (ea_r h (b0 + 13) 3) 0) (Int32.toNatClampNeg x1)) : Int32) h) : Int32) ((vX10_townIn b0 ((ea_i h (Option.getD (ea_r h (b0 + 13) 3) 0) (Int32.toNatClampNeg x1)) : Int32) h) : Int32) h) _ _ E (shX10_takeRun hs)
    have E := (if_neg el1).symm.trans E
    cases E
theorem shX10_trace {b0 : Nat} {h : ea_H} (hs : ShC b0 h) : ShC b0 (wX10_trace b0 h) := by
  unfold wX10_trace
  cases K : qX10_trace b0 h with
  | none => exact hs
  | some x => obtain ⟨x, y⟩ := x; unfold qX10_trace at K; exact zX10_trace _ _ _ _ _ _ K hs
noncomputable def vX5_readRule (b0 : Nat) (r1 : Option Nat) (h : ea_H) : Int32 := (if (ea_i (wX5_step b0 h) (b0 + 22) 9) = (18 : Int32) then (if (ea_i h (b0 + 22) 9) = (2 : Int32) then (if (ea_i (wX5_step b0 h) (b0 + 26) (Int32.toNatClampNeg (ea_i (wX5_step b0 h) (b0 + 22) 8))) ≤ (99 : Int32) then (if Int32.toInt (ea_i h (b0 + 22) 9) = 1 then (vX5_readAfter b0 (r1 : Option Nat) ((ea_i (wX5_step b0 h) (b0 + 26) (Int32.toNatClampNeg (ea_i (wX5_step b0 h) (b0 + 22) 8))) : Int32) (wX5_step b0 (wX5_step b0 h))) else (1 : Int32)) else (vX5_refuse b0 (2 : Int32) (wX5_step b0 h))) else (if Int32.toInt (ea_i h (b0 + 22) 9) = 1 then (vX5_readAfter b0 (r1 : Option Nat) ((ea_i (wX5_step b0 h) (b0 + 26) (Int32.toNatClampNeg (ea_i (wX5_step b0 h) (b0 + 22) 8))) : Int32) (wX5_step b0 (wX5_step b0 h))) else (1 : Int32))) else (vX5_refuse b0 (1 : Int32) (wX5_step b0 h)))
noncomputable def wX5_readRule (b0 : Nat) (r1 : Option Nat) (h : ea_H) : ea_H := (if (ea_i (wX5_step b0 h) (b0 + 22) 9) = (18 : Int32) then (if (ea_i h (b0 + 22) 9) = (2 : Int32) then (if (ea_i (wX5_step b0 h) (b0 + 26) (Int32.toNatClampNeg (ea_i (wX5_step b0 h) (b0 + 22) 8))) ≤ (99 : Int32) then (if Int32.toInt (ea_i h (b0 + 22) 9) = 1 then (wX5_readAfter b0 (r1 : Option Nat) ((ea_i (wX5_step b0 h) (b0 + 26) (Int32.toNatClampNeg (ea_i (wX5_step b0 h) (b0 + 22) 8))) : Int32) (wX5_step b0 (wX5_step b0 h))) else (if Int32.toInt (ea_i h (b0 + 22) 9) = 2 then (ea_wi (wX5_step b0 (wX5_step b0 h)) (Option.getD r1 0) 4 (ea_i (wX5_step b0 h) (b0 + 26) (Int32.toNatClampNeg (ea_i (wX5_step b0 h) (b0 + 22) 8)))) else (if Int32.toInt (ea_i h (b0 + 22) 9) = 3 then (ea_wi (wX5_step b0 (wX5_step b0 h)) (Option.getD r1 0) 5 (ea_i (wX5_step b0 h) (b0 + 26) (Int32.toNatClampNeg (ea_i (wX5_step b0 h) (b0 + 22) 8)))) else (if Int32.toInt (ea_i h (b0 + 22) 9) = 4 then (ea_wi (wX5_step b0 (wX5_step b0 h)) (Option.getD r1 0) 6 (ea_i (wX5_step b0 h) (b0 + 26) (Int32.toNatClampNeg (ea_i (wX5_step b0 h) (b0 + 22) 8)))) else (ea_wi (wX5_step b0 (wX5_step b0 h)) (Option.getD r1 0) 7 (ea_i (wX5_step b0 h) (b0 + 26) (Int32.toNatClampNeg (ea_i (wX5_step b0 h) (b0 + 22) 8)))))))) else (wX5_refuse b0 (2 : Int32) (wX5_step b0 h))) else (if Int32.toInt (ea_i h (b0 + 22) 9) = 1 then (wX5_readAfter b0 (r1 : Option Nat) ((ea_i (wX5_step b0 h) (b0 + 26) (Int32.toNatClampNeg (ea_i (wX5_step b0 h) (b0 + 22) 8))) : Int32) (wX5_step b0 (wX5_step b0 h))) else (if Int32.toInt (ea_i h (b0 + 22) 9) = 2 then (ea_wi (wX5_step b0 (wX5_step b0 h)) (Option.getD r1 0) 4 (ea_i (wX5_step b0 h) (b0 + 26) (Int32.toNatClampNeg (ea_i (wX5_step b0 h) (b0 + 22) 8)))) else (if Int32.toInt (ea_i h (b0 + 22) 9) = 3 then (ea_wi (wX5_step b0 (wX5_step b0 h)) (Option.getD r1 0) 5 (ea_i (wX5_step b0 h) (b0 + 26) (Int32.toNatClampNeg (ea_i (wX5_step b0 h) (b0 + 22) 8)))) else (if Int32.toInt (ea_i h (b0 + 22) 9) = 4 then (ea_wi (wX5_step b0 (wX5_step b0 h)) (Option.getD r1 0) 6 (ea_i (wX5_step b0 h) (b0 + 26) (Int32.toNatClampNeg (ea_i (wX5_step b0 h) (b0 + 22) 8)))) else (ea_wi (wX5_step b0 (wX5_step b0 h)) (Option.getD r1 0) 7 (ea_i (wX5_step b0 h) (b0 + 26) (Int32.toNatClampNeg (ea_i (wX5_step b0 h) (b0 + 22) 8))))))))) else (wX5_refuse b0 (1 : Int32) (wX5_step b0 h)))
def okX5_readRule (b0 : Nat) (r1 : Option Nat) (h : ea_H) : Prop := (okX5_step b0 h) ∧ (((ea_i (wX5_step b0 h) (b0 + 22) 9) = (18 : Int32) → vp_in (ea_i (wX5_step b0 h) (b0 + 22) 8) 601 ∧ (((ea_i h (b0 + 22) 9) = (2 : Int32) → ((ea_i (wX5_step b0 h) (b0 + 26) (Int32.toNatClampNeg (ea_i (wX5_step b0 h) (b0 + 22) 8))) ≤ (99 : Int32) → (okX5_step b0 (wX5_step b0 h)) ∧ ((Int32.toInt (ea_i h (b0 + 22) 9) = 1 → (okX5_readAfter b0 (r1 : Option Nat) ((ea_i (wX5_step b0 h) (b0 + 26) (Int32.toNatClampNeg (ea_i (wX5_step b0 h) (b0 + 22) 8))) : Int32) (wX5_step b0 (wX5_step b0 h)))) ∧ (¬ Int32.toInt (ea_i h (b0 + 22) 9) = 1 → (Int32.toInt (ea_i h (b0 + 22) 9) = 2 → r1 = some (Option.getD r1 0) ∧ (((Option.getD r1 0) < ea_n (wX5_step b0 (wX5_step b0 h)) ∧ ea_c (wX5_step b0 (wX5_step b0 h)) (Option.getD r1 0) = 0))) ∧ (¬ Int32.toInt (ea_i h (b0 + 22) 9) = 2 → (Int32.toInt (ea_i h (b0 + 22) 9) = 3 → r1 = some (Option.getD r1 0) ∧ (((Option.getD r1 0) < ea_n (wX5_step b0 (wX5_step b0 h)) ∧ ea_c (wX5_step b0 (wX5_step b0 h)) (Option.getD r1 0) = 0))) ∧ (¬ Int32.toInt (ea_i h (b0 + 22) 9) = 3 → (Int32.toInt (ea_i h (b0 + 22) 9) = 4 → r1 = some (Option.getD r1 0) ∧ (((Option.getD r1 0) < ea_n (wX5_step b0 (wX5_step b0 h)) ∧ ea_c (wX5_step b0 (wX5_step b0 h)) (Option.getD r1 0) = 0))) ∧ (¬ Int32.toInt (ea_i h (b0 + 22) 9) = 4 → r1 = some (Option.getD r1 0) ∧ (((Option.getD r1 0) < ea_n (wX5_step b0 (wX5_step b0 h)) ∧ ea_c (wX5_step b0 (wX5_step b0 h)) (Option.getD r1 0) = 0)))))))) ∧ (¬ (ea_i (wX5_step b0 h) (b0 + 26) (Int32.toNatClampNeg (ea_i (wX5_step b0 h) (b0 + 22) 8))) ≤ (99 : Int32) → (okX5_refuse b0 (2 : Int32) (wX5_step b0 h)))) ∧ (¬ (ea_i h (b0 + 22) 9) = (2 : Int32) → (okX5_step b0 (wX5_step b0 h)) ∧ ((Int32.toInt (ea_i h (b0 + 22) 9) = 1 → (okX5_readAfter b0 (r1 : Option Nat) ((ea_i (wX5_step b0 h) (b0 + 26) (Int32.toNatClampNeg (ea_i (wX5_step b0 h) (b0 + 22) 8))) : Int32) (wX5_step b0 (wX5_step b0 h)))) ∧ (¬ Int32.toInt (ea_i h (b0 + 22) 9) = 1 → (Int32.toInt (ea_i h (b0 + 22) 9) = 2 → r1 = some (Option.getD r1 0) ∧ (((Option.getD r1 0) < ea_n (wX5_step b0 (wX5_step b0 h)) ∧ ea_c (wX5_step b0 (wX5_step b0 h)) (Option.getD r1 0) = 0))) ∧ (¬ Int32.toInt (ea_i h (b0 + 22) 9) = 2 → (Int32.toInt (ea_i h (b0 + 22) 9) = 3 → r1 = some (Option.getD r1 0) ∧ (((Option.getD r1 0) < ea_n (wX5_step b0 (wX5_step b0 h)) ∧ ea_c (wX5_step b0 (wX5_step b0 h)) (Option.getD r1 0) = 0))) ∧ (¬ Int32.toInt (ea_i h (b0 + 22) 9) = 3 → (Int32.toInt (ea_i h (b0 + 22) 9) = 4 → r1 = some (Option.getD r1 0) ∧ (((Option.getD r1 0) < ea_n (wX5_step b0 (wX5_step b0 h)) ∧ ea_c (wX5_step b0 (wX5_step b0 h)) (Option.getD r1 0) = 0))) ∧ (¬ Int32.toInt (ea_i h (b0 + 22) 9) = 4 → r1 = some (Option.getD r1 0) ∧ (((Option.getD r1 0) < ea_n (wX5_step b0 (wX5_step b0 h)) ∧ ea_c (wX5_step b0 (wX5_step b0 h)) (Option.getD r1 0) = 0)))))))))) ∧ (¬ (ea_i (wX5_step b0 h) (b0 + 22) 9) = (18 : Int32) → (okX5_refuse b0 (1 : Int32) (wX5_step b0 h))))
theorem bo_vX5_readRule (b0 : Nat) (r1 : Option Nat) (h : ea_H) : vX5_readRule b0 r1 h = 0 ∨ vX5_readRule b0 r1 h = 1 := (ea_itB (ea_itB (ea_itB (ea_itB (bo_vX5_readAfter _ _ _ _) (Or.inr rfl)) (bo_vX5_refuse _ _ _)) (ea_itB (bo_vX5_readAfter _ _ _ _) (Or.inr rfl))) (bo_vX5_refuse _ _ _))
theorem shX5_readRule {b0 : Nat} {r1 : Option Nat} {h : ea_H} (hs : ShC b0 h) : ShC b0 (wX5_readRule b0 r1 h) := (ShC_it (ShC_it (ShC_it (ShC_it (shX5_readAfter (shX5_step (shX5_step hs))) (ShC_it (ShC_wi (shX5_step (shX5_step hs))) (ShC_it (ShC_wi (shX5_step (shX5_step hs))) (ShC_it (ShC_wi (shX5_step (shX5_step hs))) (ShC_wi (shX5_step (shX5_step hs))))))) (shX5_refuse (shX5_step hs))) (ShC_it (shX5_readAfter (shX5_step (shX5_step hs))) (ShC_it (ShC_wi (shX5_step (shX5_step hs))) (ShC_it (ShC_wi (shX5_step (shX5_step hs))) (ShC_it (ShC_wi (shX5_step (shX5_step hs))) (ShC_wi (shX5_step (shX5_step hs)))))))) (shX5_refuse (shX5_step hs)))
theorem sX5_readRule {d : Nat} {b0 : Nat} {r1 : Option Nat} {h : ea_H} (hd : 4 ≤ d) (hs : ShC b0 h) (K : okX5_readRule b0 r1 h) : ea_Met mX5_readRule d [vR (some (b0 + 22)), vR r1] h (some (vI (vX5_readRule b0 r1 h))) (wX5_readRule b0 r1 h) := by
  obtain ⟨X, EX⟩ : ∃ z, z = vX5_readRule b0 r1 h := ⟨_, rfl⟩
  rw [← EX]
  unfold vX5_readRule at EX
  obtain ⟨Y, EY⟩ : ∃ z, z = wX5_readRule b0 r1 h := ⟨_, rfl⟩
  rw [← EY]
  unfold wX5_readRule at EY
  unfold okX5_readRule at K
  refine ea_enter rfl (Nat.le_of_ble_eq_true rfl) ?_
  refine ea_aload_n (pc := 0) dX5_readRule_0 rfl 0 rfl ?_
  refine ea_getI (pc := 1) dX5_readRule_1 ec_5 (k := 9) (Nat.le_of_ble_eq_true rfl) rfl (Or.inl ew_303) (hs.1 22 (by decide)).1 (hs.1 22 (by decide)).2.1 ?_
  refine ea_istore_n (pc := 4) (lv' := [(0, vR (some (b0 + 22))), (1, vR r1), (2, vI (ea_i h (b0 + 22) 9))]) dX5_readRule_4 rfl (Nat.le_of_ble_eq_true rfl) [1, 2, 0] rfl ?_
  refine ea_aload_n (pc := 5) dX5_readRule_5 rfl 0 rfl ?_
  obtain ⟨z1, K⟩ := K
  refine ea_callV (pc := 6) (d' := d - 1) (As := []) (st := []) dX5_readRule_6 kX5_step (sX5_step (d := d - 1) (by omega) hs z1) (by omega) rfl (Nat.le_of_ble_eq_true rfl) ew_859 ew_861 ew_22 (ci := 5) rfl (by decide) (hs.1 22 (by decide)).1 (hs.1 22 (by decide)).2.1 ?_
  have hs2 : ShC b0 (wX5_step b0 h) := shX5_step hs
  refine ea_aload_n (pc := 9) dX5_readRule_9 rfl 0 rfl ?_
  refine ea_getI (pc := 10) dX5_readRule_10 ec_5 (k := 9) (Nat.le_of_ble_eq_true rfl) rfl (Or.inl ew_303) (hs2.1 22 (by decide)).1 (hs2.1 22 (by decide)).2.1 ?_
  refine ea_bipush (pc := 13) dX5_readRule_13 (v := 18) rfl ?_
  refine ea_icmp_eq (pc := 15) (tgt := 24) dX5_readRule_15 rfl (fun c42 => ?_) (fun c42 => ?_)
  · have EX := EX.trans (if_pos c42)
    have EY := EY.trans (if_pos c42)
    have K := K.1 c42
    refine ea_aload_n (pc := 24) dX5_readRule_24 rfl 0 rfl ?_
    refine ea_getR (pc := 25) dX5_readRule_25 ec_5 (k := 6) (Nat.le_of_ble_eq_true rfl) rfl (Or.inl ew_300) (hs2.1 22 (by decide)).1 (hs2.1 22 (by decide)).2.1 (hs2.2 22 6 rfl) ?_
    refine ea_aload_n (pc := 28) dX5_readRule_28 rfl 0 rfl ?_
    refine ea_getI (pc := 29) dX5_readRule_29 ec_5 (k := 8) (Nat.le_of_ble_eq_true rfl) rfl (Or.inl ew_302) (hs2.1 22 (by decide)).1 (hs2.1 22 (by decide)).2.1 ?_
    obtain ⟨z3, K⟩ := K
    refine ea_iald (pc := 32) dX5_readRule_32 (hs2.1 26 (by decide)).1 (hs2.1 26 (by decide)).2.1 (ea_vpl (hs2.1 26 (by decide)).2.2 z3) ?_
    refine ea_istore_n (pc := 33) (lv' := [(0, vR (some (b0 + 22))), (1, vR r1), (2, vI (ea_i h (b0 + 22) 9)), (3, vI (ea_i (wX5_step b0 h) (b0 + 26) (Int32.toNatClampNeg (ea_i (wX5_step b0 h) (b0 + 22) 8))))]) dX5_readRule_33 rfl (Nat.le_of_ble_eq_true rfl) [1, 2, 3, 0] rfl ?_
    refine ea_iload_n (pc := 34) dX5_readRule_34 rfl 2 rfl ?_
    refine ea_iconst (pc := 35) dX5_readRule_35 (v := 2) rfl ?_
    refine ea_icmp_ne (pc := 36) (tgt := 51) dX5_readRule_36 rfl (fun c39 => ?_) (fun c39 => ?_)
    · have EX := EX.trans (if_neg c39)
      have EY := EY.trans (if_neg c39)
      have K := K.2 c39
      refine ea_aload_n (pc := 51) dX5_readRule_51 rfl 0 rfl ?_
      obtain ⟨z4, K⟩ := K
      refine ea_callV (pc := 52) (d' := d - 1) (As := []) (st := []) dX5_readRule_52 kX5_step (sX5_step (d := d - 1) (by omega) hs2 z4) (by omega) rfl (Nat.le_of_ble_eq_true rfl) ew_859 ew_861 ew_22 (ci := 5) rfl (by decide) (hs2.1 22 (by decide)).1 (hs2.1 22 (by decide)).2.1 ?_
      have hs5 : ShC b0 (wX5_step b0 (wX5_step b0 h)) := shX5_step hs2
      refine ea_iload_n (pc := 55) dX5_readRule_55 rfl 2 rfl ?_
      by_cases qc56_0 : Int32.toInt (ea_i h (b0 + 22) 9) = 1
      · have EX := EX.trans (if_pos qc56_0)
        have EY := EY.trans (if_pos qc56_0)
        have K := K.1 qc56_0
        refine ea_tswIn (pc := 56) (tgt := 88) dX5_readRule_56 (by rw [qc56_0]; decide) (by rw [qc56_0]; decide) (by rw [qc56_0]; rfl) rfl ?_
        refine ea_aload_n (pc := 88) dX5_readRule_88 rfl 0 rfl ?_
        refine ea_aload_n (pc := 89) dX5_readRule_89 rfl 1 rfl ?_
        refine ea_iload_n (pc := 90) dX5_readRule_90 rfl 3 rfl ?_
        have z9 := K
        refine ea_callV (pc := 91) (d' := d - 1) (As := [vR r1, vI (ea_i (wX5_step b0 h) (b0 + 26) (Int32.toNatClampNeg (ea_i (wX5_step b0 h) (b0 + 22) 8)))]) (st := []) dX5_readRule_91 kX5_readAfter (sX5_readAfter (d := d - 1) (by omega) hs5 z9) (by omega) rfl (Nat.le_of_ble_eq_true rfl) ew_895 ew_897 ew_31 (ci := 5) rfl (by decide) (hs5.1 22 (by decide)).1 (hs5.1 22 (by decide)).2.1 ?_
        have hs10 : ShC b0 (wX5_readAfter b0 (r1 : Option Nat) ((ea_i (wX5_step b0 h) (b0 + 26) (Int32.toNatClampNeg (ea_i (wX5_step b0 h) (b0 + 22) 8))) : Int32) (wX5_step b0 (wX5_step b0 h))) := shX5_readAfter hs5
        subst EX
        subst EY
        exact ea_ireturn (pc := 94) dX5_readRule_94 rfl (ea_bn (bo_vX5_readAfter ..))
      have EX := EX.trans (if_neg qc56_0)
      have EY := EY.trans (if_neg qc56_0)
      have K := K.2 qc56_0
      by_cases qc56_1 : Int32.toInt (ea_i h (b0 + 22) 9) = 2
      · have EY := EY.trans (if_pos qc56_1)
        have K := K.1 qc56_1
        refine ea_tswIn (pc := 56) (tgt := 95) dX5_readRule_56 (by rw [qc56_1]; decide) (by rw [qc56_1]; decide) (by rw [qc56_1]; rfl) rfl ?_
        refine ea_aload_n (pc := 95) dX5_readRule_95 rfl 1 rfl ?_
        refine ea_iload_n (pc := 96) dX5_readRule_96 rfl 3 rfl ?_
        obtain ⟨e11, f12⟩ := K
        refine ea_deref1 e11 ?_
        refine ea_putI (pc := 97) dX5_readRule_97 ec_0 (k := 4) (Nat.le_of_ble_eq_true rfl) rfl (Or.inl ⟨rfl, Or.inl ew_803⟩) rfl rfl f12.1 f12.2 ?_
        have hs13 : ShC b0 (ea_wi (wX5_step b0 (wX5_step b0 h)) (Option.getD r1 0) 4 (ea_i (wX5_step b0 h) (b0 + 26) (Int32.toNatClampNeg (ea_i (wX5_step b0 h) (b0 + 22) 8)))) := ShC_wi hs5
        refine ea_goto (pc := 100) (tgt := 124) dX5_readRule_100 rfl ?_
        refine ea_iconst (pc := 124) dX5_readRule_124 (v := 1) rfl ?_
        subst EX
        subst EY
        exact ea_ireturn (pc := 125) dX5_readRule_125 rfl (ea_bn (Or.inr rfl))
      have EY := EY.trans (if_neg qc56_1)
      have K := K.2 qc56_1
      by_cases qc56_2 : Int32.toInt (ea_i h (b0 + 22) 9) = 3
      · have EY := EY.trans (if_pos qc56_2)
        have K := K.1 qc56_2
        refine ea_tswIn (pc := 56) (tgt := 103) dX5_readRule_56 (by rw [qc56_2]; decide) (by rw [qc56_2]; decide) (by rw [qc56_2]; rfl) rfl ?_
        refine ea_aload_n (pc := 103) dX5_readRule_103 rfl 1 rfl ?_
        refine ea_iload_n (pc := 104) dX5_readRule_104 rfl 3 rfl ?_
        obtain ⟨e14, f15⟩ := K
        refine ea_deref1 e14 ?_
        refine ea_putI (pc := 105) dX5_readRule_105 ec_0 (k := 5) (Nat.le_of_ble_eq_true rfl) rfl (Or.inl ⟨rfl, Or.inl ew_806⟩) rfl rfl f15.1 f15.2 ?_
        have hs16 : ShC b0 (ea_wi (wX5_step b0 (wX5_step b0 h)) (Option.getD r1 0) 5 (ea_i (wX5_step b0 h) (b0 + 26) (Int32.toNatClampNeg (ea_i (wX5_step b0 h) (b0 + 22) 8)))) := ShC_wi hs5
        refine ea_goto (pc := 108) (tgt := 124) dX5_readRule_108 rfl ?_
        refine ea_iconst (pc := 124) dX5_readRule_124 (v := 1) rfl ?_
        subst EX
        subst EY
        exact ea_ireturn (pc := 125) dX5_readRule_125 rfl (ea_bn (Or.inr rfl))
      have EY := EY.trans (if_neg qc56_2)
      have K := K.2 qc56_2
      by_cases qc56_3 : Int32.toInt (ea_i h (b0 + 22) 9) = 4
      · have EY := EY.trans (if_pos qc56_3)
        have K := K.1 qc56_3
        refine ea_tswIn (pc := 56) (tgt := 111) dX5_readRule_56 (by rw [qc56_3]; decide) (by rw [qc56_3]; decide) (by rw [qc56_3]; rfl) rfl ?_
        refine ea_aload_n (pc := 111) dX5_readRule_111 rfl 1 rfl ?_
        refine ea_iload_n (pc := 112) dX5_readRule_112 rfl 3 rfl ?_
        obtain ⟨e17, f18⟩ := K
        refine ea_deref1 e17 ?_
        refine ea_putI (pc := 113) dX5_readRule_113 ec_0 (k := 6) (Nat.le_of_ble_eq_true rfl) rfl (Or.inl ⟨rfl, Or.inl ew_809⟩) rfl rfl f18.1 f18.2 ?_
        have hs19 : ShC b0 (ea_wi (wX5_step b0 (wX5_step b0 h)) (Option.getD r1 0) 6 (ea_i (wX5_step b0 h) (b0 + 26) (Int32.toNatClampNeg (ea_i (wX5_step b0 h) (b0 + 22) 8)))) := ShC_wi hs5
        refine ea_goto (pc := 116) (tgt := 124) dX5_readRule_116 rfl ?_
        refine ea_iconst (pc := 124) dX5_readRule_124 (v := 1) rfl ?_
        subst EX
        subst EY
        exact ea_ireturn (pc := 125) dX5_readRule_125 rfl (ea_bn (Or.inr rfl))
      have EY := EY.trans (if_neg qc56_3)
      have K := K.2 qc56_3
      refine ea_tswOut (pc := 56) (tgt := 119) dX5_readRule_56 (ec_sw_1_4 qc56_0 qc56_1 qc56_2 qc56_3) rfl ?_
      refine ea_aload_n (pc := 119) dX5_readRule_119 rfl 1 rfl ?_
      refine ea_iload_n (pc := 120) dX5_readRule_120 rfl 3 rfl ?_
      obtain ⟨e6, f7⟩ := K
      refine ea_deref1 e6 ?_
      refine ea_putI (pc := 121) dX5_readRule_121 ec_0 (k := 7) (Nat.le_of_ble_eq_true rfl) rfl (Or.inl ⟨rfl, Or.inl ew_813⟩) rfl rfl f7.1 f7.2 ?_
      have hs8 : ShC b0 (ea_wi (wX5_step b0 (wX5_step b0 h)) (Option.getD r1 0) 7 (ea_i (wX5_step b0 h) (b0 + 26) (Int32.toNatClampNeg (ea_i (wX5_step b0 h) (b0 + 22) 8)))) := ShC_wi hs5
      refine ea_iconst (pc := 124) dX5_readRule_124 (v := 1) rfl ?_
      subst EX
      subst EY
      exact ea_ireturn (pc := 125) dX5_readRule_125 rfl (ea_bn (Or.inr rfl))
    · have EX := EX.trans (if_pos c39)
      have EY := EY.trans (if_pos c39)
      have K := K.1 c39
      refine ea_iload_n (pc := 39) dX5_readRule_39 rfl 3 rfl ?_
      refine ea_bipush (pc := 40) dX5_readRule_40 (v := 99) rfl ?_
      refine ea_icmp_le (pc := 42) (tgt := 51) dX5_readRule_42 rfl (fun c38 => ?_) (fun c38 => ?_)
      · have EX := EX.trans (if_pos c38)
        have EY := EY.trans (if_pos c38)
        have K := K.1 c38
        refine ea_aload_n (pc := 51) dX5_readRule_51 rfl 0 rfl ?_
        obtain ⟨z20, K⟩ := K
        refine ea_callV (pc := 52) (d' := d - 1) (As := []) (st := []) dX5_readRule_52 kX5_step (sX5_step (d := d - 1) (by omega) hs2 z20) (by omega) rfl (Nat.le_of_ble_eq_true rfl) ew_859 ew_861 ew_22 (ci := 5) rfl (by decide) (hs2.1 22 (by decide)).1 (hs2.1 22 (by decide)).2.1 ?_
        have hs21 : ShC b0 (wX5_step b0 (wX5_step b0 h)) := shX5_step hs2
        refine ea_iload_n (pc := 55) dX5_readRule_55 rfl 2 rfl ?_
        by_cases qc56_0 : Int32.toInt (ea_i h (b0 + 22) 9) = 1
        · have EX := EX.trans (if_pos qc56_0)
          have EY := EY.trans (if_pos qc56_0)
          have K := K.1 qc56_0
          refine ea_tswIn (pc := 56) (tgt := 88) dX5_readRule_56 (by rw [qc56_0]; decide) (by rw [qc56_0]; decide) (by rw [qc56_0]; rfl) rfl ?_
          refine ea_aload_n (pc := 88) dX5_readRule_88 rfl 0 rfl ?_
          refine ea_aload_n (pc := 89) dX5_readRule_89 rfl 1 rfl ?_
          refine ea_iload_n (pc := 90) dX5_readRule_90 rfl 3 rfl ?_
          have z25 := K
          refine ea_callV (pc := 91) (d' := d - 1) (As := [vR r1, vI (ea_i (wX5_step b0 h) (b0 + 26) (Int32.toNatClampNeg (ea_i (wX5_step b0 h) (b0 + 22) 8)))]) (st := []) dX5_readRule_91 kX5_readAfter (sX5_readAfter (d := d - 1) (by omega) hs21 z25) (by omega) rfl (Nat.le_of_ble_eq_true rfl) ew_895 ew_897 ew_31 (ci := 5) rfl (by decide) (hs21.1 22 (by decide)).1 (hs21.1 22 (by decide)).2.1 ?_
          have hs26 : ShC b0 (wX5_readAfter b0 (r1 : Option Nat) ((ea_i (wX5_step b0 h) (b0 + 26) (Int32.toNatClampNeg (ea_i (wX5_step b0 h) (b0 + 22) 8))) : Int32) (wX5_step b0 (wX5_step b0 h))) := shX5_readAfter hs21
          subst EX
          subst EY
          exact ea_ireturn (pc := 94) dX5_readRule_94 rfl (ea_bn (bo_vX5_readAfter ..))
        have EX := EX.trans (if_neg qc56_0)
        have EY := EY.trans (if_neg qc56_0)
        have K := K.2 qc56_0
        by_cases qc56_1 : Int32.toInt (ea_i h (b0 + 22) 9) = 2
        · have EY := EY.trans (if_pos qc56_1)
          have K := K.1 qc56_1
          refine ea_tswIn (pc := 56) (tgt := 95) dX5_readRule_56 (by rw [qc56_1]; decide) (by rw [qc56_1]; decide) (by rw [qc56_1]; rfl) rfl ?_
          refine ea_aload_n (pc := 95) dX5_readRule_95 rfl 1 rfl ?_
          refine ea_iload_n (pc := 96) dX5_readRule_96 rfl 3 rfl ?_
          obtain ⟨e27, f28⟩ := K
          refine ea_deref1 e27 ?_
          refine ea_putI (pc := 97) dX5_readRule_97 ec_0 (k := 4) (Nat.le_of_ble_eq_true rfl) rfl (Or.inl ⟨rfl, Or.inl ew_803⟩) rfl rfl f28.1 f28.2 ?_
          have hs29 : ShC b0 (ea_wi (wX5_step b0 (wX5_step b0 h)) (Option.getD r1 0) 4 (ea_i (wX5_step b0 h) (b0 + 26) (Int32.toNatClampNeg (ea_i (wX5_step b0 h) (b0 + 22) 8)))) := ShC_wi hs21
          refine ea_goto (pc := 100) (tgt := 124) dX5_readRule_100 rfl ?_
          refine ea_iconst (pc := 124) dX5_readRule_124 (v := 1) rfl ?_
          subst EX
          subst EY
          exact ea_ireturn (pc := 125) dX5_readRule_125 rfl (ea_bn (Or.inr rfl))
        have EY := EY.trans (if_neg qc56_1)
        have K := K.2 qc56_1
        by_cases qc56_2 : Int32.toInt (ea_i h (b0 + 22) 9) = 3
        · have EY := EY.trans (if_pos qc56_2)
          have K := K.1 qc56_2
          refine ea_tswIn (pc := 56) (tgt := 103) dX5_readRule_56 (by rw [qc56_2]; decide) (by rw [qc56_2]; decide) (by rw [qc56_2]; rfl) rfl ?_
          refine ea_aload_n (pc := 103) dX5_readRule_103 rfl 1 rfl ?_
          refine ea_iload_n (pc := 104) dX5_readRule_104 rfl 3 rfl ?_
          obtain ⟨e30, f31⟩ := K
          refine ea_deref1 e30 ?_
          refine ea_putI (pc := 105) dX5_readRule_105 ec_0 (k := 5) (Nat.le_of_ble_eq_true rfl) rfl (Or.inl ⟨rfl, Or.inl ew_806⟩) rfl rfl f31.1 f31.2 ?_
          have hs32 : ShC b0 (ea_wi (wX5_step b0 (wX5_step b0 h)) (Option.getD r1 0) 5 (ea_i (wX5_step b0 h) (b0 + 26) (Int32.toNatClampNeg (ea_i (wX5_step b0 h) (b0 + 22) 8)))) := ShC_wi hs21
          refine ea_goto (pc := 108) (tgt := 124) dX5_readRule_108 rfl ?_
          refine ea_iconst (pc := 124) dX5_readRule_124 (v := 1) rfl ?_
          subst EX
          subst EY
          exact ea_ireturn (pc := 125) dX5_readRule_125 rfl (ea_bn (Or.inr rfl))
        have EY := EY.trans (if_neg qc56_2)
        have K := K.2 qc56_2
        by_cases qc56_3 : Int32.toInt (ea_i h (b0 + 22) 9) = 4
        · have EY := EY.trans (if_pos qc56_3)
          have K := K.1 qc56_3
          refine ea_tswIn (pc := 56) (tgt := 111) dX5_readRule_56 (by rw [qc56_3]; decide) (by rw [qc56_3]; decide) (by rw [qc56_3]; rfl) rfl ?_
          refine ea_aload_n (pc := 111) dX5_readRule_111 rfl 1 rfl ?_
          refine ea_iload_n (pc := 112) dX5_readRule_112 rfl 3 rfl ?_
          obtain ⟨e33, f34⟩ := K
          refine ea_deref1 e33 ?_
          refine ea_putI (pc := 113) dX5_readRule_113 ec_0 (k := 6) (Nat.le_of_ble_eq_true rfl) rfl (Or.inl ⟨rfl, Or.inl ew_809⟩) rfl rfl f34.1 f34.2 ?_
          have hs35 : ShC b0 (ea_wi (wX5_step b0 (wX5_step b0 h)) (Option.getD r1 0) 6 (ea_i (wX5_step b0 h) (b0 + 26) (Int32.toNatClampNeg (ea_i (wX5_step b0 h) (b0 + 22) 8)))) := ShC_wi hs21
          refine ea_goto (pc := 116) (tgt := 124) dX5_readRule_116 rfl ?_
          refine ea_iconst (pc := 124) dX5_readRule_124 (v := 1) rfl ?_
          subst EX
          subst EY
          exact ea_ireturn (pc := 125) dX5_readRule_125 rfl (ea_bn (Or.inr rfl))
        have EY := EY.trans (if_neg qc56_3)
        have K := K.2 qc56_3
        refine ea_tswOut (pc := 56) (tgt := 119) dX5_readRule_56 (ec_sw_1_4 qc56_0 qc56_1 qc56_2 qc56_3) rfl ?_
        refine ea_aload_n (pc := 119) dX5_readRule_119 rfl 1 rfl ?_
        refine ea_iload_n (pc := 120) dX5_readRule_120 rfl 3 rfl ?_
        obtain ⟨e22, f23⟩ := K
        refine ea_deref1 e22 ?_
        refine ea_putI (pc := 121) dX5_readRule_121 ec_0 (k := 7) (Nat.le_of_ble_eq_true rfl) rfl (Or.inl ⟨rfl, Or.inl ew_813⟩) rfl rfl f23.1 f23.2 ?_
        have hs24 : ShC b0 (ea_wi (wX5_step b0 (wX5_step b0 h)) (Option.getD r1 0) 7 (ea_i (wX5_step b0 h) (b0 + 26) (Int32.toNatClampNeg (ea_i (wX5_step b0 h) (b0 + 22) 8)))) := ShC_wi hs21
        refine ea_iconst (pc := 124) dX5_readRule_124 (v := 1) rfl ?_
        subst EX
        subst EY
        exact ea_ireturn (pc := 125) dX5_readRule_125 rfl (ea_bn (Or.inr rfl))
      · have EX := EX.trans (if_neg c38)
        have EY := EY.trans (if_neg c38)
        have K := K.2 c38
        refine ea_aload_n (pc := 45) dX5_readRule_45 rfl 0 rfl ?_
        refine ea_iconst (pc := 46) dX5_readRule_46 (v := 2) rfl ?_
        have z36 := K
        refine ea_callV (pc := 47) (d' := d - 1) (As := [vI 2]) (st := []) dX5_readRule_47 kX5_refuse (sX5_refuse (d := d - 1) (by omega) hs2 z36) (by omega) rfl (Nat.le_of_ble_eq_true rfl) ew_851 ew_853 ew_20 (ci := 5) rfl (by decide) (hs2.1 22 (by decide)).1 (hs2.1 22 (by decide)).2.1 ?_
        have hs37 : ShC b0 (wX5_refuse b0 (2 : Int32) (wX5_step b0 h)) := shX5_refuse hs2
        subst EX
        subst EY
        exact ea_ireturn (pc := 50) dX5_readRule_50 rfl (ea_bn (bo_vX5_refuse ..))
  · have EX := EX.trans (if_neg c42)
    have EY := EY.trans (if_neg c42)
    have K := K.2 c42
    refine ea_aload_n (pc := 18) dX5_readRule_18 rfl 0 rfl ?_
    refine ea_iconst (pc := 19) dX5_readRule_19 (v := 1) rfl ?_
    have z40 := K
    refine ea_callV (pc := 20) (d' := d - 1) (As := [vI 1]) (st := []) dX5_readRule_20 kX5_refuse (sX5_refuse (d := d - 1) (by omega) hs2 z40) (by omega) rfl (Nat.le_of_ble_eq_true rfl) ew_851 ew_853 ew_20 (ci := 5) rfl (by decide) (hs2.1 22 (by decide)).1 (hs2.1 22 (by decide)).2.1 ?_
    have hs41 : ShC b0 (wX5_refuse b0 (1 : Int32) (wX5_step b0 h)) := shX5_refuse hs2
    subst EX
    subst EY
    exact ea_ireturn (pc := 23) dX5_readRule_23 rfl (ea_bn (bo_vX5_refuse ..))
noncomputable def vX8_chargeBy (b0 : Nat) (r1 : Option Nat) (r2 : Option Nat) (h : ea_H) : Int32 := (if (vX8_isFree (r1 : Option Nat) (r2 : Option Nat) h) = (0 : Int32) then (if (vX8_lineFor b0 (r1 : Option Nat) (r2 : Option Nat) h) = ((-1) : Int32) then (if ((ea_i (wX8_lineFor b0 (r1 : Option Nat) (r2 : Option Nat) h) (Option.getD r2 0) 6) - (ea_i (wX8_lineFor b0 (r1 : Option Nat) (r2 : Option Nat) h) (Option.getD r2 0) 6) / (1440 : Int32) * (1440 : Int32)) ≤ (ea_i (wX8_lineFor b0 (r1 : Option Nat) (r2 : Option Nat) h) (Option.getD r1 0) 3) then (if (ea_i (wX8_lineFor b0 (r1 : Option Nat) (r2 : Option Nat) h) (Option.getD r2 0) 0) = (3 : Int32) then (if (ea_i (wX8_lineFor b0 (r1 : Option Nat) (r2 : Option Nat) h) (Option.getD r2 0) 0) = (4 : Int32) then (((0 : Int32) + (ea_i (wX8_lineFor b0 (r1 : Option Nat) (r2 : Option Nat) h) (Option.getD r1 0) 5)) + (ea_i (wX8_lineFor b0 (r1 : Option Nat) (r2 : Option Nat) h) (Option.getD r1 0) 6)) else ((0 : Int32) + (ea_i (wX8_lineFor b0 (r1 : Option Nat) (r2 : Option Nat) h) (Option.getD r1 0) 5))) else (if (ea_i (wX8_lineFor b0 (r1 : Option Nat) (r2 : Option Nat) h) (Option.getD r2 0) 0) = (4 : Int32) then ((0 : Int32) + (ea_i (wX8_lineFor b0 (r1 : Option Nat) (r2 : Option Nat) h) (Option.getD r1 0) 6)) else (0 : Int32))) else (if (ea_i (wX8_lineFor b0 (r1 : Option Nat) (r2 : Option Nat) h) (Option.getD r2 0) 0) = (3 : Int32) then (if (ea_i (wX8_lineFor b0 (r1 : Option Nat) (r2 : Option Nat) h) (Option.getD r2 0) 0) = (4 : Int32) then ((((0 : Int32) + (ea_i (wX8_lineFor b0 (r1 : Option Nat) (r2 : Option Nat) h) (Option.getD r1 0) 2)) + (ea_i (wX8_lineFor b0 (r1 : Option Nat) (r2 : Option Nat) h) (Option.getD r1 0) 5)) + (ea_i (wX8_lineFor b0 (r1 : Option Nat) (r2 : Option Nat) h) (Option.getD r1 0) 6)) else (((0 : Int32) + (ea_i (wX8_lineFor b0 (r1 : Option Nat) (r2 : Option Nat) h) (Option.getD r1 0) 2)) + (ea_i (wX8_lineFor b0 (r1 : Option Nat) (r2 : Option Nat) h) (Option.getD r1 0) 5))) else (if (ea_i (wX8_lineFor b0 (r1 : Option Nat) (r2 : Option Nat) h) (Option.getD r2 0) 0) = (4 : Int32) then (((0 : Int32) + (ea_i (wX8_lineFor b0 (r1 : Option Nat) (r2 : Option Nat) h) (Option.getD r1 0) 2)) + (ea_i (wX8_lineFor b0 (r1 : Option Nat) (r2 : Option Nat) h) (Option.getD r1 0) 6)) else ((0 : Int32) + (ea_i (wX8_lineFor b0 (r1 : Option Nat) (r2 : Option Nat) h) (Option.getD r1 0) 2))))) else (if ((ea_i (wX8_worth b0 ((ea_r (wX8_lineFor b0 (r1 : Option Nat) (r2 : Option Nat) h) (Option.getD r1 0) 11) : Option Nat) ((ea_i (wX8_lineFor b0 (r1 : Option Nat) (r2 : Option Nat) h) (Option.getD (ea_r (wX8_lineFor b0 (r1 : Option Nat) (r2 : Option Nat) h) (Option.getD r1 0) 9) 0) (Int32.toNatClampNeg (vX8_lineFor b0 (r1 : Option Nat) (r2 : Option Nat) h))) : Int32) (wX8_lineFor b0 (r1 : Option Nat) (r2 : Option Nat) h)) (Option.getD r2 0) 6) - (ea_i (wX8_worth b0 ((ea_r (wX8_lineFor b0 (r1 : Option Nat) (r2 : Option Nat) h) (Option.getD r1 0) 11) : Option Nat) ((ea_i (wX8_lineFor b0 (r1 : Option Nat) (r2 : Option Nat) h) (Option.getD (ea_r (wX8_lineFor b0 (r1 : Option Nat) (r2 : Option Nat) h) (Option.getD r1 0) 9) 0) (Int32.toNatClampNeg (vX8_lineFor b0 (r1 : Option Nat) (r2 : Option Nat) h))) : Int32) (wX8_lineFor b0 (r1 : Option Nat) (r2 : Option Nat) h)) (Option.getD r2 0) 6) / (1440 : Int32) * (1440 : Int32)) ≤ (ea_i (wX8_worth b0 ((ea_r (wX8_lineFor b0 (r1 : Option Nat) (r2 : Option Nat) h) (Option.getD r1 0) 11) : Option Nat) ((ea_i (wX8_lineFor b0 (r1 : Option Nat) (r2 : Option Nat) h) (Option.getD (ea_r (wX8_lineFor b0 (r1 : Option Nat) (r2 : Option Nat) h) (Option.getD r1 0) 9) 0) (Int32.toNatClampNeg (vX8_lineFor b0 (r1 : Option Nat) (r2 : Option Nat) h))) : Int32) (wX8_lineFor b0 (r1 : Option Nat) (r2 : Option Nat) h)) (Option.getD r1 0) 3) then (if (ea_i (wX8_worth b0 ((ea_r (wX8_lineFor b0 (r1 : Option Nat) (r2 : Option Nat) h) (Option.getD r1 0) 11) : Option Nat) ((ea_i (wX8_lineFor b0 (r1 : Option Nat) (r2 : Option Nat) h) (Option.getD (ea_r (wX8_lineFor b0 (r1 : Option Nat) (r2 : Option Nat) h) (Option.getD r1 0) 9) 0) (Int32.toNatClampNeg (vX8_lineFor b0 (r1 : Option Nat) (r2 : Option Nat) h))) : Int32) (wX8_lineFor b0 (r1 : Option Nat) (r2 : Option Nat) h)) (Option.getD r2 0) 0) = (3 : Int32) then (if (ea_i (wX8_worth b0 ((ea_r (wX8_lineFor b0 (r1 : Option Nat) (r2 : Option Nat) h) (Option.getD r1 0) 11) : Option Nat) ((ea_i (wX8_lineFor b0 (r1 : Option Nat) (r2 : Option Nat) h) (Option.getD (ea_r (wX8_lineFor b0 (r1 : Option Nat) (r2 : Option Nat) h) (Option.getD r1 0) 9) 0) (Int32.toNatClampNeg (vX8_lineFor b0 (r1 : Option Nat) (r2 : Option Nat) h))) : Int32) (wX8_lineFor b0 (r1 : Option Nat) (r2 : Option Nat) h)) (Option.getD r2 0) 0) = (4 : Int32) then (((vJ9_min_7cf53 ((vJ9_max_7cf53 ((vX8_worth b0 ((ea_r (wX8_lineFor b0 (r1 : Option Nat) (r2 : Option Nat) h) (Option.getD r1 0) 11) : Option Nat) ((ea_i (wX8_lineFor b0 (r1 : Option Nat) (r2 : Option Nat) h) (Option.getD (ea_r (wX8_lineFor b0 (r1 : Option Nat) (r2 : Option Nat) h) (Option.getD r1 0) 9) 0) (Int32.toNatClampNeg (vX8_lineFor b0 (r1 : Option Nat) (r2 : Option Nat) h))) : Int32) (wX8_lineFor b0 (r1 : Option Nat) (r2 : Option Nat) h)) : Int32) (0 : Int32) (wX8_worth b0 ((ea_r (wX8_lineFor b0 (r1 : Option Nat) (r2 : Option Nat) h) (Option.getD r1 0) 11) : Option Nat) ((ea_i (wX8_lineFor b0 (r1 : Option Nat) (r2 : Option Nat) h) (Option.getD (ea_r (wX8_lineFor b0 (r1 : Option Nat) (r2 : Option Nat) h) (Option.getD r1 0) 9) 0) (Int32.toNatClampNeg (vX8_lineFor b0 (r1 : Option Nat) (r2 : Option Nat) h))) : Int32) (wX8_lineFor b0 (r1 : Option Nat) (r2 : Option Nat) h))) : Int32) (99999 : Int32) (wX8_worth b0 ((ea_r (wX8_lineFor b0 (r1 : Option Nat) (r2 : Option Nat) h) (Option.getD r1 0) 11) : Option Nat) ((ea_i (wX8_lineFor b0 (r1 : Option Nat) (r2 : Option Nat) h) (Option.getD (ea_r (wX8_lineFor b0 (r1 : Option Nat) (r2 : Option Nat) h) (Option.getD r1 0) 9) 0) (Int32.toNatClampNeg (vX8_lineFor b0 (r1 : Option Nat) (r2 : Option Nat) h))) : Int32) (wX8_lineFor b0 (r1 : Option Nat) (r2 : Option Nat) h))) + (ea_i (wX8_worth b0 ((ea_r (wX8_lineFor b0 (r1 : Option Nat) (r2 : Option Nat) h) (Option.getD r1 0) 11) : Option Nat) ((ea_i (wX8_lineFor b0 (r1 : Option Nat) (r2 : Option Nat) h) (Option.getD (ea_r (wX8_lineFor b0 (r1 : Option Nat) (r2 : Option Nat) h) (Option.getD r1 0) 9) 0) (Int32.toNatClampNeg (vX8_lineFor b0 (r1 : Option Nat) (r2 : Option Nat) h))) : Int32) (wX8_lineFor b0 (r1 : Option Nat) (r2 : Option Nat) h)) (Option.getD r1 0) 5)) + (ea_i (wX8_worth b0 ((ea_r (wX8_lineFor b0 (r1 : Option Nat) (r2 : Option Nat) h) (Option.getD r1 0) 11) : Option Nat) ((ea_i (wX8_lineFor b0 (r1 : Option Nat) (r2 : Option Nat) h) (Option.getD (ea_r (wX8_lineFor b0 (r1 : Option Nat) (r2 : Option Nat) h) (Option.getD r1 0) 9) 0) (Int32.toNatClampNeg (vX8_lineFor b0 (r1 : Option Nat) (r2 : Option Nat) h))) : Int32) (wX8_lineFor b0 (r1 : Option Nat) (r2 : Option Nat) h)) (Option.getD r1 0) 6)) else ((vJ9_min_7cf53 ((vJ9_max_7cf53 ((vX8_worth b0 ((ea_r (wX8_lineFor b0 (r1 : Option Nat) (r2 : Option Nat) h) (Option.getD r1 0) 11) : Option Nat) ((ea_i (wX8_lineFor b0 (r1 : Option Nat) (r2 : Option Nat) h) (Option.getD (ea_r (wX8_lineFor b0 (r1 : Option Nat) (r2 : Option Nat) h) (Option.getD r1 0) 9) 0) (Int32.toNatClampNeg (vX8_lineFor b0 (r1 : Option Nat) (r2 : Option Nat) h))) : Int32) (wX8_lineFor b0 (r1 : Option Nat) (r2 : Option Nat) h)) : Int32) (0 : Int32) (wX8_worth b0 ((ea_r (wX8_lineFor b0 (r1 : Option Nat) (r2 : Option Nat) h) (Option.getD r1 0) 11) : Option Nat) ((ea_i (wX8_lineFor b0 (r1 : Option Nat) (r2 : Option Nat) h) (Option.getD (ea_r (wX8_lineFor b0 (r1 : Option Nat) (r2 : Option Nat) h) (Option.getD r1 0) 9) 0) (Int32.toNatClampNeg (vX8_lineFor b0 (r1 : Option Nat) (r2 : Option Nat) h))) : Int32) (wX8_lineFor b0 (r1 : Option Nat) (r2 : Option Nat) h))) : Int32) (99999 : Int32) (wX8_worth b0 ((ea_r (wX8_lineFor b0 (r1 : Option Nat) (r2 : Option Nat) h) (Option.getD r1 0) 11) : Option Nat) ((ea_i (wX8_lineFor b0 (r1 : Option Nat) (r2 : Option Nat) h) (Option.getD (ea_r (wX8_lineFor b0 (r1 : Option Nat) (r2 : Option Nat) h) (Option.getD r1 0) 9) 0) (Int32.toNatClampNeg (vX8_lineFor b0 (r1 : Option Nat) (r2 : Option Nat) h))) : Int32) (wX8_lineFor b0 (r1 : Option Nat) (r2 : Option Nat) h))) + (ea_i (wX8_worth b0 ((ea_r (wX8_lineFor b0 (r1 : Option Nat) (r2 : Option Nat) h) (Option.getD r1 0) 11) : Option Nat) ((ea_i (wX8_lineFor b0 (r1 : Option Nat) (r2 : Option Nat) h) (Option.getD (ea_r (wX8_lineFor b0 (r1 : Option Nat) (r2 : Option Nat) h) (Option.getD r1 0) 9) 0) (Int32.toNatClampNeg (vX8_lineFor b0 (r1 : Option Nat) (r2 : Option Nat) h))) : Int32) (wX8_lineFor b0 (r1 : Option Nat) (r2 : Option Nat) h)) (Option.getD r1 0) 5))) else (if (ea_i (wX8_worth b0 ((ea_r (wX8_lineFor b0 (r1 : Option Nat) (r2 : Option Nat) h) (Option.getD r1 0) 11) : Option Nat) ((ea_i (wX8_lineFor b0 (r1 : Option Nat) (r2 : Option Nat) h) (Option.getD (ea_r (wX8_lineFor b0 (r1 : Option Nat) (r2 : Option Nat) h) (Option.getD r1 0) 9) 0) (Int32.toNatClampNeg (vX8_lineFor b0 (r1 : Option Nat) (r2 : Option Nat) h))) : Int32) (wX8_lineFor b0 (r1 : Option Nat) (r2 : Option Nat) h)) (Option.getD r2 0) 0) = (4 : Int32) then ((vJ9_min_7cf53 ((vJ9_max_7cf53 ((vX8_worth b0 ((ea_r (wX8_lineFor b0 (r1 : Option Nat) (r2 : Option Nat) h) (Option.getD r1 0) 11) : Option Nat) ((ea_i (wX8_lineFor b0 (r1 : Option Nat) (r2 : Option Nat) h) (Option.getD (ea_r (wX8_lineFor b0 (r1 : Option Nat) (r2 : Option Nat) h) (Option.getD r1 0) 9) 0) (Int32.toNatClampNeg (vX8_lineFor b0 (r1 : Option Nat) (r2 : Option Nat) h))) : Int32) (wX8_lineFor b0 (r1 : Option Nat) (r2 : Option Nat) h)) : Int32) (0 : Int32) (wX8_worth b0 ((ea_r (wX8_lineFor b0 (r1 : Option Nat) (r2 : Option Nat) h) (Option.getD r1 0) 11) : Option Nat) ((ea_i (wX8_lineFor b0 (r1 : Option Nat) (r2 : Option Nat) h) (Option.getD (ea_r (wX8_lineFor b0 (r1 : Option Nat) (r2 : Option Nat) h) (Option.getD r1 0) 9) 0) (Int32.toNatClampNeg (vX8_lineFor b0 (r1 : Option Nat) (r2 : Option Nat) h))) : Int32) (wX8_lineFor b0 (r1 : Option Nat) (r2 : Option Nat) h))) : Int32) (99999 : Int32) (wX8_worth b0 ((ea_r (wX8_lineFor b0 (r1 : Option Nat) (r2 : Option Nat) h) (Option.getD r1 0) 11) : Option Nat) ((ea_i (wX8_lineFor b0 (r1 : Option Nat) (r2 : Option Nat) h) (Option.getD (ea_r (wX8_lineFor b0 (r1 : Option Nat) (r2 : Option Nat) h) (Option.getD r1 0) 9) 0) (Int32.toNatClampNeg (vX8_lineFor b0 (r1 : Option Nat) (r2 : Option Nat) h))) : Int32) (wX8_lineFor b0 (r1 : Option Nat) (r2 : Option Nat) h))) + (ea_i (wX8_worth b0 ((ea_r (wX8_lineFor b0 (r1 : Option Nat) (r2 : Option Nat) h) (Option.getD r1 0) 11) : Option Nat) ((ea_i (wX8_lineFor b0 (r1 : Option Nat) (r2 : Option Nat) h) (Option.getD (ea_r (wX8_lineFor b0 (r1 : Option Nat) (r2 : Option Nat) h) (Option.getD r1 0) 9) 0) (Int32.toNatClampNeg (vX8_lineFor b0 (r1 : Option Nat) (r2 : Option Nat) h))) : Int32) (wX8_lineFor b0 (r1 : Option Nat) (r2 : Option Nat) h)) (Option.getD r1 0) 6)) else (vJ9_min_7cf53 ((vJ9_max_7cf53 ((vX8_worth b0 ((ea_r (wX8_lineFor b0 (r1 : Option Nat) (r2 : Option Nat) h) (Option.getD r1 0) 11) : Option Nat) ((ea_i (wX8_lineFor b0 (r1 : Option Nat) (r2 : Option Nat) h) (Option.getD (ea_r (wX8_lineFor b0 (r1 : Option Nat) (r2 : Option Nat) h) (Option.getD r1 0) 9) 0) (Int32.toNatClampNeg (vX8_lineFor b0 (r1 : Option Nat) (r2 : Option Nat) h))) : Int32) (wX8_lineFor b0 (r1 : Option Nat) (r2 : Option Nat) h)) : Int32) (0 : Int32) (wX8_worth b0 ((ea_r (wX8_lineFor b0 (r1 : Option Nat) (r2 : Option Nat) h) (Option.getD r1 0) 11) : Option Nat) ((ea_i (wX8_lineFor b0 (r1 : Option Nat) (r2 : Option Nat) h) (Option.getD (ea_r (wX8_lineFor b0 (r1 : Option Nat) (r2 : Option Nat) h) (Option.getD r1 0) 9) 0) (Int32.toNatClampNeg (vX8_lineFor b0 (r1 : Option Nat) (r2 : Option Nat) h))) : Int32) (wX8_lineFor b0 (r1 : Option Nat) (r2 : Option Nat) h))) : Int32) (99999 : Int32) (wX8_worth b0 ((ea_r (wX8_lineFor b0 (r1 : Option Nat) (r2 : Option Nat) h) (Option.getD r1 0) 11) : Option Nat) ((ea_i (wX8_lineFor b0 (r1 : Option Nat) (r2 : Option Nat) h) (Option.getD (ea_r (wX8_lineFor b0 (r1 : Option Nat) (r2 : Option Nat) h) (Option.getD r1 0) 9) 0) (Int32.toNatClampNeg (vX8_lineFor b0 (r1 : Option Nat) (r2 : Option Nat) h))) : Int32) (wX8_lineFor b0 (r1 : Option Nat) (r2 : Option Nat) h))))) else (if (ea_i (wX8_worth b0 ((ea_r (wX8_lineFor b0 (r1 : Option Nat) (r2 : Option Nat) h) (Option.getD r1 0) 11) : Option Nat) ((ea_i (wX8_lineFor b0 (r1 : Option Nat) (r2 : Option Nat) h) (Option.getD (ea_r (wX8_lineFor b0 (r1 : Option Nat) (r2 : Option Nat) h) (Option.getD r1 0) 9) 0) (Int32.toNatClampNeg (vX8_lineFor b0 (r1 : Option Nat) (r2 : Option Nat) h))) : Int32) (wX8_lineFor b0 (r1 : Option Nat) (r2 : Option Nat) h)) (Option.getD r2 0) 0) = (3 : Int32) then (if (ea_i (wX8_worth b0 ((ea_r (wX8_lineFor b0 (r1 : Option Nat) (r2 : Option Nat) h) (Option.getD r1 0) 11) : Option Nat) ((ea_i (wX8_lineFor b0 (r1 : Option Nat) (r2 : Option Nat) h) (Option.getD (ea_r (wX8_lineFor b0 (r1 : Option Nat) (r2 : Option Nat) h) (Option.getD r1 0) 9) 0) (Int32.toNatClampNeg (vX8_lineFor b0 (r1 : Option Nat) (r2 : Option Nat) h))) : Int32) (wX8_lineFor b0 (r1 : Option Nat) (r2 : Option Nat) h)) (Option.getD r2 0) 0) = (4 : Int32) then ((((vJ9_min_7cf53 ((vJ9_max_7cf53 ((vX8_worth b0 ((ea_r (wX8_lineFor b0 (r1 : Option Nat) (r2 : Option Nat) h) (Option.getD r1 0) 11) : Option Nat) ((ea_i (wX8_lineFor b0 (r1 : Option Nat) (r2 : Option Nat) h) (Option.getD (ea_r (wX8_lineFor b0 (r1 : Option Nat) (r2 : Option Nat) h) (Option.getD r1 0) 9) 0) (Int32.toNatClampNeg (vX8_lineFor b0 (r1 : Option Nat) (r2 : Option Nat) h))) : Int32) (wX8_lineFor b0 (r1 : Option Nat) (r2 : Option Nat) h)) : Int32) (0 : Int32) (wX8_worth b0 ((ea_r (wX8_lineFor b0 (r1 : Option Nat) (r2 : Option Nat) h) (Option.getD r1 0) 11) : Option Nat) ((ea_i (wX8_lineFor b0 (r1 : Option Nat) (r2 : Option Nat) h) (Option.getD (ea_r (wX8_lineFor b0 (r1 : Option Nat) (r2 : Option Nat) h) (Option.getD r1 0) 9) 0) (Int32.toNatClampNeg (vX8_lineFor b0 (r1 : Option Nat) (r2 : Option Nat) h))) : Int32) (wX8_lineFor b0 (r1 : Option Nat) (r2 : Option Nat) h))) : Int32) (99999 : Int32) (wX8_worth b0 ((ea_r (wX8_lineFor b0 (r1 : Option Nat) (r2 : Option Nat) h) (Option.getD r1 0) 11) : Option Nat) ((ea_i (wX8_lineFor b0 (r1 : Option Nat) (r2 : Option Nat) h) (Option.getD (ea_r (wX8_lineFor b0 (r1 : Option Nat) (r2 : Option Nat) h) (Option.getD r1 0) 9) 0) (Int32.toNatClampNeg (vX8_lineFor b0 (r1 : Option Nat) (r2 : Option Nat) h))) : Int32) (wX8_lineFor b0 (r1 : Option Nat) (r2 : Option Nat) h))) + (ea_i (wX8_worth b0 ((ea_r (wX8_lineFor b0 (r1 : Option Nat) (r2 : Option Nat) h) (Option.getD r1 0) 11) : Option Nat) ((ea_i (wX8_lineFor b0 (r1 : Option Nat) (r2 : Option Nat) h) (Option.getD (ea_r (wX8_lineFor b0 (r1 : Option Nat) (r2 : Option Nat) h) (Option.getD r1 0) 9) 0) (Int32.toNatClampNeg (vX8_lineFor b0 (r1 : Option Nat) (r2 : Option Nat) h))) : Int32) (wX8_lineFor b0 (r1 : Option Nat) (r2 : Option Nat) h)) (Option.getD r1 0) 2)) + (ea_i (wX8_worth b0 ((ea_r (wX8_lineFor b0 (r1 : Option Nat) (r2 : Option Nat) h) (Option.getD r1 0) 11) : Option Nat) ((ea_i (wX8_lineFor b0 (r1 : Option Nat) (r2 : Option Nat) h) (Option.getD (ea_r (wX8_lineFor b0 (r1 : Option Nat) (r2 : Option Nat) h) (Option.getD r1 0) 9) 0) (Int32.toNatClampNeg (vX8_lineFor b0 (r1 : Option Nat) (r2 : Option Nat) h))) : Int32) (wX8_lineFor b0 (r1 : Option Nat) (r2 : Option Nat) h)) (Option.getD r1 0) 5)) + (ea_i (wX8_worth b0 ((ea_r (wX8_lineFor b0 (r1 : Option Nat) (r2 : Option Nat) h) (Option.getD r1 0) 11) : Option Nat) ((ea_i (wX8_lineFor b0 (r1 : Option Nat) (r2 : Option Nat) h) (Option.getD (ea_r (wX8_lineFor b0 (r1 : Option Nat) (r2 : Option Nat) h) (Option.getD r1 0) 9) 0) (Int32.toNatClampNeg (vX8_lineFor b0 (r1 : Option Nat) (r2 : Option Nat) h))) : Int32) (wX8_lineFor b0 (r1 : Option Nat) (r2 : Option Nat) h)) (Option.getD r1 0) 6)) else (((vJ9_min_7cf53 ((vJ9_max_7cf53 ((vX8_worth b0 ((ea_r (wX8_lineFor b0 (r1 : Option Nat) (r2 : Option Nat) h) (Option.getD r1 0) 11) : Option Nat) ((ea_i (wX8_lineFor b0 (r1 : Option Nat) (r2 : Option Nat) h) (Option.getD (ea_r (wX8_lineFor b0 (r1 : Option Nat) (r2 : Option Nat) h) (Option.getD r1 0) 9) 0) (Int32.toNatClampNeg (vX8_lineFor b0 (r1 : Option Nat) (r2 : Option Nat) h))) : Int32) (wX8_lineFor b0 (r1 : Option Nat) (r2 : Option Nat) h)) : Int32) (0 : Int32) (wX8_worth b0 ((ea_r (wX8_lineFor b0 (r1 : Option Nat) (r2 : Option Nat) h) (Option.getD r1 0) 11) : Option Nat) ((ea_i (wX8_lineFor b0 (r1 : Option Nat) (r2 : Option Nat) h) (Option.getD (ea_r (wX8_lineFor b0 (r1 : Option Nat) (r2 : Option Nat) h) (Option.getD r1 0) 9) 0) (Int32.toNatClampNeg (vX8_lineFor b0 (r1 : Option Nat) (r2 : Option Nat) h))) : Int32) (wX8_lineFor b0 (r1 : Option Nat) (r2 : Option Nat) h))) : Int32) (99999 : Int32) (wX8_worth b0 ((ea_r (wX8_lineFor b0 (r1 : Option Nat) (r2 : Option Nat) h) (Option.getD r1 0) 11) : Option Nat) ((ea_i (wX8_lineFor b0 (r1 : Option Nat) (r2 : Option Nat) h) (Option.getD (ea_r (wX8_lineFor b0 (r1 : Option Nat) (r2 : Option Nat) h) (Option.getD r1 0) 9) 0) (Int32.toNatClampNeg (vX8_lineFor b0 (r1 : Option Nat) (r2 : Option Nat) h))) : Int32) (wX8_lineFor b0 (r1 : Option Nat) (r2 : Option Nat) h))) + (ea_i (wX8_worth b0 ((ea_r (wX8_lineFor b0 (r1 : Option Nat) (r2 : Option Nat) h) (Option.getD r1 0) 11) : Option Nat) ((ea_i (wX8_lineFor b0 (r1 : Option Nat) (r2 : Option Nat) h) (Option.getD (ea_r (wX8_lineFor b0 (r1 : Option Nat) (r2 : Option Nat) h) (Option.getD r1 0) 9) 0) (Int32.toNatClampNeg (vX8_lineFor b0 (r1 : Option Nat) (r2 : Option Nat) h))) : Int32) (wX8_lineFor b0 (r1 : Option Nat) (r2 : Option Nat) h)) (Option.getD r1 0) 2)) + (ea_i (wX8_worth b0 ((ea_r (wX8_lineFor b0 (r1 : Option Nat) (r2 : Option Nat) h) (Option.getD r1 0) 11) : Option Nat) ((ea_i (wX8_lineFor b0 (r1 : Option Nat) (r2 : Option Nat) h) (Option.getD (ea_r (wX8_lineFor b0 (r1 : Option Nat) (r2 : Option Nat) h) (Option.getD r1 0) 9) 0) (Int32.toNatClampNeg (vX8_lineFor b0 (r1 : Option Nat) (r2 : Option Nat) h))) : Int32) (wX8_lineFor b0 (r1 : Option Nat) (r2 : Option Nat) h)) (Option.getD r1 0) 5))) else (if (ea_i (wX8_worth b0 ((ea_r (wX8_lineFor b0 (r1 : Option Nat) (r2 : Option Nat) h) (Option.getD r1 0) 11) : Option Nat) ((ea_i (wX8_lineFor b0 (r1 : Option Nat) (r2 : Option Nat) h) (Option.getD (ea_r (wX8_lineFor b0 (r1 : Option Nat) (r2 : Option Nat) h) (Option.getD r1 0) 9) 0) (Int32.toNatClampNeg (vX8_lineFor b0 (r1 : Option Nat) (r2 : Option Nat) h))) : Int32) (wX8_lineFor b0 (r1 : Option Nat) (r2 : Option Nat) h)) (Option.getD r2 0) 0) = (4 : Int32) then (((vJ9_min_7cf53 ((vJ9_max_7cf53 ((vX8_worth b0 ((ea_r (wX8_lineFor b0 (r1 : Option Nat) (r2 : Option Nat) h) (Option.getD r1 0) 11) : Option Nat) ((ea_i (wX8_lineFor b0 (r1 : Option Nat) (r2 : Option Nat) h) (Option.getD (ea_r (wX8_lineFor b0 (r1 : Option Nat) (r2 : Option Nat) h) (Option.getD r1 0) 9) 0) (Int32.toNatClampNeg (vX8_lineFor b0 (r1 : Option Nat) (r2 : Option Nat) h))) : Int32) (wX8_lineFor b0 (r1 : Option Nat) (r2 : Option Nat) h)) : Int32) (0 : Int32) (wX8_worth b0 ((ea_r (wX8_lineFor b0 (r1 : Option Nat) (r2 : Option Nat) h) (Option.getD r1 0) 11) : Option Nat) ((ea_i (wX8_lineFor b0 (r1 : Option Nat) (r2 : Option Nat) h) (Option.getD (ea_r (wX8_lineFor b0 (r1 : Option Nat) (r2 : Option Nat) h) (Option.getD r1 0) 9) 0) (Int32.toNatClampNeg (vX8_lineFor b0 (r1 : Option Nat) (r2 : Option Nat) h))) : Int32) (wX8_lineFor b0 (r1 : Option Nat) (r2 : Option Nat) h))) : Int32) (99999 : Int32) (wX8_worth b0 ((ea_r (wX8_lineFor b0 (r1 : Option Nat) (r2 : Option Nat) h) (Option.getD r1 0) 11) : Option Nat) ((ea_i (wX8_lineFor b0 (r1 : Option Nat) (r2 : Option Nat) h) (Option.getD (ea_r (wX8_lineFor b0 (r1 : Option Nat) (r2 : Option Nat) h) (Option.getD r1 0) 9) 0) (Int32.toNatClampNeg (vX8_lineFor b0 (r1 : Option Nat) (r2 : Option Nat) h))) : Int32) (wX8_lineFor b0 (r1 : Option Nat) (r2 : Option Nat) h))) + (ea_i (wX8_worth b0 ((ea_r (wX8_lineFor b0 (r1 : Option Nat) (r2 : Option Nat) h) (Option.getD r1 0) 11) : Option Nat) ((ea_i (wX8_lineFor b0 (r1 : Option Nat) (r2 : Option Nat) h) (Option.getD (ea_r (wX8_lineFor b0 (r1 : Option Nat) (r2 : Option Nat) h) (Option.getD r1 0) 9) 0) (Int32.toNatClampNeg (vX8_lineFor b0 (r1 : Option Nat) (r2 : Option Nat) h))) : Int32) (wX8_lineFor b0 (r1 : Option Nat) (r2 : Option Nat) h)) (Option.getD r1 0) 2)) + (ea_i (wX8_worth b0 ((ea_r (wX8_lineFor b0 (r1 : Option Nat) (r2 : Option Nat) h) (Option.getD r1 0) 11) : Option Nat) ((ea_i (wX8_lineFor b0 (r1 : Option Nat) (r2 : Option Nat) h) (Option.getD (ea_r (wX8_lineFor b0 (r1 : Option Nat) (r2 : Option Nat) h) (Option.getD r1 0) 9) 0) (Int32.toNatClampNeg (vX8_lineFor b0 (r1 : Option Nat) (r2 : Option Nat) h))) : Int32) (wX8_lineFor b0 (r1 : Option Nat) (r2 : Option Nat) h)) (Option.getD r1 0) 6)) else ((vJ9_min_7cf53 ((vJ9_max_7cf53 ((vX8_worth b0 ((ea_r (wX8_lineFor b0 (r1 : Option Nat) (r2 : Option Nat) h) (Option.getD r1 0) 11) : Option Nat) ((ea_i (wX8_lineFor b0 (r1 : Option Nat) (r2 : Option Nat) h) (Option.getD (ea_r (wX8_lineFor b0 (r1 : Option Nat) (r2 : Option Nat) h) (Option.getD r1 0) 9) 0) (Int32.toNatClampNeg (vX8_lineFor b0 (r1 : Option Nat) (r2 : Option Nat) h))) : Int32) (wX8_lineFor b0 (r1 : Option Nat) (r2 : Option Nat) h)) : Int32) (0 : Int32) (wX8_worth b0 ((ea_r (wX8_lineFor b0 (r1 : Option Nat) (r2 : Option Nat) h) (Option.getD r1 0) 11) : Option Nat) ((ea_i (wX8_lineFor b0 (r1 : Option Nat) (r2 : Option Nat) h) (Option.getD (ea_r (wX8_lineFor b0 (r1 : Option Nat) (r2 : Option Nat) h) (Option.getD r1 0) 9) 0) (Int32.toNatClampNeg (vX8_lineFor b0 (r1 : Option Nat) (r2 : Option Nat) h))) : Int32) (wX8_lineFor b0 (r1 : Option Nat) (r2 : Option Nat) h))) : Int32) (99999 : Int32) (wX8_worth b0 ((ea_r (wX8_lineFor b0 (r1 : Option Nat) (r2 : Option Nat) h) (Option.getD r1 0) 11) : Option Nat) ((ea_i (wX8_lineFor b0 (r1 : Option Nat) (r2 : Option Nat) h) (Option.getD (ea_r (wX8_lineFor b0 (r1 : Option Nat) (r2 : Option Nat) h) (Option.getD r1 0) 9) 0) (Int32.toNatClampNeg (vX8_lineFor b0 (r1 : Option Nat) (r2 : Option Nat) h))) : Int32) (wX8_lineFor b0 (r1 : Option Nat) (r2 : Option Nat) h))) + (ea_i (wX8_worth b0 ((ea_r (wX8_lineFor b0 (r1 : Option Nat) (r2 : Option Nat) h) (Option.getD r1 0) 11) : Option Nat) ((ea_i (wX8_lineFor b0 (r1 : Option Nat) (r2 : Option Nat) h) (Option.getD (ea_r (wX8_lineFor b0 (r1 : Option Nat) (r2 : Option Nat) h) (Option.getD r1 0) 9) 0) (Int32.toNatClampNeg (vX8_lineFor b0 (r1 : Option Nat) (r2 : Option Nat) h))) : Int32) (wX8_lineFor b0 (r1 : Option Nat) (r2 : Option Nat) h)) (Option.getD r1 0) 2)))))) else (0 : Int32))
noncomputable def wX8_chargeBy (b0 : Nat) (r1 : Option Nat) (r2 : Option Nat) (h : ea_H) : ea_H := (if (vX8_isFree (r1 : Option Nat) (r2 : Option Nat) h) = (0 : Int32) then (if (vX8_lineFor b0 (r1 : Option Nat) (r2 : Option Nat) h) = ((-1) : Int32) then (wX8_lineFor b0 (r1 : Option Nat) (r2 : Option Nat) h) else (wX8_worth b0 ((ea_r (wX8_lineFor b0 (r1 : Option Nat) (r2 : Option Nat) h) (Option.getD r1 0) 11) : Option Nat) ((ea_i (wX8_lineFor b0 (r1 : Option Nat) (r2 : Option Nat) h) (Option.getD (ea_r (wX8_lineFor b0 (r1 : Option Nat) (r2 : Option Nat) h) (Option.getD r1 0) 9) 0) (Int32.toNatClampNeg (vX8_lineFor b0 (r1 : Option Nat) (r2 : Option Nat) h))) : Int32) (wX8_lineFor b0 (r1 : Option Nat) (r2 : Option Nat) h))) else h)
def okX8_chargeBy (b0 : Nat) (r1 : Option Nat) (r2 : Option Nat) (h : ea_H) : Prop := (okX8_isFree (r1 : Option Nat) (r2 : Option Nat) h) ∧ (((vX8_isFree (r1 : Option Nat) (r2 : Option Nat) h) = (0 : Int32) → (okX8_lineFor b0 (r1 : Option Nat) (r2 : Option Nat) h) ∧ (((vX8_lineFor b0 (r1 : Option Nat) (r2 : Option Nat) h) = ((-1) : Int32) → r2 = some (Option.getD r2 0) ∧ (((Option.getD r2 0) < ea_n (wX8_lineFor b0 (r1 : Option Nat) (r2 : Option Nat) h) ∧ ea_c (wX8_lineFor b0 (r1 : Option Nat) (r2 : Option Nat) h) (Option.getD r2 0) = 4) ∧ (r1 = some (Option.getD r1 0) ∧ (((Option.getD r1 0) < ea_n (wX8_lineFor b0 (r1 : Option Nat) (r2 : Option Nat) h) ∧ ea_c (wX8_lineFor b0 (r1 : Option Nat) (r2 : Option Nat) h) (Option.getD r1 0) = 0) ∧ ((((ea_i (wX8_lineFor b0 (r1 : Option Nat) (r2 : Option Nat) h) (Option.getD r2 0) 6) - (ea_i (wX8_lineFor b0 (r1 : Option Nat) (r2 : Option Nat) h) (Option.getD r2 0) 6) / (1440 : Int32) * (1440 : Int32)) ≤ (ea_i (wX8_lineFor b0 (r1 : Option Nat) (r2 : Option Nat) h) (Option.getD r1 0) 3) → r2 = some (Option.getD r2 0) ∧ (((Option.getD r2 0) < ea_n (wX8_lineFor b0 (r1 : Option Nat) (r2 : Option Nat) h) ∧ ea_c (wX8_lineFor b0 (r1 : Option Nat) (r2 : Option Nat) h) (Option.getD r2 0) = 4) ∧ (((ea_i (wX8_lineFor b0 (r1 : Option Nat) (r2 : Option Nat) h) (Option.getD r2 0) 0) = (3 : Int32) → r1 = some (Option.getD r1 0) ∧ (((Option.getD r1 0) < ea_n (wX8_lineFor b0 (r1 : Option Nat) (r2 : Option Nat) h) ∧ ea_c (wX8_lineFor b0 (r1 : Option Nat) (r2 : Option Nat) h) (Option.getD r1 0) = 0) ∧ (r2 = some (Option.getD r2 0) ∧ (((Option.getD r2 0) < ea_n (wX8_lineFor b0 (r1 : Option Nat) (r2 : Option Nat) h) ∧ ea_c (wX8_lineFor b0 (r1 : Option Nat) (r2 : Option Nat) h) (Option.getD r2 0) = 4) ∧ (((ea_i (wX8_lineFor b0 (r1 : Option Nat) (r2 : Option Nat) h) (Option.getD r2 0) 0) = (4 : Int32) → r1 = some (Option.getD r1 0) ∧ (((Option.getD r1 0) < ea_n (wX8_lineFor b0 (r1 : Option Nat) (r2 : Option Nat) h) ∧ ea_c (wX8_lineFor b0 (r1 : Option Nat) (r2 : Option Nat) h) (Option.getD r1 0) = 0))) ∧ (¬ (ea_i (wX8_lineFor b0 (r1 : Option Nat) (r2 : Option Nat) h) (Option.getD r2 0) 0) = (4 : Int32) → True)))))) ∧ (¬ (ea_i (wX8_lineFor b0 (r1 : Option Nat) (r2 : Option Nat) h) (Option.getD r2 0) 0) = (3 : Int32) → r2 = some (Option.getD r2 0) ∧ (((Option.getD r2 0) < ea_n (wX8_lineFor b0 (r1 : Option Nat) (r2 : Option Nat) h) ∧ ea_c (wX8_lineFor b0 (r1 : Option Nat) (r2 : Option Nat) h) (Option.getD r2 0) = 4) ∧ (((ea_i (wX8_lineFor b0 (r1 : Option Nat) (r2 : Option Nat) h) (Option.getD r2 0) 0) = (4 : Int32) → r1 = some (Option.getD r1 0) ∧ (((Option.getD r1 0) < ea_n (wX8_lineFor b0 (r1 : Option Nat) (r2 : Option Nat) h) ∧ ea_c (wX8_lineFor b0 (r1 : Option Nat) (r2 : Option Nat) h) (Option.getD r1 0) = 0))) ∧ (¬ (ea_i (wX8_lineFor b0 (r1 : Option Nat) (r2 : Option Nat) h) (Option.getD r2 0) 0) = (4 : Int32) → True))))))) ∧ (¬ ((ea_i (wX8_lineFor b0 (r1 : Option Nat) (r2 : Option Nat) h) (Option.getD r2 0) 6) - (ea_i (wX8_lineFor b0 (r1 : Option Nat) (r2 : Option Nat) h) (Option.getD r2 0) 6) / (1440 : Int32) * (1440 : Int32)) ≤ (ea_i (wX8_lineFor b0 (r1 : Option Nat) (r2 : Option Nat) h) (Option.getD r1 0) 3) → r1 = some (Option.getD r1 0) ∧ (((Option.getD r1 0) < ea_n (wX8_lineFor b0 (r1 : Option Nat) (r2 : Option Nat) h) ∧ ea_c (wX8_lineFor b0 (r1 : Option Nat) (r2 : Option Nat) h) (Option.getD r1 0) = 0) ∧ (r2 = some (Option.getD r2 0) ∧ (((Option.getD r2 0) < ea_n (wX8_lineFor b0 (r1 : Option Nat) (r2 : Option Nat) h) ∧ ea_c (wX8_lineFor b0 (r1 : Option Nat) (r2 : Option Nat) h) (Option.getD r2 0) = 4) ∧ (((ea_i (wX8_lineFor b0 (r1 : Option Nat) (r2 : Option Nat) h) (Option.getD r2 0) 0) = (3 : Int32) → r1 = some (Option.getD r1 0) ∧ (((Option.getD r1 0) < ea_n (wX8_lineFor b0 (r1 : Option Nat) (r2 : Option Nat) h) ∧ ea_c (wX8_lineFor b0 (r1 : Option Nat) (r2 : Option Nat) h) (Option.getD r1 0) = 0) ∧ (r2 = some (Option.getD r2 0) ∧ (((Option.getD r2 0) < ea_n (wX8_lineFor b0 (r1 : Option Nat) (r2 : Option Nat) h) ∧ ea_c (wX8_lineFor b0 (r1 : Option Nat) (r2 : Option Nat) h) (Option.getD r2 0) = 4) ∧ (((ea_i (wX8_lineFor b0 (r1 : Option Nat) (r2 : Option Nat) h) (Option.getD r2 0) 0) = (4 : Int32) → r1 = some (Option.getD r1 0) ∧ (((Option.getD r1 0) < ea_n (wX8_lineFor b0 (r1 : Option Nat) (r2 : Option Nat) h) ∧ ea_c (wX8_lineFor b0 (r1 : Option Nat) (r2 : Option Nat) h) (Option.getD r1 0) = 0))) ∧ (¬ (ea_i (wX8_lineFor b0 (r1 : Option Nat) (r2 : Option Nat) h) (Option.getD r2 0) 0) = (4 : Int32) → True)))))) ∧ (¬ (ea_i (wX8_lineFor b0 (r1 : Option Nat) (r2 : Option Nat) h) (Option.getD r2 0) 0) = (3 : Int32) → r2 = some (Option.getD r2 0) ∧ (((Option.getD r2 0) < ea_n (wX8_lineFor b0 (r1 : Option Nat) (r2 : Option Nat) h) ∧ ea_c (wX8_lineFor b0 (r1 : Option Nat) (r2 : Option Nat) h) (Option.getD r2 0) = 4) ∧ (((ea_i (wX8_lineFor b0 (r1 : Option Nat) (r2 : Option Nat) h) (Option.getD r2 0) 0) = (4 : Int32) → r1 = some (Option.getD r1 0) ∧ (((Option.getD r1 0) < ea_n (wX8_lineFor b0 (r1 : Option Nat) (r2 : Option Nat) h) ∧ ea_c (wX8_lineFor b0 (r1 : Option Nat) (r2 : Option Nat) h) (Option.getD r1 0) = 0))) ∧ (¬ (ea_i (wX8_lineFor b0 (r1 : Option Nat) (r2 : Option Nat) h) (Option.getD r2 0) 0) = (4 : Int32) → True)))))))))))))) ∧ (¬ (vX8_lineFor b0 (r1 : Option Nat) (r2 : Option Nat) h) = ((-1) : Int32) → r1 = some (Option.getD r1 0) ∧ (((Option.getD r1 0) < ea_n (wX8_lineFor b0 (r1 : Option Nat) (r2 : Option Nat) h) ∧ ea_c (wX8_lineFor b0 (r1 : Option Nat) (r2 : Option Nat) h) (Option.getD r1 0) = 0) ∧ (r1 = some (Option.getD r1 0) ∧ (((Option.getD r1 0) < ea_n (wX8_lineFor b0 (r1 : Option Nat) (r2 : Option Nat) h) ∧ ea_c (wX8_lineFor b0 (r1 : Option Nat) (r2 : Option Nat) h) (Option.getD r1 0) = 0) ∧ ((ea_r (wX8_lineFor b0 (r1 : Option Nat) (r2 : Option Nat) h) (Option.getD r1 0) 9) = some (Option.getD (ea_r (wX8_lineFor b0 (r1 : Option Nat) (r2 : Option Nat) h) (Option.getD r1 0) 9) 0) ∧ (((Option.getD (ea_r (wX8_lineFor b0 (r1 : Option Nat) (r2 : Option Nat) h) (Option.getD r1 0) 9) 0) < ea_n (wX8_lineFor b0 (r1 : Option Nat) (r2 : Option Nat) h) ∧ ea_c (wX8_lineFor b0 (r1 : Option Nat) (r2 : Option Nat) h) (Option.getD (ea_r (wX8_lineFor b0 (r1 : Option Nat) (r2 : Option Nat) h) (Option.getD r1 0) 9) 0) = 20) ∧ (vp_in (vX8_lineFor b0 (r1 : Option Nat) (r2 : Option Nat) h) (ea_l (wX8_lineFor b0 (r1 : Option Nat) (r2 : Option Nat) h) (Option.getD (ea_r (wX8_lineFor b0 (r1 : Option Nat) (r2 : Option Nat) h) (Option.getD r1 0) 9) 0)) ∧ ((okX8_worth b0 ((ea_r (wX8_lineFor b0 (r1 : Option Nat) (r2 : Option Nat) h) (Option.getD r1 0) 11) : Option Nat) ((ea_i (wX8_lineFor b0 (r1 : Option Nat) (r2 : Option Nat) h) (Option.getD (ea_r (wX8_lineFor b0 (r1 : Option Nat) (r2 : Option Nat) h) (Option.getD r1 0) 9) 0) (Int32.toNatClampNeg (vX8_lineFor b0 (r1 : Option Nat) (r2 : Option Nat) h))) : Int32) (wX8_lineFor b0 (r1 : Option Nat) (r2 : Option Nat) h)) ∧ (r2 = some (Option.getD r2 0) ∧ (((Option.getD r2 0) < ea_n (wX8_worth b0 ((ea_r (wX8_lineFor b0 (r1 : Option Nat) (r2 : Option Nat) h) (Option.getD r1 0) 11) : Option Nat) ((ea_i (wX8_lineFor b0 (r1 : Option Nat) (r2 : Option Nat) h) (Option.getD (ea_r (wX8_lineFor b0 (r1 : Option Nat) (r2 : Option Nat) h) (Option.getD r1 0) 9) 0) (Int32.toNatClampNeg (vX8_lineFor b0 (r1 : Option Nat) (r2 : Option Nat) h))) : Int32) (wX8_lineFor b0 (r1 : Option Nat) (r2 : Option Nat) h)) ∧ ea_c (wX8_worth b0 ((ea_r (wX8_lineFor b0 (r1 : Option Nat) (r2 : Option Nat) h) (Option.getD r1 0) 11) : Option Nat) ((ea_i (wX8_lineFor b0 (r1 : Option Nat) (r2 : Option Nat) h) (Option.getD (ea_r (wX8_lineFor b0 (r1 : Option Nat) (r2 : Option Nat) h) (Option.getD r1 0) 9) 0) (Int32.toNatClampNeg (vX8_lineFor b0 (r1 : Option Nat) (r2 : Option Nat) h))) : Int32) (wX8_lineFor b0 (r1 : Option Nat) (r2 : Option Nat) h)) (Option.getD r2 0) = 4) ∧ (r1 = some (Option.getD r1 0) ∧ (((Option.getD r1 0) < ea_n (wX8_worth b0 ((ea_r (wX8_lineFor b0 (r1 : Option Nat) (r2 : Option Nat) h) (Option.getD r1 0) 11) : Option Nat) ((ea_i (wX8_lineFor b0 (r1 : Option Nat) (r2 : Option Nat) h) (Option.getD (ea_r (wX8_lineFor b0 (r1 : Option Nat) (r2 : Option Nat) h) (Option.getD r1 0) 9) 0) (Int32.toNatClampNeg (vX8_lineFor b0 (r1 : Option Nat) (r2 : Option Nat) h))) : Int32) (wX8_lineFor b0 (r1 : Option Nat) (r2 : Option Nat) h)) ∧ ea_c (wX8_worth b0 ((ea_r (wX8_lineFor b0 (r1 : Option Nat) (r2 : Option Nat) h) (Option.getD r1 0) 11) : Option Nat) ((ea_i (wX8_lineFor b0 (r1 : Option Nat) (r2 : Option Nat) h) (Option.getD (ea_r (wX8_lineFor b0 (r1 : Option Nat) (r2 : Option Nat) h) (Option.getD r1 0) 9) 0) (Int32.toNatClampNeg (vX8_lineFor b0 (r1 : Option Nat) (r2 : Option Nat) h))) : Int32) (wX8_lineFor b0 (r1 : Option Nat) (r2 : Option Nat) h)) (Option.getD r1 0) = 0) ∧ ((((ea_i (wX8_worth b0 ((ea_r (wX8_lineFor b0 (r1 : Option Nat) (r2 : Option Nat) h) (Option.getD r1 0) 11) : Option Nat) ((ea_i (wX8_lineFor b0 (r1 : Option Nat) (r2 : Option Nat) h) (Option.getD (ea_r (wX8_lineFor b0 (r1 : Option Nat) (r2 : Option Nat) h) (Option.getD r1 0) 9) 0) (Int32.toNatClampNeg (vX8_lineFor b0 (r1 : Option Nat) (r2 : Option Nat) h))) : Int32) (wX8_lineFor b0 (r1 : Option Nat) (r2 : Option Nat) h)) (Option.getD r2 0) 6) - (ea_i (wX8_worth b0 ((ea_r (wX8_lineFor b0 (r1 : Option Nat) (r2 : Option Nat) h) (Option.getD r1 0) 11) : Option Nat) ((ea_i (wX8_lineFor b0 (r1 : Option Nat) (r2 : Option Nat) h) (Option.getD (ea_r (wX8_lineFor b0 (r1 : Option Nat) (r2 : Option Nat) h) (Option.getD r1 0) 9) 0) (Int32.toNatClampNeg (vX8_lineFor b0 (r1 : Option Nat) (r2 : Option Nat) h))) : Int32) (wX8_lineFor b0 (r1 : Option Nat) (r2 : Option Nat) h)) (Option.getD r2 0) 6) / (1440 : Int32) * (1440 : Int32)) ≤ (ea_i (wX8_worth b0 ((ea_r (wX8_lineFor b0 (r1 : Option Nat) (r2 : Option Nat) h) (Option.getD r1 0) 11) : Option Nat) ((ea_i (wX8_lineFor b0 (r1 : Option Nat) (r2 : Option Nat) h) (Option.getD (ea_r (wX8_lineFor b0 (r1 : Option Nat) (r2 : Option Nat) h) (Option.getD r1 0) 9) 0) (Int32.toNatClampNeg (vX8_lineFor b0 (r1 : Option Nat) (r2 : Option Nat) h))) : Int32) (wX8_lineFor b0 (r1 : Option Nat) (r2 : Option Nat) h)) (Option.getD r1 0) 3) → r2 = some (Option.getD r2 0) ∧ (((Option.getD r2 0) < ea_n (wX8_worth b0 ((ea_r (wX8_lineFor b0 (r1 : Option Nat) (r2 : Option Nat) h) (Option.getD r1 0) 11) : Option Nat) ((ea_i (wX8_lineFor b0 (r1 : Option Nat) (r2 : Option Nat) h) (Option.getD (ea_r (wX8_lineFor b0 (r1 : Option Nat) (r2 : Option Nat) h) (Option.getD r1 0) 9) 0) (Int32.toNatClampNeg (vX8_lineFor b0 (r1 : Option Nat) (r2 : Option Nat) h))) : Int32) (wX8_lineFor b0 (r1 : Option Nat) (r2 : Option Nat) h)) ∧ ea_c (wX8_worth b0 ((ea_r (wX8_lineFor b0 (r1 : Option Nat) (r2 : Option Nat) h) (Option.getD r1 0) 11) : Option Nat) ((ea_i (wX8_lineFor b0 (r1 : Option Nat) (r2 : Option Nat) h) (Option.getD (ea_r (wX8_lineFor b0 (r1 : Option Nat) (r2 : Option Nat) h) (Option.getD r1 0) 9) 0) (Int32.toNatClampNeg (vX8_lineFor b0 (r1 : Option Nat) (r2 : Option Nat) h))) : Int32) (wX8_lineFor b0 (r1 : Option Nat) (r2 : Option Nat) h)) (Option.getD r2 0) = 4) ∧ (((ea_i (wX8_worth b0 ((ea_r (wX8_lineFor b0 (r1 : Option Nat) (r2 : Option Nat) h) (Option.getD r1 0) 11) : Option Nat) ((ea_i (wX8_lineFor b0 (r1 : Option Nat) (r2 : Option Nat) h) (Option.getD (ea_r (wX8_lineFor b0 (r1 : Option Nat) (r2 : Option Nat) h) (Option.getD r1 0) 9) 0) (Int32.toNatClampNeg (vX8_lineFor b0 (r1 : Option Nat) (r2 : Option Nat) h))) : Int32) (wX8_lineFor b0 (r1 : Option Nat) (r2 : Option Nat) h)) (Option.getD r2 0) 0) = (3 : Int32) → r1 = some (Option.getD r1 0) ∧ (((Option.getD r1 0) < ea_n (wX8_worth b0 ((ea_r (wX8_lineFor b0 (r1 : Option Nat) (r2 : Option Nat) h) (Option.getD r1 0) 11) : Option Nat) ((ea_i (wX8_lineFor b0 (r1 : Option Nat) (r2 : Option Nat) h) (Option.getD (ea_r (wX8_lineFor b0 (r1 : Option Nat) (r2 : Option Nat) h) (Option.getD r1 0) 9) 0) (Int32.toNatClampNeg (vX8_lineFor b0 (r1 : Option Nat) (r2 : Option Nat) h))) : Int32) (wX8_lineFor b0 (r1 : Option Nat) (r2 : Option Nat) h)) ∧ ea_c (wX8_worth b0 ((ea_r (wX8_lineFor b0 (r1 : Option Nat) (r2 : Option Nat) h) (Option.getD r1 0) 11) : Option Nat) ((ea_i (wX8_lineFor b0 (r1 : Option Nat) (r2 : Option Nat) h) (Option.getD (ea_r (wX8_lineFor b0 (r1 : Option Nat) (r2 : Option Nat) h) (Option.getD r1 0) 9) 0) (Int32.toNatClampNeg (vX8_lineFor b0 (r1 : Option Nat) (r2 : Option Nat) h))) : Int32) (wX8_lineFor b0 (r1 : Option Nat) (r2 : Option Nat) h)) (Option.getD r1 0) = 0) ∧ (r2 = some (Option.getD r2 0) ∧ (((Option.getD r2 0) < ea_n (wX8_worth b0 ((ea_r (wX8_lineFor b0 (r1 : Option Nat) (r2 : Option Nat) h) (Option.getD r1 0) 11) : Option Nat) ((ea_i (wX8_lineFor b0 (r1 : Option Nat) (r2 : Option Nat) h) (Option.getD (ea_r (wX8_lineFor b0 (r1 : Option Nat) (r2 : Option Nat) h) (Option.getD r1 0) 9) 0) (Int32.toNatClampNeg (vX8_lineFor b0 (r1 : Option Nat) (r2 : Option Nat) h))) : Int32) (wX8_lineFor b0 (r1 : Option Nat) (r2 : Option Nat) h)) ∧ ea_c (wX8_worth b0 ((ea_r (wX8_lineFor b0 (r1 : Option Nat) (r2 : Option Nat) h) (Option.getD r1 0) 11) : Option Nat) ((ea_i (wX8_lineFor b0 (r1 : Option Nat) (r2 : Option Nat) h) (Option.getD (ea_r (wX8_lineFor b0 (r1 : Option Nat) (r2 : Option Nat) h) (Option.getD r1 0) 9) 0) (Int32.toNatClampNeg (vX8_lineFor b0 (r1 : Option Nat) (r2 : Option Nat) h))) : Int32) (wX8_lineFor b0 (r1 : Option Nat) (r2 : Option Nat) h)) (Option.getD r2 0) = 4) ∧ (((ea_i (wX8_worth b0 ((ea_r (wX8_lineFor b0 (r1 : Option Nat) (r2 : Option Nat) h) (Option.getD r1 0) 11) : Option Nat) ((ea_i (wX8_lineFor b0 (r1 : Option Nat) (r2 : Option Nat) h) (Option.getD (ea_r (wX8_lineFor b0 (r1 : Option Nat) (r2 : Option Nat) h) (Option.getD r1 0) 9) 0) (Int32.toNatClampNeg (vX8_lineFor b0 (r1 : Option Nat) (r2 : Option Nat) h))) : Int32) (wX8_lineFor b0 (r1 : Option Nat) (r2 : Option Nat) h)) (Option.getD r2 0) 0) = (4 : Int32) → r1 = some (Option.getD r1 0) ∧ (((Option.getD r1 0) < ea_n (wX8_worth b0 ((ea_r (wX8_lineFor b0 (r1 : Option Nat) (r2 : Option Nat) h) (Option.getD r1 0) 11) : Option Nat) ((ea_i (wX8_lineFor b0 (r1 : Option Nat) (r2 : Option Nat) h) (Option.getD (ea_r (wX8_lineFor b0 (r1 : Option Nat) (r2 : Option Nat) h) (Option.getD r1 0) 9) 0) (Int32.toNatClampNeg (vX8_lineFor b0 (r1 : Option Nat) (r2 : Option Nat) h))) : Int32) (wX8_lineFor b0 (r1 : Option Nat) (r2 : Option Nat) h)) ∧ ea_c (wX8_worth b0 ((ea_r (wX8_lineFor b0 (r1 : Option Nat) (r2 : Option Nat) h) (Option.getD r1 0) 11) : Option Nat) ((ea_i (wX8_lineFor b0 (r1 : Option Nat) (r2 : Option Nat) h) (Option.getD (ea_r (wX8_lineFor b0 (r1 : Option Nat) (r2 : Option Nat) h) (Option.getD r1 0) 9) 0) (Int32.toNatClampNeg (vX8_lineFor b0 (r1 : Option Nat) (r2 : Option Nat) h))) : Int32) (wX8_lineFor b0 (r1 : Option Nat) (r2 : Option Nat) h)) (Option.getD r1 0) = 0))) ∧ (¬ (ea_i (wX8_worth b0 ((ea_r (wX8_lineFor b0 (r1 : Option Nat) (r2 : Option Nat) h) (Option.getD r1 0) 11) : Option Nat) ((ea_i (wX8_lineFor b0 (r1 : Option Nat) (r2 : Option Nat) h) (Option.getD (ea_r (wX8_lineFor b0 (r1 : Option Nat) (r2 : Option Nat) h) (Option.getD r1 0) 9) 0) (Int32.toNatClampNeg (vX8_lineFor b0 (r1 : Option Nat) (r2 : Option Nat) h))) : Int32) (wX8_lineFor b0 (r1 : Option Nat) (r2 : Option Nat) h)) (Option.getD r2 0) 0) = (4 : Int32) → True)))))) ∧ (¬ (ea_i (wX8_worth b0 ((ea_r (wX8_lineFor b0 (r1 : Option Nat) (r2 : Option Nat) h) (Option.getD r1 0) 11) : Option Nat) ((ea_i (wX8_lineFor b0 (r1 : Option Nat) (r2 : Option Nat) h) (Option.getD (ea_r (wX8_lineFor b0 (r1 : Option Nat) (r2 : Option Nat) h) (Option.getD r1 0) 9) 0) (Int32.toNatClampNeg (vX8_lineFor b0 (r1 : Option Nat) (r2 : Option Nat) h))) : Int32) (wX8_lineFor b0 (r1 : Option Nat) (r2 : Option Nat) h)) (Option.getD r2 0) 0) = (3 : Int32) → r2 = some (Option.getD r2 0) ∧ (((Option.getD r2 0) < ea_n (wX8_worth b0 ((ea_r (wX8_lineFor b0 (r1 : Option Nat) (r2 : Option Nat) h) (Option.getD r1 0) 11) : Option Nat) ((ea_i (wX8_lineFor b0 (r1 : Option Nat) (r2 : Option Nat) h) (Option.getD (ea_r (wX8_lineFor b0 (r1 : Option Nat) (r2 : Option Nat) h) (Option.getD r1 0) 9) 0) (Int32.toNatClampNeg (vX8_lineFor b0 (r1 : Option Nat) (r2 : Option Nat) h))) : Int32) (wX8_lineFor b0 (r1 : Option Nat) (r2 : Option Nat) h)) ∧ ea_c (wX8_worth b0 ((ea_r (wX8_lineFor b0 (r1 : Option Nat) (r2 : Option Nat) h) (Option.getD r1 0) 11) : Option Nat) ((ea_i (wX8_lineFor b0 (r1 : Option Nat) (r2 : Option Nat) h) (Option.getD (ea_r (wX8_lineFor b0 (r1 : Option Nat) (r2 : Option Nat) h) (Option.getD r1 0) 9) 0) (Int32.toNatClampNeg (vX8_lineFor b0 (r1 : Option Nat) (r2 : Option Nat) h))) : Int32) (wX8_lineFor b0 (r1 : Option Nat) (r2 : Option Nat) h)) (Option.getD r2 0) = 4) ∧ (((ea_i (wX8_worth b0 ((ea_r (wX8_lineFor b0 (r1 : Option Nat) (r2 : Option Nat) h) (Option.getD r1 0) 11) : Option Nat) ((ea_i (wX8_lineFor b0 (r1 : Option Nat) (r2 : Option Nat) h) (Option.getD (ea_r (wX8_lineFor b0 (r1 : Option Nat) (r2 : Option Nat) h) (Option.getD r1 0) 9) 0) (Int32.toNatClampNeg (vX8_lineFor b0 (r1 : Option Nat) (r2 : Option Nat) h))) : Int32) (wX8_lineFor b0 (r1 : Option Nat) (r2 : Option Nat) h)) (Option.getD r2 0) 0) = (4 : Int32) → r1 = some (Option.getD r1 0) ∧ (((Option.getD r1 0) < ea_n (wX8_worth b0 ((ea_r (wX8_lineFor b0 (r1 : Option Nat) (r2 : Option Nat) h) (Option.getD r1 0) 11) : Option Nat) ((ea_i (wX8_lineFor b0 (r1 : Option Nat) (r2 : Option Nat) h) (Option.getD (ea_r (wX8_lineFor b0 (r1 : Option Nat) (r2 : Option Nat) h) (Option.getD r1 0) 9) 0) (Int32.toNatClampNeg (vX8_lineFor b0 (r1 : Option Nat) (r2 : Option Nat) h))) : Int32) (wX8_lineFor b0 (r1 : Option Nat) (r2 : Option Nat) h)) ∧ ea_c (wX8_worth b0 ((ea_r (wX8_lineFor b0 (r1 : Option Nat) (r2 : Option Nat) h) (Option.getD r1 0) 11) : Option Nat) ((ea_i (wX8_lineFor b0 (r1 : Option Nat) (r2 : Option Nat) h) (Option.getD (ea_r (wX8_lineFor b0 (r1 : Option Nat) (r2 : Option Nat) h) (Option.getD r1 0) 9) 0) (Int32.toNatClampNeg (vX8_lineFor b0 (r1 : Option Nat) (r2 : Option Nat) h))) : Int32) (wX8_lineFor b0 (r1 : Option Nat) (r2 : Option Nat) h)) (Option.getD r1 0) = 0))) ∧ (¬ (ea_i (wX8_worth b0 ((ea_r (wX8_lineFor b0 (r1 : Option Nat) (r2 : Option Nat) h) (Option.getD r1 0) 11) : Option Nat) ((ea_i (wX8_lineFor b0 (r1 : Option Nat) (r2 : Option Nat) h) (Option.getD (ea_r (wX8_lineFor b0 (r1 : Option Nat) (r2 : Option Nat) h) (Option.getD r1 0) 9) 0) (Int32.toNatClampNeg (vX8_lineFor b0 (r1 : Option Nat) (r2 : Option Nat) h))) : Int32) (wX8_lineFor b0 (r1 : Option Nat) (r2 : Option Nat) h)) (Option.getD r2 0) 0) = (4 : Int32) → True))))))) ∧ (¬ ((ea_i (wX8_worth b0 ((ea_r (wX8_lineFor b0 (r1 : Option Nat) (r2 : Option Nat) h) (Option.getD r1 0) 11) : Option Nat) ((ea_i (wX8_lineFor b0 (r1 : Option Nat) (r2 : Option Nat) h) (Option.getD (ea_r (wX8_lineFor b0 (r1 : Option Nat) (r2 : Option Nat) h) (Option.getD r1 0) 9) 0) (Int32.toNatClampNeg (vX8_lineFor b0 (r1 : Option Nat) (r2 : Option Nat) h))) : Int32) (wX8_lineFor b0 (r1 : Option Nat) (r2 : Option Nat) h)) (Option.getD r2 0) 6) - (ea_i (wX8_worth b0 ((ea_r (wX8_lineFor b0 (r1 : Option Nat) (r2 : Option Nat) h) (Option.getD r1 0) 11) : Option Nat) ((ea_i (wX8_lineFor b0 (r1 : Option Nat) (r2 : Option Nat) h) (Option.getD (ea_r (wX8_lineFor b0 (r1 : Option Nat) (r2 : Option Nat) h) (Option.getD r1 0) 9) 0) (Int32.toNatClampNeg (vX8_lineFor b0 (r1 : Option Nat) (r2 : Option Nat) h))) : Int32) (wX8_lineFor b0 (r1 : Option Nat) (r2 : Option Nat) h)) (Option.getD r2 0) 6) / (1440 : Int32) * (1440 : Int32)) ≤ (ea_i (wX8_worth b0 ((ea_r (wX8_lineFor b0 (r1 : Option Nat) (r2 : Option Nat) h) (Option.getD r1 0) 11) : Option Nat) ((ea_i (wX8_lineFor b0 (r1 : Option Nat) (r2 : Option Nat) h) (Option.getD (ea_r (wX8_lineFor b0 (r1 : Option Nat) (r2 : Option Nat) h) (Option.getD r1 0) 9) 0) (Int32.toNatClampNeg (vX8_lineFor b0 (r1 : Option Nat) (r2 : Option Nat) h))) : Int32) (wX8_lineFor b0 (r1 : Option Nat) (r2 : Option Nat) h)) (Option.getD r1 0) 3) → r1 = some (Option.getD r1 0) ∧ (((Option.getD r1 0) < ea_n (wX8_worth b0 ((ea_r (wX8_lineFor b0 (r1 : Option Nat) (r2 : Option Nat) h) (Option.getD r1 0) 11) : Option Nat) ((ea_i (wX8_lineFor b0 (r1 : Option Nat) (r2 : Option Nat) h) (Option.getD (ea_r (wX8_lineFor b0 (r1 : Option Nat) (r2 : Option Nat) h) (Option.getD r1 0) 9) 0) (Int32.toNatClampNeg (vX8_lineFor b0 (r1 : Option Nat) (r2 : Option Nat) h))) : Int32) (wX8_lineFor b0 (r1 : Option Nat) (r2 : Option Nat) h)) ∧ ea_c (wX8_worth b0 ((ea_r (wX8_lineFor b0 (r1 : Option Nat) (r2 : Option Nat) h) (Option.getD r1 0) 11) : Option Nat) ((ea_i (wX8_lineFor b0 (r1 : Option Nat) (r2 : Option Nat) h) (Option.getD (ea_r (wX8_lineFor b0 (r1 : Option Nat) (r2 : Option Nat) h) (Option.getD r1 0) 9) 0) (Int32.toNatClampNeg (vX8_lineFor b0 (r1 : Option Nat) (r2 : Option Nat) h))) : Int32) (wX8_lineFor b0 (r1 : Option Nat) (r2 : Option Nat) h)) (Option.getD r1 0) = 0) ∧ (r2 = some (Option.getD r2 0) ∧ (((Option.getD r2 0) < ea_n (wX8_worth b0 ((ea_r (wX8_lineFor b0 (r1 : Option Nat) (r2 : Option Nat) h) (Option.getD r1 0) 11) : Option Nat) ((ea_i (wX8_lineFor b0 (r1 : Option Nat) (r2 : Option Nat) h) (Option.getD (ea_r (wX8_lineFor b0 (r1 : Option Nat) (r2 : Option Nat) h) (Option.getD r1 0) 9) 0) (Int32.toNatClampNeg (vX8_lineFor b0 (r1 : Option Nat) (r2 : Option Nat) h))) : Int32) (wX8_lineFor b0 (r1 : Option Nat) (r2 : Option Nat) h)) ∧ ea_c (wX8_worth b0 ((ea_r (wX8_lineFor b0 (r1 : Option Nat) (r2 : Option Nat) h) (Option.getD r1 0) 11) : Option Nat) ((ea_i (wX8_lineFor b0 (r1 : Option Nat) (r2 : Option Nat) h) (Option.getD (ea_r (wX8_lineFor b0 (r1 : Option Nat) (r2 : Option Nat) h) (Option.getD r1 0) 9) 0) (Int32.toNatClampNeg (vX8_lineFor b0 (r1 : Option Nat) (r2 : Option Nat) h))) : Int32) (wX8_lineFor b0 (r1 : Option Nat) (r2 : Option Nat) h)) (Option.getD r2 0) = 4) ∧ (((ea_i (wX8_worth b0 ((ea_r (wX8_lineFor b0 (r1 : Option Nat) (r2 : Option Nat) h) (Option.getD r1 0) 11) : Option Nat) ((ea_i (wX8_lineFor b0 (r1 : Option Nat) (r2 : Option Nat) h) (Option.getD (ea_r (wX8_lineFor b0 (r1 : Option Nat) (r2 : Option Nat) h) (Option.getD r1 0) 9) 0) (Int32.toNatClampNeg (vX8_lineFor b0 (r1 : Option Nat) (r2 : Option Nat) h))) : Int32) (wX8_lineFor b0 (r1 : Option Nat) (r2 : Option Nat) h)) (Option.getD r2 0) 0) = (3 : Int32) → r1 = some (Option.getD r1 0) ∧ (((Option.getD r1 0) < ea_n (wX8_worth b0 ((ea_r (wX8_lineFor b0 (r1 : Option Nat) (r2 : Option Nat) h) (Option.getD r1 0) 11) : Option Nat) ((ea_i (wX8_lineFor b0 (r1 : Option Nat) (r2 : Option Nat) h) (Option.getD (ea_r (wX8_lineFor b0 (r1 : Option Nat) (r2 : Option Nat) h) (Option.getD r1 0) 9) 0) (Int32.toNatClampNeg (vX8_lineFor b0 (r1 : Option Nat) (r2 : Option Nat) h))) : Int32) (wX8_lineFor b0 (r1 : Option Nat) (r2 : Option Nat) h)) ∧ ea_c (wX8_worth b0 ((ea_r (wX8_lineFor b0 (r1 : Option Nat) (r2 : Option Nat) h) (Option.getD r1 0) 11) : Option Nat) ((ea_i (wX8_lineFor b0 (r1 : Option Nat) (r2 : Option Nat) h) (Option.getD (ea_r (wX8_lineFor b0 (r1 : Option Nat) (r2 : Option Nat) h) (Option.getD r1 0) 9) 0) (Int32.toNatClampNeg (vX8_lineFor b0 (r1 : Option Nat) (r2 : Option Nat) h))) : Int32) (wX8_lineFor b0 (r1 : Option Nat) (r2 : Option Nat) h)) (Option.getD r1 0) = 0) ∧ (r2 = some (Option.getD r2 0) ∧ (((Option.getD r2 0) < ea_n (wX8_worth b0 ((ea_r (wX8_lineFor b0 (r1 : Option Nat) (r2 : Option Nat) h) (Option.getD r1 0) 11) : Option Nat) ((ea_i (wX8_lineFor b0 (r1 : Option Nat) (r2 : Option Nat) h) (Option.getD (ea_r (wX8_lineFor b0 (r1 : Option Nat) (r2 : Option Nat) h) (Option.getD r1 0) 9) 0) (Int32.toNatClampNeg (vX8_lineFor b0 (r1 : Option Nat) (r2 : Option Nat) h))) : Int32) (wX8_lineFor b0 (r1 : Option Nat) (r2 : Option Nat) h)) ∧ ea_c (wX8_worth b0 ((ea_r (wX8_lineFor b0 (r1 : Option Nat) (r2 : Option Nat) h) (Option.getD r1 0) 11) : Option Nat) ((ea_i (wX8_lineFor b0 (r1 : Option Nat) (r2 : Option Nat) h) (Option.getD (ea_r (wX8_lineFor b0 (r1 : Option Nat) (r2 : Option Nat) h) (Option.getD r1 0) 9) 0) (Int32.toNatClampNeg (vX8_lineFor b0 (r1 : Option Nat) (r2 : Option Nat) h))) : Int32) (wX8_lineFor b0 (r1 : Option Nat) (r2 : Option Nat) h)) (Option.getD r2 0) = 4) ∧ (((ea_i (wX8_worth b0 ((ea_r (wX8_lineFor b0 (r1 : Option Nat) (r2 : Option Nat) h) (Option.getD r1 0) 11) : Option Nat) ((ea_i (wX8_lineFor b0 (r1 : Option Nat) (r2 : Option Nat) h) (Option.getD (ea_r (wX8_lineFor b0 (r1 : Option Nat) (r2 : Option Nat) h) (Option.getD r1 0) 9) 0) (Int32.toNatClampNeg (vX8_lineFor b0 (r1 : Option Nat) (r2 : Option Nat) h))) : Int32) (wX8_lineFor b0 (r1 : Option Nat) (r2 : Option Nat) h)) (Option.getD r2 0) 0) = (4 : Int32) → r1 = some (Option.getD r1 0) ∧ (((Option.getD r1 0) < ea_n (wX8_worth b0 ((ea_r (wX8_lineFor b0 (r1 : Option Nat) (r2 : Option Nat) h) (Option.getD r1 0) 11) : Option Nat) ((ea_i (wX8_lineFor b0 (r1 : Option Nat) (r2 : Option Nat) h) (Option.getD (ea_r (wX8_lineFor b0 (r1 : Option Nat) (r2 : Option Nat) h) (Option.getD r1 0) 9) 0) (Int32.toNatClampNeg (vX8_lineFor b0 (r1 : Option Nat) (r2 : Option Nat) h))) : Int32) (wX8_lineFor b0 (r1 : Option Nat) (r2 : Option Nat) h)) ∧ ea_c (wX8_worth b0 ((ea_r (wX8_lineFor b0 (r1 : Option Nat) (r2 : Option Nat) h) (Option.getD r1 0) 11) : Option Nat) ((ea_i (wX8_lineFor b0 (r1 : Option Nat) (r2 : Option Nat) h) (Option.getD (ea_r (wX8_lineFor b0 (r1 : Option Nat) (r2 : Option Nat) h) (Option.getD r1 0) 9) 0) (Int32.toNatClampNeg (vX8_lineFor b0 (r1 : Option Nat) (r2 : Option Nat) h))) : Int32) (wX8_lineFor b0 (r1 : Option Nat) (r2 : Option Nat) h)) (Option.getD r1 0) = 0))) ∧ (¬ (ea_i (wX8_worth b0 ((ea_r (wX8_lineFor b0 (r1 : Option Nat) (r2 : Option Nat) h) (Option.getD r1 0) 11) : Option Nat) ((ea_i (wX8_lineFor b0 (r1 : Option Nat) (r2 : Option Nat) h) (Option.getD (ea_r (wX8_lineFor b0 (r1 : Option Nat) (r2 : Option Nat) h) (Option.getD r1 0) 9) 0) (Int32.toNatClampNeg (vX8_lineFor b0 (r1 : Option Nat) (r2 : Option Nat) h))) : Int32) (wX8_lineFor b0 (r1 : Option Nat) (r2 : Option Nat) h)) (Option.getD r2 0) 0) = (4 : Int32) → True)))))) ∧ (¬ (ea_i (wX8_worth b0 ((ea_r (wX8_lineFor b0 (r1 : Option Nat) (r2 : Option Nat) h) (Option.getD r1 0) 11) : Option Nat) ((ea_i (wX8_lineFor b0 (r1 : Option Nat) (r2 : Option Nat) h) (Option.getD (ea_r (wX8_lineFor b0 (r1 : Option Nat) (r2 : Option Nat) h) (Option.getD r1 0) 9) 0) (Int32.toNatClampNeg (vX8_lineFor b0 (r1 : Option Nat) (r2 : Option Nat) h))) : Int32) (wX8_lineFor b0 (r1 : Option Nat) (r2 : Option Nat) h)) (Option.getD r2 0) 0) = (3 : Int32) → r2 = some (Option.getD r2 0) ∧ (((Option.getD r2 0) < ea_n (wX8_worth b0 ((ea_r (wX8_lineFor b0 (r1 : Option Nat) (r2 : Option Nat) h) (Option.getD r1 0) 11) : Option Nat) ((ea_i (wX8_lineFor b0 (r1 : Option Nat) (r2 : Option Nat) h) (Option.getD (ea_r (wX8_lineFor b0 (r1 : Option Nat) (r2 : Option Nat) h) (Option.getD r1 0) 9) 0) (Int32.toNatClampNeg (vX8_lineFor b0 (r1 : Option Nat) (r2 : Option Nat) h))) : Int32) (wX8_lineFor b0 (r1 : Option Nat) (r2 : Option Nat) h)) ∧ ea_c (wX8_worth b0 ((ea_r (wX8_lineFor b0 (r1 : Option Nat) (r2 : Option Nat) h) (Option.getD r1 0) 11) : Option Nat) ((ea_i (wX8_lineFor b0 (r1 : Option Nat) (r2 : Option Nat) h) (Option.getD (ea_r (wX8_lineFor b0 (r1 : Option Nat) (r2 : Option Nat) h) (Option.getD r1 0) 9) 0) (Int32.toNatClampNeg (vX8_lineFor b0 (r1 : Option Nat) (r2 : Option Nat) h))) : Int32) (wX8_lineFor b0 (r1 : Option Nat) (r2 : Option Nat) h)) (Option.getD r2 0) = 4) ∧ (((ea_i (wX8_worth b0 ((ea_r (wX8_lineFor b0 (r1 : Option Nat) (r2 : Option Nat) h) (Option.getD r1 0) 11) : Option Nat) ((ea_i (wX8_lineFor b0 (r1 : Option Nat) (r2 : Option Nat) h) (Option.getD (ea_r (wX8_lineFor b0 (r1 : Option Nat) (r2 : Option Nat) h) (Option.getD r1 0) 9) 0) (Int32.toNatClampNeg (vX8_lineFor b0 (r1 : Option Nat) (r2 : Option Nat) h))) : Int32) (wX8_lineFor b0 (r1 : Option Nat) (r2 : Option Nat) h)) (Option.getD r2 0) 0) = (4 : Int32) → r1 = some (Option.getD r1 0) ∧ (((Option.getD r1 0) < ea_n (wX8_worth b0 ((ea_r (wX8_lineFor b0 (r1 : Option Nat) (r2 : Option Nat) h) (Option.getD r1 0) 11) : Option Nat) ((ea_i (wX8_lineFor b0 (r1 : Option Nat) (r2 : Option Nat) h) (Option.getD (ea_r (wX8_lineFor b0 (r1 : Option Nat) (r2 : Option Nat) h) (Option.getD r1 0) 9) 0) (Int32.toNatClampNeg (vX8_lineFor b0 (r1 : Option Nat) (r2 : Option Nat) h))) : Int32) (wX8_lineFor b0 (r1 : Option Nat) (r2 : Option Nat) h)) ∧ ea_c (wX8_worth b0 ((ea_r (wX8_lineFor b0 (r1 : Option Nat) (r2 : Option Nat) h) (Option.getD r1 0) 11) : Option Nat) ((ea_i (wX8_lineFor b0 (r1 : Option Nat) (r2 : Option Nat) h) (Option.getD (ea_r (wX8_lineFor b0 (r1 : Option Nat) (r2 : Option Nat) h) (Option.getD r1 0) 9) 0) (Int32.toNatClampNeg (vX8_lineFor b0 (r1 : Option Nat) (r2 : Option Nat) h))) : Int32) (wX8_lineFor b0 (r1 : Option Nat) (r2 : Option Nat) h)) (Option.getD r1 0) = 0))) ∧ (¬ (ea_i (wX8_worth b0 ((ea_r (wX8_lineFor b0 (r1 : Option Nat) (r2 : Option Nat) h) (Option.getD r1 0) 11) : Option Nat) ((ea_i (wX8_lineFor b0 (r1 : Option Nat) (r2 : Option Nat) h) (Option.getD (ea_r (wX8_lineFor b0 (r1 : Option Nat) (r2 : Option Nat) h) (Option.getD r1 0) 9) 0) (Int32.toNatClampNeg (vX8_lineFor b0 (r1 : Option Nat) (r2 : Option Nat) h))) : Int32) (wX8_lineFor b0 (r1 : Option Nat) (r2 : Option Nat) h)) (Option.getD r2 0) 0) = (4 : Int32) → True)))))))))))))))))))))))) ∧ (¬ (vX8_isFree (r1 : Option Nat) (r2 : Option Nat) h) = (0 : Int32) → True))
theorem shX8_chargeBy {b0 : Nat} {r1 : Option Nat} {r2 : Option Nat} {h : ea_H} (hs : ShC b0 h) : ShC b0 (wX8_chargeBy b0 r1 r2 h) := (ShC_it (ShC_it (shX8_lineFor hs) (shX8_worth (shX8_lineFor hs))) hs)
theorem sX8_chargeBy {d : Nat} {b0 : Nat} {r1 : Option Nat} {r2 : Option Nat} {h : ea_H} (hd : 4 ≤ d) (hs : ShC b0 h) (K : okX8_chargeBy b0 r1 r2 h) : ea_Met mX8_chargeBy d [vR (some (b0 + 21)), vR r1, vR r2] h (some (vI (vX8_chargeBy b0 r1 r2 h))) (wX8_chargeBy b0 r1 r2 h) := by
  obtain ⟨X, EX⟩ : ∃ z, z = vX8_chargeBy b0 r1 r2 h := ⟨_, rfl⟩
  rw [← EX]
  unfold vX8_chargeBy at EX
  obtain ⟨Y, EY⟩ : ∃ z, z = wX8_chargeBy b0 r1 r2 h := ⟨_, rfl⟩
  rw [← EY]
  unfold wX8_chargeBy at EY
  unfold okX8_chargeBy at K
  refine ea_enter rfl (Nat.le_of_ble_eq_true rfl) ?_
  refine ea_aload_n (pc := 0) dX8_chargeBy_0 rfl 1 rfl ?_
  refine ea_aload_n (pc := 1) dX8_chargeBy_1 rfl 2 rfl ?_
  obtain ⟨z1, K⟩ := K
  refine ea_callS (pc := 2) (d' := d - 1) (As := [vR r1, vR r2]) (st := []) dX8_chargeBy_2 kX8_isFree (sX8_isFree (d := d - 1) (by omega) z1) (by omega) rfl (Nat.le_of_ble_eq_true rfl) ew_1043 ew_1044 ?_
  refine ea_if_eq (pc := 5) (tgt := 10) dX8_chargeBy_5 rfl (fun c90 => ?_) (fun c90 => ?_)
  · have EX := EX.trans (if_pos c90)
    have EY := EY.trans (if_pos c90)
    have K := K.1 c90
    refine ea_aload_n (pc := 10) dX8_chargeBy_10 rfl 0 rfl ?_
    refine ea_aload_n (pc := 11) dX8_chargeBy_11 rfl 1 rfl ?_
    refine ea_aload_n (pc := 12) dX8_chargeBy_12 rfl 2 rfl ?_
    obtain ⟨z2, K⟩ := K
    refine ea_callV (pc := 13) (d' := d - 1) (As := [vR r1, vR r2]) (st := []) dX8_chargeBy_13 kX8_lineFor (sX8_lineFor (d := d - 1) (by omega) hs z2) (by omega) rfl (Nat.le_of_ble_eq_true rfl) ew_1050 ew_1052 ew_34 (ci := 8) rfl (by decide) (hs.1 21 (by decide)).1 (hs.1 21 (by decide)).2.1 ?_
    have hs3 : ShC b0 (wX8_lineFor b0 (r1 : Option Nat) (r2 : Option Nat) h) := shX8_lineFor hs
    refine ea_istore_n (pc := 16) (lv' := [(0, vR (some (b0 + 21))), (1, vR r1), (2, vR r2), (3, vI (vX8_lineFor b0 (r1 : Option Nat) (r2 : Option Nat) h))]) dX8_chargeBy_16 rfl (Nat.le_of_ble_eq_true rfl) [1, 2, 3, 0] rfl ?_
    refine ea_iconst (pc := 17) dX8_chargeBy_17 (v := 0) rfl ?_
    refine ea_istore (pc := 18) (lv' := [(0, vR (some (b0 + 21))), (1, vR r1), (2, vR r2), (3, vI (vX8_lineFor b0 (r1 : Option Nat) (r2 : Option Nat) h)), (4, vI 0)]) dX8_chargeBy_18 (Nat.le_of_ble_eq_true rfl) [1, 2, 3, 4, 0] rfl ?_
    refine ea_iload_n (pc := 20) dX8_chargeBy_20 rfl 3 rfl ?_
    refine ea_iconst (pc := 21) dX8_chargeBy_21 (v := (-1)) rfl ?_
    refine ea_icmp_eq (pc := 22) (tgt := 50) dX8_chargeBy_22 rfl (fun c89 => ?_) (fun c89 => ?_)
    · have EX := EX.trans (if_pos c89)
      have EY := EY.trans (if_pos c89)
      have K := K.1 c89
      refine ea_aload_n (pc := 50) dX8_chargeBy_50 rfl 2 rfl ?_
      obtain ⟨e4, f5, K⟩ := K
      refine ea_deref0 e4 ?_
      refine ea_getI (pc := 51) dX8_chargeBy_51 ec_4 (k := 6) (Nat.le_of_ble_eq_true rfl) rfl (Or.inl ew_950) f5.1 f5.2 ?_
      refine ea_sipush (pc := 54) dX8_chargeBy_54 (v := 1440) rfl ?_
      refine ea_irem (pc := 57) dX8_chargeBy_57 (by decide) ?_
      refine ea_aload_n (pc := 58) dX8_chargeBy_58 rfl 1 rfl ?_
      obtain ⟨e6, f7, K⟩ := K
      refine ea_deref0 e6 ?_
      refine ea_getI (pc := 59) dX8_chargeBy_59 ec_0 (k := 3) (Nat.le_of_ble_eq_true rfl) rfl (Or.inl ew_801) f7.1 f7.2 ?_
      refine ea_icmp_le (pc := 62) (tgt := 74) dX8_chargeBy_62 rfl (fun c40 => ?_) (fun c40 => ?_)
      · have EX := EX.trans (if_pos c40)
        have K := K.1 c40
        refine ea_aload_n (pc := 74) dX8_chargeBy_74 rfl 2 rfl ?_
        obtain ⟨e8, f9, K⟩ := K
        refine ea_deref0 e8 ?_
        refine ea_getI (pc := 75) dX8_chargeBy_75 ec_4 (k := 0) (Nat.le_of_ble_eq_true rfl) rfl (Or.inl ew_934) f9.1 f9.2 ?_
        refine ea_iconst (pc := 78) dX8_chargeBy_78 (v := 3) rfl ?_
        refine ea_icmp_ne (pc := 79) (tgt := 91) dX8_chargeBy_79 rfl (fun c22 => ?_) (fun c22 => ?_)
        · have EX := EX.trans (if_neg c22)
          have K := K.2 c22
          refine ea_aload_n (pc := 91) dX8_chargeBy_91 rfl 2 rfl ?_
          obtain ⟨e10, f11, K⟩ := K
          refine ea_deref0 e10 ?_
          refine ea_getI (pc := 92) dX8_chargeBy_92 ec_4 (k := 0) (Nat.le_of_ble_eq_true rfl) rfl (Or.inl ew_934) f11.1 f11.2 ?_
          refine ea_iconst (pc := 95) dX8_chargeBy_95 (v := 4) rfl ?_
          refine ea_icmp_ne (pc := 96) (tgt := 108) dX8_chargeBy_96 rfl (fun c14 => ?_) (fun c14 => ?_)
          · have EX := EX.trans (if_neg c14)
            refine ea_iload (pc := 108) dX8_chargeBy_108 4 rfl ?_
            subst EX
            subst EY
            exact ea_ireturn (pc := 110) dX8_chargeBy_110 rfl rfl
          · have EX := EX.trans (if_pos c14)
            have K := K.1 c14
            refine ea_iload (pc := 99) dX8_chargeBy_99 4 rfl ?_
            refine ea_aload_n (pc := 101) dX8_chargeBy_101 rfl 1 rfl ?_
            obtain ⟨e12, f13⟩ := K
            refine ea_deref0 e12 ?_
            refine ea_getI (pc := 102) dX8_chargeBy_102 ec_0 (k := 6) (Nat.le_of_ble_eq_true rfl) rfl (Or.inl ew_810) f13.1 f13.2 ?_
            refine ea_iadd (pc := 105) dX8_chargeBy_105 ?_
            refine ea_istore (pc := 106) (lv' := [(4, vI ((0 : Int32) + (ea_i (wX8_lineFor b0 (r1 : Option Nat) (r2 : Option Nat) h) (Option.getD r1 0) 6)))]) dX8_chargeBy_106 (Nat.le_of_ble_eq_true rfl) [0] rfl ?_
            refine ea_iload (pc := 108) dX8_chargeBy_108 0 rfl ?_
            subst EX
            subst EY
            exact ea_ireturn (pc := 110) dX8_chargeBy_110 rfl rfl
        · have EX := EX.trans (if_pos c22)
          have K := K.1 c22
          refine ea_iload (pc := 82) dX8_chargeBy_82 4 rfl ?_
          refine ea_aload_n (pc := 84) dX8_chargeBy_84 rfl 1 rfl ?_
          obtain ⟨e15, f16, K⟩ := K
          refine ea_deref0 e15 ?_
          refine ea_getI (pc := 85) dX8_chargeBy_85 ec_0 (k := 5) (Nat.le_of_ble_eq_true rfl) rfl (Or.inl ew_807) f16.1 f16.2 ?_
          refine ea_iadd (pc := 88) dX8_chargeBy_88 ?_
          refine ea_istore (pc := 89) (lv' := [(1, vR r1), (2, vR r2), (4, vI ((0 : Int32) + (ea_i (wX8_lineFor b0 (r1 : Option Nat) (r2 : Option Nat) h) (Option.getD r1 0) 5)))]) dX8_chargeBy_89 (Nat.le_of_ble_eq_true rfl) [2, 3, 0] rfl ?_
          refine ea_aload_n (pc := 91) dX8_chargeBy_91 rfl 1 rfl ?_
          obtain ⟨e17, f18, K⟩ := K
          refine ea_deref0 e17 ?_
          refine ea_getI (pc := 92) dX8_chargeBy_92 ec_4 (k := 0) (Nat.le_of_ble_eq_true rfl) rfl (Or.inl ew_934) f18.1 f18.2 ?_
          refine ea_iconst (pc := 95) dX8_chargeBy_95 (v := 4) rfl ?_
          refine ea_icmp_ne (pc := 96) (tgt := 108) dX8_chargeBy_96 rfl (fun c21 => ?_) (fun c21 => ?_)
          · have EX := EX.trans (if_neg c21)
            refine ea_iload (pc := 108) dX8_chargeBy_108 2 rfl ?_
            subst EX
            subst EY
            exact ea_ireturn (pc := 110) dX8_chargeBy_110 rfl rfl
          · have EX := EX.trans (if_pos c21)
            have K := K.1 c21
            refine ea_iload (pc := 99) dX8_chargeBy_99 2 rfl ?_
            refine ea_aload_n (pc := 101) dX8_chargeBy_101 rfl 0 rfl ?_
            obtain ⟨e19, f20⟩ := K
            refine ea_deref0 e19 ?_
            refine ea_getI (pc := 102) dX8_chargeBy_102 ec_0 (k := 6) (Nat.le_of_ble_eq_true rfl) rfl (Or.inl ew_810) f20.1 f20.2 ?_
            refine ea_iadd (pc := 105) dX8_chargeBy_105 ?_
            refine ea_istore (pc := 106) (lv' := [(4, vI (((0 : Int32) + (ea_i (wX8_lineFor b0 (r1 : Option Nat) (r2 : Option Nat) h) (Option.getD r1 0) 5)) + (ea_i (wX8_lineFor b0 (r1 : Option Nat) (r2 : Option Nat) h) (Option.getD r1 0) 6)))]) dX8_chargeBy_106 (Nat.le_of_ble_eq_true rfl) [0] rfl ?_
            refine ea_iload (pc := 108) dX8_chargeBy_108 0 rfl ?_
            subst EX
            subst EY
            exact ea_ireturn (pc := 110) dX8_chargeBy_110 rfl rfl
      · have EX := EX.trans (if_neg c40)
        have K := K.2 c40
        refine ea_iload (pc := 65) dX8_chargeBy_65 4 rfl ?_
        refine ea_aload_n (pc := 67) dX8_chargeBy_67 rfl 1 rfl ?_
        obtain ⟨e23, f24, K⟩ := K
        refine ea_deref0 e23 ?_
        refine ea_getI (pc := 68) dX8_chargeBy_68 ec_0 (k := 2) (Nat.le_of_ble_eq_true rfl) rfl (Or.inl ew_797) f24.1 f24.2 ?_
        refine ea_iadd (pc := 71) dX8_chargeBy_71 ?_
        refine ea_istore (pc := 72) (lv' := [(1, vR r1), (2, vR r2), (4, vI ((0 : Int32) + (ea_i (wX8_lineFor b0 (r1 : Option Nat) (r2 : Option Nat) h) (Option.getD r1 0) 2)))]) dX8_chargeBy_72 (Nat.le_of_ble_eq_true rfl) [2, 3, 0] rfl ?_
        refine ea_aload_n (pc := 74) dX8_chargeBy_74 rfl 1 rfl ?_
        obtain ⟨e25, f26, K⟩ := K
        refine ea_deref0 e25 ?_
        refine ea_getI (pc := 75) dX8_chargeBy_75 ec_4 (k := 0) (Nat.le_of_ble_eq_true rfl) rfl (Or.inl ew_934) f26.1 f26.2 ?_
        refine ea_iconst (pc := 78) dX8_chargeBy_78 (v := 3) rfl ?_
        refine ea_icmp_ne (pc := 79) (tgt := 91) dX8_chargeBy_79 rfl (fun c39 => ?_) (fun c39 => ?_)
        · have EX := EX.trans (if_neg c39)
          have K := K.2 c39
          refine ea_aload_n (pc := 91) dX8_chargeBy_91 rfl 1 rfl ?_
          obtain ⟨e27, f28, K⟩ := K
          refine ea_deref0 e27 ?_
          refine ea_getI (pc := 92) dX8_chargeBy_92 ec_4 (k := 0) (Nat.le_of_ble_eq_true rfl) rfl (Or.inl ew_934) f28.1 f28.2 ?_
          refine ea_iconst (pc := 95) dX8_chargeBy_95 (v := 4) rfl ?_
          refine ea_icmp_ne (pc := 96) (tgt := 108) dX8_chargeBy_96 rfl (fun c31 => ?_) (fun c31 => ?_)
          · have EX := EX.trans (if_neg c31)
            refine ea_iload (pc := 108) dX8_chargeBy_108 2 rfl ?_
            subst EX
            subst EY
            exact ea_ireturn (pc := 110) dX8_chargeBy_110 rfl rfl
          · have EX := EX.trans (if_pos c31)
            have K := K.1 c31
            refine ea_iload (pc := 99) dX8_chargeBy_99 2 rfl ?_
            refine ea_aload_n (pc := 101) dX8_chargeBy_101 rfl 0 rfl ?_
            obtain ⟨e29, f30⟩ := K
            refine ea_deref0 e29 ?_
            refine ea_getI (pc := 102) dX8_chargeBy_102 ec_0 (k := 6) (Nat.le_of_ble_eq_true rfl) rfl (Or.inl ew_810) f30.1 f30.2 ?_
            refine ea_iadd (pc := 105) dX8_chargeBy_105 ?_
            refine ea_istore (pc := 106) (lv' := [(4, vI (((0 : Int32) + (ea_i (wX8_lineFor b0 (r1 : Option Nat) (r2 : Option Nat) h) (Option.getD r1 0) 2)) + (ea_i (wX8_lineFor b0 (r1 : Option Nat) (r2 : Option Nat) h) (Option.getD r1 0) 6)))]) dX8_chargeBy_106 (Nat.le_of_ble_eq_true rfl) [0] rfl ?_
            refine ea_iload (pc := 108) dX8_chargeBy_108 0 rfl ?_
            subst EX
            subst EY
            exact ea_ireturn (pc := 110) dX8_chargeBy_110 rfl rfl
        · have EX := EX.trans (if_pos c39)
          have K := K.1 c39
          refine ea_iload (pc := 82) dX8_chargeBy_82 2 rfl ?_
          refine ea_aload_n (pc := 84) dX8_chargeBy_84 rfl 0 rfl ?_
          obtain ⟨e32, f33, K⟩ := K
          refine ea_deref0 e32 ?_
          refine ea_getI (pc := 85) dX8_chargeBy_85 ec_0 (k := 5) (Nat.le_of_ble_eq_true rfl) rfl (Or.inl ew_807) f33.1 f33.2 ?_
          refine ea_iadd (pc := 88) dX8_chargeBy_88 ?_
          refine ea_istore (pc := 89) (lv' := [(1, vR r1), (2, vR r2), (4, vI (((0 : Int32) + (ea_i (wX8_lineFor b0 (r1 : Option Nat) (r2 : Option Nat) h) (Option.getD r1 0) 2)) + (ea_i (wX8_lineFor b0 (r1 : Option Nat) (r2 : Option Nat) h) (Option.getD r1 0) 5)))]) dX8_chargeBy_89 (Nat.le_of_ble_eq_true rfl) [1, 2, 0] rfl ?_
          refine ea_aload_n (pc := 91) dX8_chargeBy_91 rfl 1 rfl ?_
          obtain ⟨e34, f35, K⟩ := K
          refine ea_deref0 e34 ?_
          refine ea_getI (pc := 92) dX8_chargeBy_92 ec_4 (k := 0) (Nat.le_of_ble_eq_true rfl) rfl (Or.inl ew_934) f35.1 f35.2 ?_
          refine ea_iconst (pc := 95) dX8_chargeBy_95 (v := 4) rfl ?_
          refine ea_icmp_ne (pc := 96) (tgt := 108) dX8_chargeBy_96 rfl (fun c38 => ?_) (fun c38 => ?_)
          · have EX := EX.trans (if_neg c38)
            refine ea_iload (pc := 108) dX8_chargeBy_108 2 rfl ?_
            subst EX
            subst EY
            exact ea_ireturn (pc := 110) dX8_chargeBy_110 rfl rfl
          · have EX := EX.trans (if_pos c38)
            have K := K.1 c38
            refine ea_iload (pc := 99) dX8_chargeBy_99 2 rfl ?_
            refine ea_aload_n (pc := 101) dX8_chargeBy_101 rfl 0 rfl ?_
            obtain ⟨e36, f37⟩ := K
            refine ea_deref0 e36 ?_
            refine ea_getI (pc := 102) dX8_chargeBy_102 ec_0 (k := 6) (Nat.le_of_ble_eq_true rfl) rfl (Or.inl ew_810) f37.1 f37.2 ?_
            refine ea_iadd (pc := 105) dX8_chargeBy_105 ?_
            refine ea_istore (pc := 106) (lv' := [(4, vI ((((0 : Int32) + (ea_i (wX8_lineFor b0 (r1 : Option Nat) (r2 : Option Nat) h) (Option.getD r1 0) 2)) + (ea_i (wX8_lineFor b0 (r1 : Option Nat) (r2 : Option Nat) h) (Option.getD r1 0) 5)) + (ea_i (wX8_lineFor b0 (r1 : Option Nat) (r2 : Option Nat) h) (Option.getD r1 0) 6)))]) dX8_chargeBy_106 (Nat.le_of_ble_eq_true rfl) [0] rfl ?_
            refine ea_iload (pc := 108) dX8_chargeBy_108 0 rfl ?_
            subst EX
            subst EY
            exact ea_ireturn (pc := 110) dX8_chargeBy_110 rfl rfl
    · have EX := EX.trans (if_neg c89)
      have EY := EY.trans (if_neg c89)
      have K := K.2 c89
      refine ea_aload_n (pc := 25) dX8_chargeBy_25 rfl 0 rfl ?_
      refine ea_aload_n (pc := 26) dX8_chargeBy_26 rfl 1 rfl ?_
      obtain ⟨e41, f42, K⟩ := K
      refine ea_deref0 e41 ?_
      refine ea_getR (pc := 27) dX8_chargeBy_27 ec_0 (k := 11) (Nat.le_of_ble_eq_true rfl) rfl (Or.inl ew_825) f42.1 f42.2 rfl ?_
      refine ea_aload_n (pc := 30) dX8_chargeBy_30 rfl 1 rfl ?_
      obtain ⟨e43, f44, K⟩ := K
      refine ea_deref0 e43 ?_
      refine ea_getR (pc := 31) dX8_chargeBy_31 ec_0 (k := 9) (Nat.le_of_ble_eq_true rfl) rfl (Or.inl ew_820) f44.1 f44.2 rfl ?_
      refine ea_iload_n (pc := 34) dX8_chargeBy_34 rfl 3 rfl ?_
      obtain ⟨e45, f46, z47, K⟩ := K
      refine ea_deref1 e45 ?_
      refine ea_iald (pc := 35) dX8_chargeBy_35 f46.1 f46.2 z47 ?_
      obtain ⟨z48, K⟩ := K
      refine ea_callV (pc := 36) (d' := d - 1) (As := [vR (ea_r (wX8_lineFor b0 (r1 : Option Nat) (r2 : Option Nat) h) (Option.getD r1 0) 11), vI (ea_i (wX8_lineFor b0 (r1 : Option Nat) (r2 : Option Nat) h) (Option.getD (ea_r (wX8_lineFor b0 (r1 : Option Nat) (r2 : Option Nat) h) (Option.getD r1 0) 9) 0) (Int32.toNatClampNeg (vX8_lineFor b0 (r1 : Option Nat) (r2 : Option Nat) h)))]) (st := []) dX8_chargeBy_36 kX8_worth (sX8_worth (d := d - 1) (by omega) hs3 z48) (by omega) rfl (Nat.le_of_ble_eq_true rfl) ew_1058 ew_1060 ew_36 (ci := 8) rfl (by decide) (hs3.1 21 (by decide)).1 (hs3.1 21 (by decide)).2.1 ?_
      have hs49 : ShC b0 (wX8_worth b0 ((ea_r (wX8_lineFor b0 (r1 : Option Nat) (r2 : Option Nat) h) (Option.getD r1 0) 11) : Option Nat) ((ea_i (wX8_lineFor b0 (r1 : Option Nat) (r2 : Option Nat) h) (Option.getD (ea_r (wX8_lineFor b0 (r1 : Option Nat) (r2 : Option Nat) h) (Option.getD r1 0) 9) 0) (Int32.toNatClampNeg (vX8_lineFor b0 (r1 : Option Nat) (r2 : Option Nat) h))) : Int32) (wX8_lineFor b0 (r1 : Option Nat) (r2 : Option Nat) h)) := shX8_worth hs3
      refine ea_iconst (pc := 39) dX8_chargeBy_39 (v := 0) rfl ?_
      refine ea_callS (pc := 40) (d' := d - 1) (As := [vI (vX8_worth b0 ((ea_r (wX8_lineFor b0 (r1 : Option Nat) (r2 : Option Nat) h) (Option.getD r1 0) 11) : Option Nat) ((ea_i (wX8_lineFor b0 (r1 : Option Nat) (r2 : Option Nat) h) (Option.getD (ea_r (wX8_lineFor b0 (r1 : Option Nat) (r2 : Option Nat) h) (Option.getD r1 0) 9) 0) (Int32.toNatClampNeg (vX8_lineFor b0 (r1 : Option Nat) (r2 : Option Nat) h))) : Int32) (wX8_lineFor b0 (r1 : Option Nat) (r2 : Option Nat) h)), vI 0]) (st := []) dX8_chargeBy_40 kJ9_max_7cf53 (sJ9_max_7cf53 (d := d - 1) (by omega)) (by omega) rfl (Nat.le_of_ble_eq_true rfl) ew_1065 ew_1022 ?_
      refine ea_ldc (pc := 43) dX8_chargeBy_43 ew_1066 ?_
      refine ea_callS (pc := 45) (d' := d - 1) (As := [vI (vJ9_max_7cf53 ((vX8_worth b0 ((ea_r (wX8_lineFor b0 (r1 : Option Nat) (r2 : Option Nat) h) (Option.getD r1 0) 11) : Option Nat) ((ea_i (wX8_lineFor b0 (r1 : Option Nat) (r2 : Option Nat) h) (Option.getD (ea_r (wX8_lineFor b0 (r1 : Option Nat) (r2 : Option Nat) h) (Option.getD r1 0) 9) 0) (Int32.toNatClampNeg (vX8_lineFor b0 (r1 : Option Nat) (r2 : Option Nat) h))) : Int32) (wX8_lineFor b0 (r1 : Option Nat) (r2 : Option Nat) h)) : Int32) (0 : Int32) (wX8_worth b0 ((ea_r (wX8_lineFor b0 (r1 : Option Nat) (r2 : Option Nat) h) (Option.getD r1 0) 11) : Option Nat) ((ea_i (wX8_lineFor b0 (r1 : Option Nat) (r2 : Option Nat) h) (Option.getD (ea_r (wX8_lineFor b0 (r1 : Option Nat) (r2 : Option Nat) h) (Option.getD r1 0) 9) 0) (Int32.toNatClampNeg (vX8_lineFor b0 (r1 : Option Nat) (r2 : Option Nat) h))) : Int32) (wX8_lineFor b0 (r1 : Option Nat) (r2 : Option Nat) h))), vI 99999]) (st := []) dX8_chargeBy_45 kJ9_min_7cf53 (sJ9_min_7cf53 (d := d - 1) (by omega)) (by omega) rfl (Nat.le_of_ble_eq_true rfl) ew_1067 ew_154 ?_
      refine ea_istore (pc := 48) (lv' := [(1, vR r1), (2, vR r2), (4, vI (vJ9_min_7cf53 ((vJ9_max_7cf53 ((vX8_worth b0 ((ea_r (wX8_lineFor b0 (r1 : Option Nat) (r2 : Option Nat) h) (Option.getD r1 0) 11) : Option Nat) ((ea_i (wX8_lineFor b0 (r1 : Option Nat) (r2 : Option Nat) h) (Option.getD (ea_r (wX8_lineFor b0 (r1 : Option Nat) (r2 : Option Nat) h) (Option.getD r1 0) 9) 0) (Int32.toNatClampNeg (vX8_lineFor b0 (r1 : Option Nat) (r2 : Option Nat) h))) : Int32) (wX8_lineFor b0 (r1 : Option Nat) (r2 : Option Nat) h)) : Int32) (0 : Int32) (wX8_worth b0 ((ea_r (wX8_lineFor b0 (r1 : Option Nat) (r2 : Option Nat) h) (Option.getD r1 0) 11) : Option Nat) ((ea_i (wX8_lineFor b0 (r1 : Option Nat) (r2 : Option Nat) h) (Option.getD (ea_r (wX8_lineFor b0 (r1 : Option Nat) (r2 : Option Nat) h) (Option.getD r1 0) 9) 0) (Int32.toNatClampNeg (vX8_lineFor b0 (r1 : Option Nat) (r2 : Option Nat) h))) : Int32) (wX8_lineFor b0 (r1 : Option Nat) (r2 : Option Nat) h))) : Int32) (99999 : Int32) (wX8_worth b0 ((ea_r (wX8_lineFor b0 (r1 : Option Nat) (r2 : Option Nat) h) (Option.getD r1 0) 11) : Option Nat) ((ea_i (wX8_lineFor b0 (r1 : Option Nat) (r2 : Option Nat) h) (Option.getD (ea_r (wX8_lineFor b0 (r1 : Option Nat) (r2 : Option Nat) h) (Option.getD r1 0) 9) 0) (Int32.toNatClampNeg (vX8_lineFor b0 (r1 : Option Nat) (r2 : Option Nat) h))) : Int32) (wX8_lineFor b0 (r1 : Option Nat) (r2 : Option Nat) h))))]) dX8_chargeBy_48 (Nat.le_of_ble_eq_true rfl) [2, 3, 0] rfl ?_
      refine ea_aload_n (pc := 50) dX8_chargeBy_50 rfl 1 rfl ?_
      obtain ⟨e52, f53, K⟩ := K
      refine ea_deref0 e52 ?_
      refine ea_getI (pc := 51) dX8_chargeBy_51 ec_4 (k := 6) (Nat.le_of_ble_eq_true rfl) rfl (Or.inl ew_950) f53.1 f53.2 ?_
      refine ea_sipush (pc := 54) dX8_chargeBy_54 (v := 1440) rfl ?_
      refine ea_irem (pc := 57) dX8_chargeBy_57 (by decide) ?_
      refine ea_aload_n (pc := 58) dX8_chargeBy_58 rfl 0 rfl ?_
      obtain ⟨e54, f55, K⟩ := K
      refine ea_deref0 e54 ?_
      refine ea_getI (pc := 59) dX8_chargeBy_59 ec_0 (k := 3) (Nat.le_of_ble_eq_true rfl) rfl (Or.inl ew_801) f55.1 f55.2 ?_
      refine ea_icmp_le (pc := 62) (tgt := 74) dX8_chargeBy_62 rfl (fun c88 => ?_) (fun c88 => ?_)
      · have EX := EX.trans (if_pos c88)
        have K := K.1 c88
        refine ea_aload_n (pc := 74) dX8_chargeBy_74 rfl 1 rfl ?_
        obtain ⟨e56, f57, K⟩ := K
        refine ea_deref0 e56 ?_
        refine ea_getI (pc := 75) dX8_chargeBy_75 ec_4 (k := 0) (Nat.le_of_ble_eq_true rfl) rfl (Or.inl ew_934) f57.1 f57.2 ?_
        refine ea_iconst (pc := 78) dX8_chargeBy_78 (v := 3) rfl ?_
        refine ea_icmp_ne (pc := 79) (tgt := 91) dX8_chargeBy_79 rfl (fun c70 => ?_) (fun c70 => ?_)
        · have EX := EX.trans (if_neg c70)
          have K := K.2 c70
          refine ea_aload_n (pc := 91) dX8_chargeBy_91 rfl 1 rfl ?_
          obtain ⟨e58, f59, K⟩ := K
          refine ea_deref0 e58 ?_
          refine ea_getI (pc := 92) dX8_chargeBy_92 ec_4 (k := 0) (Nat.le_of_ble_eq_true rfl) rfl (Or.inl ew_934) f59.1 f59.2 ?_
          refine ea_iconst (pc := 95) dX8_chargeBy_95 (v := 4) rfl ?_
          refine ea_icmp_ne (pc := 96) (tgt := 108) dX8_chargeBy_96 rfl (fun c62 => ?_) (fun c62 => ?_)
          · have EX := EX.trans (if_neg c62)
            refine ea_iload (pc := 108) dX8_chargeBy_108 2 rfl ?_
            subst EX
            subst EY
            exact ea_ireturn (pc := 110) dX8_chargeBy_110 rfl rfl
          · have EX := EX.trans (if_pos c62)
            have K := K.1 c62
            refine ea_iload (pc := 99) dX8_chargeBy_99 2 rfl ?_
            refine ea_aload_n (pc := 101) dX8_chargeBy_101 rfl 0 rfl ?_
            obtain ⟨e60, f61⟩ := K
            refine ea_deref0 e60 ?_
            refine ea_getI (pc := 102) dX8_chargeBy_102 ec_0 (k := 6) (Nat.le_of_ble_eq_true rfl) rfl (Or.inl ew_810) f61.1 f61.2 ?_
            refine ea_iadd (pc := 105) dX8_chargeBy_105 ?_
            refine ea_istore (pc := 106) (lv' := [(4, vI ((vJ9_min_7cf53 ((vJ9_max_7cf53 ((vX8_worth b0 ((ea_r (wX8_lineFor b0 (r1 : Option Nat) (r2 : Option Nat) h) (Option.getD r1 0) 11) : Option Nat) ((ea_i (wX8_lineFor b0 (r1 : Option Nat) (r2 : Option Nat) h) (Option.getD (ea_r (wX8_lineFor b0 (r1 : Option Nat) (r2 : Option Nat) h) (Option.getD r1 0) 9) 0) (Int32.toNatClampNeg (vX8_lineFor b0 (r1 : Option Nat) (r2 : Option Nat) h))) : Int32) (wX8_lineFor b0 (r1 : Option Nat) (r2 : Option Nat) h)) : Int32) (0 : Int32) (wX8_worth b0 ((ea_r (wX8_lineFor b0 (r1 : Option Nat) (r2 : Option Nat) h) (Option.getD r1 0) 11) : Option Nat) ((ea_i (wX8_lineFor b0 (r1 : Option Nat) (r2 : Option Nat) h) (Option.getD (ea_r (wX8_lineFor b0 (r1 : Option Nat) (r2 : Option Nat) h) (Option.getD r1 0) 9) 0) (Int32.toNatClampNeg (vX8_lineFor b0 (r1 : Option Nat) (r2 : Option Nat) h))) : Int32) (wX8_lineFor b0 (r1 : Option Nat) (r2 : Option Nat) h))) : Int32) (99999 : Int32) (wX8_worth b0 ((ea_r (wX8_lineFor b0 (r1 : Option Nat) (r2 : Option Nat) h) (Option.getD r1 0) 11) : Option Nat) ((ea_i (wX8_lineFor b0 (r1 : Option Nat) (r2 : Option Nat) h) (Option.getD (ea_r (wX8_lineFor b0 (r1 : Option Nat) (r2 : Option Nat) h) (Option.getD r1 0) 9) 0) (Int32.toNatClampNeg (vX8_lineFor b0 (r1 : Option Nat) (r2 : Option Nat) h))) : Int32) (wX8_lineFor b0 (r1 : Option Nat) (r2 : Option Nat) h))) + (ea_i (wX8_worth b0 ((ea_r (wX8_lineFor b0 (r1 : Option Nat) (r2 : Option Nat) h) (Option.getD r1 0) 11) : Option Nat) ((ea_i (wX8_lineFor b0 (r1 : Option Nat) (r2 : Option Nat) h) (Option.getD (ea_r (wX8_lineFor b0 (r1 : Option Nat) (r2 : Option Nat) h) (Option.getD r1 0) 9) 0) (Int32.toNatClampNeg (vX8_lineFor b0 (r1 : Option Nat) (r2 : Option Nat) h))) : Int32) (wX8_lineFor b0 (r1 : Option Nat) (r2 : Option Nat) h)) (Option.getD r1 0) 6)))]) dX8_chargeBy_106 (Nat.le_of_ble_eq_true rfl) [0] rfl ?_
            refine ea_iload (pc := 108) dX8_chargeBy_108 0 rfl ?_
            subst EX
            subst EY
            exact ea_ireturn (pc := 110) dX8_chargeBy_110 rfl rfl
        · have EX := EX.trans (if_pos c70)
          have K := K.1 c70
          refine ea_iload (pc := 82) dX8_chargeBy_82 2 rfl ?_
          refine ea_aload_n (pc := 84) dX8_chargeBy_84 rfl 0 rfl ?_
          obtain ⟨e63, f64, K⟩ := K
          refine ea_deref0 e63 ?_
          refine ea_getI (pc := 85) dX8_chargeBy_85 ec_0 (k := 5) (Nat.le_of_ble_eq_true rfl) rfl (Or.inl ew_807) f64.1 f64.2 ?_
          refine ea_iadd (pc := 88) dX8_chargeBy_88 ?_
          refine ea_istore (pc := 89) (lv' := [(1, vR r1), (2, vR r2), (4, vI ((vJ9_min_7cf53 ((vJ9_max_7cf53 ((vX8_worth b0 ((ea_r (wX8_lineFor b0 (r1 : Option Nat) (r2 : Option Nat) h) (Option.getD r1 0) 11) : Option Nat) ((ea_i (wX8_lineFor b0 (r1 : Option Nat) (r2 : Option Nat) h) (Option.getD (ea_r (wX8_lineFor b0 (r1 : Option Nat) (r2 : Option Nat) h) (Option.getD r1 0) 9) 0) (Int32.toNatClampNeg (vX8_lineFor b0 (r1 : Option Nat) (r2 : Option Nat) h))) : Int32) (wX8_lineFor b0 (r1 : Option Nat) (r2 : Option Nat) h)) : Int32) (0 : Int32) (wX8_worth b0 ((ea_r (wX8_lineFor b0 (r1 : Option Nat) (r2 : Option Nat) h) (Option.getD r1 0) 11) : Option Nat) ((ea_i (wX8_lineFor b0 (r1 : Option Nat) (r2 : Option Nat) h) (Option.getD (ea_r (wX8_lineFor b0 (r1 : Option Nat) (r2 : Option Nat) h) (Option.getD r1 0) 9) 0) (Int32.toNatClampNeg (vX8_lineFor b0 (r1 : Option Nat) (r2 : Option Nat) h))) : Int32) (wX8_lineFor b0 (r1 : Option Nat) (r2 : Option Nat) h))) : Int32) (99999 : Int32) (wX8_worth b0 ((ea_r (wX8_lineFor b0 (r1 : Option Nat) (r2 : Option Nat) h) (Option.getD r1 0) 11) : Option Nat) ((ea_i (wX8_lineFor b0 (r1 : Option Nat) (r2 : Option Nat) h) (Option.getD (ea_r (wX8_lineFor b0 (r1 : Option Nat) (r2 : Option Nat) h) (Option.getD r1 0) 9) 0) (Int32.toNatClampNeg (vX8_lineFor b0 (r1 : Option Nat) (r2 : Option Nat) h))) : Int32) (wX8_lineFor b0 (r1 : Option Nat) (r2 : Option Nat) h))) + (ea_i (wX8_worth b0 ((ea_r (wX8_lineFor b0 (r1 : Option Nat) (r2 : Option Nat) h) (Option.getD r1 0) 11) : Option Nat) ((ea_i (wX8_lineFor b0 (r1 : Option Nat) (r2 : Option Nat) h) (Option.getD (ea_r (wX8_lineFor b0 (r1 : Option Nat) (r2 : Option Nat) h) (Option.getD r1 0) 9) 0) (Int32.toNatClampNeg (vX8_lineFor b0 (r1 : Option Nat) (r2 : Option Nat) h))) : Int32) (wX8_lineFor b0 (r1 : Option Nat) (r2 : Option Nat) h)) (Option.getD r1 0) 5)))]) dX8_chargeBy_89 (Nat.le_of_ble_eq_true rfl) [1, 2, 0] rfl ?_
          refine ea_aload_n (pc := 91) dX8_chargeBy_91 rfl 1 rfl ?_
          obtain ⟨e65, f66, K⟩ := K
          refine ea_deref0 e65 ?_
          refine ea_getI (pc := 92) dX8_chargeBy_92 ec_4 (k := 0) (Nat.le_of_ble_eq_true rfl) rfl (Or.inl ew_934) f66.1 f66.2 ?_
          refine ea_iconst (pc := 95) dX8_chargeBy_95 (v := 4) rfl ?_
          refine ea_icmp_ne (pc := 96) (tgt := 108) dX8_chargeBy_96 rfl (fun c69 => ?_) (fun c69 => ?_)
          · have EX := EX.trans (if_neg c69)
            refine ea_iload (pc := 108) dX8_chargeBy_108 2 rfl ?_
            subst EX
            subst EY
            exact ea_ireturn (pc := 110) dX8_chargeBy_110 rfl rfl
          · have EX := EX.trans (if_pos c69)
            have K := K.1 c69
            refine ea_iload (pc := 99) dX8_chargeBy_99 2 rfl ?_
            refine ea_aload_n (pc := 101) dX8_chargeBy_101 rfl 0 rfl ?_
            obtain ⟨e67, f68⟩ := K
            refine ea_deref0 e67 ?_
            refine ea_getI (pc := 102) dX8_chargeBy_102 ec_0 (k := 6) (Nat.le_of_ble_eq_true rfl) rfl (Or.inl ew_810) f68.1 f68.2 ?_
            refine ea_iadd (pc := 105) dX8_chargeBy_105 ?_
            refine ea_istore (pc := 106) (lv' := [(4, vI (((vJ9_min_7cf53 ((vJ9_max_7cf53 ((vX8_worth b0 ((ea_r (wX8_lineFor b0 (r1 : Option Nat) (r2 : Option Nat) h) (Option.getD r1 0) 11) : Option Nat) ((ea_i (wX8_lineFor b0 (r1 : Option Nat) (r2 : Option Nat) h) (Option.getD (ea_r (wX8_lineFor b0 (r1 : Option Nat) (r2 : Option Nat) h) (Option.getD r1 0) 9) 0) (Int32.toNatClampNeg (vX8_lineFor b0 (r1 : Option Nat) (r2 : Option Nat) h))) : Int32) (wX8_lineFor b0 (r1 : Option Nat) (r2 : Option Nat) h)) : Int32) (0 : Int32) (wX8_worth b0 ((ea_r (wX8_lineFor b0 (r1 : Option Nat) (r2 : Option Nat) h) (Option.getD r1 0) 11) : Option Nat) ((ea_i (wX8_lineFor b0 (r1 : Option Nat) (r2 : Option Nat) h) (Option.getD (ea_r (wX8_lineFor b0 (r1 : Option Nat) (r2 : Option Nat) h) (Option.getD r1 0) 9) 0) (Int32.toNatClampNeg (vX8_lineFor b0 (r1 : Option Nat) (r2 : Option Nat) h))) : Int32) (wX8_lineFor b0 (r1 : Option Nat) (r2 : Option Nat) h))) : Int32) (99999 : Int32) (wX8_worth b0 ((ea_r (wX8_lineFor b0 (r1 : Option Nat) (r2 : Option Nat) h) (Option.getD r1 0) 11) : Option Nat) ((ea_i (wX8_lineFor b0 (r1 : Option Nat) (r2 : Option Nat) h) (Option.getD (ea_r (wX8_lineFor b0 (r1 : Option Nat) (r2 : Option Nat) h) (Option.getD r1 0) 9) 0) (Int32.toNatClampNeg (vX8_lineFor b0 (r1 : Option Nat) (r2 : Option Nat) h))) : Int32) (wX8_lineFor b0 (r1 : Option Nat) (r2 : Option Nat) h))) + (ea_i (wX8_worth b0 ((ea_r (wX8_lineFor b0 (r1 : Option Nat) (r2 : Option Nat) h) (Option.getD r1 0) 11) : Option Nat) ((ea_i (wX8_lineFor b0 (r1 : Option Nat) (r2 : Option Nat) h) (Option.getD (ea_r (wX8_lineFor b0 (r1 : Option Nat) (r2 : Option Nat) h) (Option.getD r1 0) 9) 0) (Int32.toNatClampNeg (vX8_lineFor b0 (r1 : Option Nat) (r2 : Option Nat) h))) : Int32) (wX8_lineFor b0 (r1 : Option Nat) (r2 : Option Nat) h)) (Option.getD r1 0) 5)) + (ea_i (wX8_worth b0 ((ea_r (wX8_lineFor b0 (r1 : Option Nat) (r2 : Option Nat) h) (Option.getD r1 0) 11) : Option Nat) ((ea_i (wX8_lineFor b0 (r1 : Option Nat) (r2 : Option Nat) h) (Option.getD (ea_r (wX8_lineFor b0 (r1 : Option Nat) (r2 : Option Nat) h) (Option.getD r1 0) 9) 0) (Int32.toNatClampNeg (vX8_lineFor b0 (r1 : Option Nat) (r2 : Option Nat) h))) : Int32) (wX8_lineFor b0 (r1 : Option Nat) (r2 : Option Nat) h)) (Option.getD r1 0) 6)))]) dX8_chargeBy_106 (Nat.le_of_ble_eq_true rfl) [0] rfl ?_
            refine ea_iload (pc := 108) dX8_chargeBy_108 0 rfl ?_
            subst EX
            subst EY
            exact ea_ireturn (pc := 110) dX8_chargeBy_110 rfl rfl
      · have EX := EX.trans (if_neg c88)
        have K := K.2 c88
        refine ea_iload (pc := 65) dX8_chargeBy_65 2 rfl ?_
        refine ea_aload_n (pc := 67) dX8_chargeBy_67 rfl 0 rfl ?_
        obtain ⟨e71, f72, K⟩ := K
        refine ea_deref0 e71 ?_
        refine ea_getI (pc := 68) dX8_chargeBy_68 ec_0 (k := 2) (Nat.le_of_ble_eq_true rfl) rfl (Or.inl ew_797) f72.1 f72.2 ?_
        refine ea_iadd (pc := 71) dX8_chargeBy_71 ?_
        refine ea_istore (pc := 72) (lv' := [(1, vR r1), (2, vR r2), (4, vI ((vJ9_min_7cf53 ((vJ9_max_7cf53 ((vX8_worth b0 ((ea_r (wX8_lineFor b0 (r1 : Option Nat) (r2 : Option Nat) h) (Option.getD r1 0) 11) : Option Nat) ((ea_i (wX8_lineFor b0 (r1 : Option Nat) (r2 : Option Nat) h) (Option.getD (ea_r (wX8_lineFor b0 (r1 : Option Nat) (r2 : Option Nat) h) (Option.getD r1 0) 9) 0) (Int32.toNatClampNeg (vX8_lineFor b0 (r1 : Option Nat) (r2 : Option Nat) h))) : Int32) (wX8_lineFor b0 (r1 : Option Nat) (r2 : Option Nat) h)) : Int32) (0 : Int32) (wX8_worth b0 ((ea_r (wX8_lineFor b0 (r1 : Option Nat) (r2 : Option Nat) h) (Option.getD r1 0) 11) : Option Nat) ((ea_i (wX8_lineFor b0 (r1 : Option Nat) (r2 : Option Nat) h) (Option.getD (ea_r (wX8_lineFor b0 (r1 : Option Nat) (r2 : Option Nat) h) (Option.getD r1 0) 9) 0) (Int32.toNatClampNeg (vX8_lineFor b0 (r1 : Option Nat) (r2 : Option Nat) h))) : Int32) (wX8_lineFor b0 (r1 : Option Nat) (r2 : Option Nat) h))) : Int32) (99999 : Int32) (wX8_worth b0 ((ea_r (wX8_lineFor b0 (r1 : Option Nat) (r2 : Option Nat) h) (Option.getD r1 0) 11) : Option Nat) ((ea_i (wX8_lineFor b0 (r1 : Option Nat) (r2 : Option Nat) h) (Option.getD (ea_r (wX8_lineFor b0 (r1 : Option Nat) (r2 : Option Nat) h) (Option.getD r1 0) 9) 0) (Int32.toNatClampNeg (vX8_lineFor b0 (r1 : Option Nat) (r2 : Option Nat) h))) : Int32) (wX8_lineFor b0 (r1 : Option Nat) (r2 : Option Nat) h))) + (ea_i (wX8_worth b0 ((ea_r (wX8_lineFor b0 (r1 : Option Nat) (r2 : Option Nat) h) (Option.getD r1 0) 11) : Option Nat) ((ea_i (wX8_lineFor b0 (r1 : Option Nat) (r2 : Option Nat) h) (Option.getD (ea_r (wX8_lineFor b0 (r1 : Option Nat) (r2 : Option Nat) h) (Option.getD r1 0) 9) 0) (Int32.toNatClampNeg (vX8_lineFor b0 (r1 : Option Nat) (r2 : Option Nat) h))) : Int32) (wX8_lineFor b0 (r1 : Option Nat) (r2 : Option Nat) h)) (Option.getD r1 0) 2)))]) dX8_chargeBy_72 (Nat.le_of_ble_eq_true rfl) [1, 2, 0] rfl ?_
        refine ea_aload_n (pc := 74) dX8_chargeBy_74 rfl 1 rfl ?_
        obtain ⟨e73, f74, K⟩ := K
        refine ea_deref0 e73 ?_
        refine ea_getI (pc := 75) dX8_chargeBy_75 ec_4 (k := 0) (Nat.le_of_ble_eq_true rfl) rfl (Or.inl ew_934) f74.1 f74.2 ?_
        refine ea_iconst (pc := 78) dX8_chargeBy_78 (v := 3) rfl ?_
        refine ea_icmp_ne (pc := 79) (tgt := 91) dX8_chargeBy_79 rfl (fun c87 => ?_) (fun c87 => ?_)
        · have EX := EX.trans (if_neg c87)
          have K := K.2 c87
          refine ea_aload_n (pc := 91) dX8_chargeBy_91 rfl 1 rfl ?_
          obtain ⟨e75, f76, K⟩ := K
          refine ea_deref0 e75 ?_
          refine ea_getI (pc := 92) dX8_chargeBy_92 ec_4 (k := 0) (Nat.le_of_ble_eq_true rfl) rfl (Or.inl ew_934) f76.1 f76.2 ?_
          refine ea_iconst (pc := 95) dX8_chargeBy_95 (v := 4) rfl ?_
          refine ea_icmp_ne (pc := 96) (tgt := 108) dX8_chargeBy_96 rfl (fun c79 => ?_) (fun c79 => ?_)
          · have EX := EX.trans (if_neg c79)
            refine ea_iload (pc := 108) dX8_chargeBy_108 2 rfl ?_
            subst EX
            subst EY
            exact ea_ireturn (pc := 110) dX8_chargeBy_110 rfl rfl
          · have EX := EX.trans (if_pos c79)
            have K := K.1 c79
            refine ea_iload (pc := 99) dX8_chargeBy_99 2 rfl ?_
            refine ea_aload_n (pc := 101) dX8_chargeBy_101 rfl 0 rfl ?_
            obtain ⟨e77, f78⟩ := K
            refine ea_deref0 e77 ?_
            refine ea_getI (pc := 102) dX8_chargeBy_102 ec_0 (k := 6) (Nat.le_of_ble_eq_true rfl) rfl (Or.inl ew_810) f78.1 f78.2 ?_
            refine ea_iadd (pc := 105) dX8_chargeBy_105 ?_
            refine ea_istore (pc := 106) (lv' := [(4, vI (((vJ9_min_7cf53 ((vJ9_max_7cf53 ((vX8_worth b0 ((ea_r (wX8_lineFor b0 (r1 : Option Nat) (r2 : Option Nat) h) (Option.getD r1 0) 11) : Option Nat) ((ea_i (wX8_lineFor b0 (r1 : Option Nat) (r2 : Option Nat) h) (Option.getD (ea_r (wX8_lineFor b0 (r1 : Option Nat) (r2 : Option Nat) h) (Option.getD r1 0) 9) 0) (Int32.toNatClampNeg (vX8_lineFor b0 (r1 : Option Nat) (r2 : Option Nat) h))) : Int32) (wX8_lineFor b0 (r1 : Option Nat) (r2 : Option Nat) h)) : Int32) (0 : Int32) (wX8_worth b0 ((ea_r (wX8_lineFor b0 (r1 : Option Nat) (r2 : Option Nat) h) (Option.getD r1 0) 11) : Option Nat) ((ea_i (wX8_lineFor b0 (r1 : Option Nat) (r2 : Option Nat) h) (Option.getD (ea_r (wX8_lineFor b0 (r1 : Option Nat) (r2 : Option Nat) h) (Option.getD r1 0) 9) 0) (Int32.toNatClampNeg (vX8_lineFor b0 (r1 : Option Nat) (r2 : Option Nat) h))) : Int32) (wX8_lineFor b0 (r1 : Option Nat) (r2 : Option Nat) h))) : Int32) (99999 : Int32) (wX8_worth b0 ((ea_r (wX8_lineFor b0 (r1 : Option Nat) (r2 : Option Nat) h) (Option.getD r1 0) 11) : Option Nat) ((ea_i (wX8_lineFor b0 (r1 : Option Nat) (r2 : Option Nat) h) (Option.getD (ea_r (wX8_lineFor b0 (r1 : Option Nat) (r2 : Option Nat) h) (Option.getD r1 0) 9) 0) (Int32.toNatClampNeg (vX8_lineFor b0 (r1 : Option Nat) (r2 : Option Nat) h))) : Int32) (wX8_lineFor b0 (r1 : Option Nat) (r2 : Option Nat) h))) + (ea_i (wX8_worth b0 ((ea_r (wX8_lineFor b0 (r1 : Option Nat) (r2 : Option Nat) h) (Option.getD r1 0) 11) : Option Nat) ((ea_i (wX8_lineFor b0 (r1 : Option Nat) (r2 : Option Nat) h) (Option.getD (ea_r (wX8_lineFor b0 (r1 : Option Nat) (r2 : Option Nat) h) (Option.getD r1 0) 9) 0) (Int32.toNatClampNeg (vX8_lineFor b0 (r1 : Option Nat) (r2 : Option Nat) h))) : Int32) (wX8_lineFor b0 (r1 : Option Nat) (r2 : Option Nat) h)) (Option.getD r1 0) 2)) + (ea_i (wX8_worth b0 ((ea_r (wX8_lineFor b0 (r1 : Option Nat) (r2 : Option Nat) h) (Option.getD r1 0) 11) : Option Nat) ((ea_i (wX8_lineFor b0 (r1 : Option Nat) (r2 : Option Nat) h) (Option.getD (ea_r (wX8_lineFor b0 (r1 : Option Nat) (r2 : Option Nat) h) (Option.getD r1 0) 9) 0) (Int32.toNatClampNeg (vX8_lineFor b0 (r1 : Option Nat) (r2 : Option Nat) h))) : Int32) (wX8_lineFor b0 (r1 : Option Nat) (r2 : Option Nat) h)) (Option.getD r1 0) 6)))]) dX8_chargeBy_106 (Nat.le_of_ble_eq_true rfl) [0] rfl ?_
            refine ea_iload (pc := 108) dX8_chargeBy_108 0 rfl ?_
            subst EX
            subst EY
            exact ea_ireturn (pc := 110) dX8_chargeBy_110 rfl rfl
        · have EX := EX.trans (if_pos c87)
          have K := K.1 c87
          refine ea_iload (pc := 82) dX8_chargeBy_82 2 rfl ?_
          refine ea_aload_n (pc := 84) dX8_chargeBy_84 rfl 0 rfl ?_
          obtain ⟨e80, f81, K⟩ := K
          refine ea_deref0 e80 ?_
          refine ea_getI (pc := 85) dX8_chargeBy_85 ec_0 (k := 5) (Nat.le_of_ble_eq_true rfl) rfl (Or.inl ew_807) f81.1 f81.2 ?_
          refine ea_iadd (pc := 88) dX8_chargeBy_88 ?_
          refine ea_istore (pc := 89) (lv' := [(1, vR r1), (2, vR r2), (4, vI (((vJ9_min_7cf53 ((vJ9_max_7cf53 ((vX8_worth b0 ((ea_r (wX8_lineFor b0 (r1 : Option Nat) (r2 : Option Nat) h) (Option.getD r1 0) 11) : Option Nat) ((ea_i (wX8_lineFor b0 (r1 : Option Nat) (r2 : Option Nat) h) (Option.getD (ea_r (wX8_lineFor b0 (r1 : Option Nat) (r2 : Option Nat) h) (Option.getD r1 0) 9) 0) (Int32.toNatClampNeg (vX8_lineFor b0 (r1 : Option Nat) (r2 : Option Nat) h))) : Int32) (wX8_lineFor b0 (r1 : Option Nat) (r2 : Option Nat) h)) : Int32) (0 : Int32) (wX8_worth b0 ((ea_r (wX8_lineFor b0 (r1 : Option Nat) (r2 : Option Nat) h) (Option.getD r1 0) 11) : Option Nat) ((ea_i (wX8_lineFor b0 (r1 : Option Nat) (r2 : Option Nat) h) (Option.getD (ea_r (wX8_lineFor b0 (r1 : Option Nat) (r2 : Option Nat) h) (Option.getD r1 0) 9) 0) (Int32.toNatClampNeg (vX8_lineFor b0 (r1 : Option Nat) (r2 : Option Nat) h))) : Int32) (wX8_lineFor b0 (r1 : Option Nat) (r2 : Option Nat) h))) : Int32) (99999 : Int32) (wX8_worth b0 ((ea_r (wX8_lineFor b0 (r1 : Option Nat) (r2 : Option Nat) h) (Option.getD r1 0) 11) : Option Nat) ((ea_i (wX8_lineFor b0 (r1 : Option Nat) (r2 : Option Nat) h) (Option.getD (ea_r (wX8_lineFor b0 (r1 : Option Nat) (r2 : Option Nat) h) (Option.getD r1 0) 9) 0) (Int32.toNatClampNeg (vX8_lineFor b0 (r1 : Option Nat) (r2 : Option Nat) h))) : Int32) (wX8_lineFor b0 (r1 : Option Nat) (r2 : Option Nat) h))) + (ea_i (wX8_worth b0 ((ea_r (wX8_lineFor b0 (r1 : Option Nat) (r2 : Option Nat) h) (Option.getD r1 0) 11) : Option Nat) ((ea_i (wX8_lineFor b0 (r1 : Option Nat) (r2 : Option Nat) h) (Option.getD (ea_r (wX8_lineFor b0 (r1 : Option Nat) (r2 : Option Nat) h) (Option.getD r1 0) 9) 0) (Int32.toNatClampNeg (vX8_lineFor b0 (r1 : Option Nat) (r2 : Option Nat) h))) : Int32) (wX8_lineFor b0 (r1 : Option Nat) (r2 : Option Nat) h)) (Option.getD r1 0) 2)) + (ea_i (wX8_worth b0 ((ea_r (wX8_lineFor b0 (r1 : Option Nat) (r2 : Option Nat) h) (Option.getD r1 0) 11) : Option Nat) ((ea_i (wX8_lineFor b0 (r1 : Option Nat) (r2 : Option Nat) h) (Option.getD (ea_r (wX8_lineFor b0 (r1 : Option Nat) (r2 : Option Nat) h) (Option.getD r1 0) 9) 0) (Int32.toNatClampNeg (vX8_lineFor b0 (r1 : Option Nat) (r2 : Option Nat) h))) : Int32) (wX8_lineFor b0 (r1 : Option Nat) (r2 : Option Nat) h)) (Option.getD r1 0) 5)))]) dX8_chargeBy_89 (Nat.le_of_ble_eq_true rfl) [1, 2, 0] rfl ?_
          refine ea_aload_n (pc := 91) dX8_chargeBy_91 rfl 1 rfl ?_
          obtain ⟨e82, f83, K⟩ := K
          refine ea_deref0 e82 ?_
          refine ea_getI (pc := 92) dX8_chargeBy_92 ec_4 (k := 0) (Nat.le_of_ble_eq_true rfl) rfl (Or.inl ew_934) f83.1 f83.2 ?_
          refine ea_iconst (pc := 95) dX8_chargeBy_95 (v := 4) rfl ?_
          refine ea_icmp_ne (pc := 96) (tgt := 108) dX8_chargeBy_96 rfl (fun c86 => ?_) (fun c86 => ?_)
          · have EX := EX.trans (if_neg c86)
            refine ea_iload (pc := 108) dX8_chargeBy_108 2 rfl ?_
            subst EX
            subst EY
            exact ea_ireturn (pc := 110) dX8_chargeBy_110 rfl rfl
          · have EX := EX.trans (if_pos c86)
            have K := K.1 c86
            refine ea_iload (pc := 99) dX8_chargeBy_99 2 rfl ?_
            refine ea_aload_n (pc := 101) dX8_chargeBy_101 rfl 0 rfl ?_
            obtain ⟨e84, f85⟩ := K
            refine ea_deref0 e84 ?_
            refine ea_getI (pc := 102) dX8_chargeBy_102 ec_0 (k := 6) (Nat.le_of_ble_eq_true rfl) rfl (Or.inl ew_810) f85.1 f85.2 ?_
            refine ea_iadd (pc := 105) dX8_chargeBy_105 ?_
            refine ea_istore (pc := 106) (lv' := [(4, vI ((((vJ9_min_7cf53 ((vJ9_max_7cf53 ((vX8_worth b0 ((ea_r (wX8_lineFor b0 (r1 : Option Nat) (r2 : Option Nat) h) (Option.getD r1 0) 11) : Option Nat) ((ea_i (wX8_lineFor b0 (r1 : Option Nat) (r2 : Option Nat) h) (Option.getD (ea_r (wX8_lineFor b0 (r1 : Option Nat) (r2 : Option Nat) h) (Option.getD r1 0) 9) 0) (Int32.toNatClampNeg (vX8_lineFor b0 (r1 : Option Nat) (r2 : Option Nat) h))) : Int32) (wX8_lineFor b0 (r1 : Option Nat) (r2 : Option Nat) h)) : Int32) (0 : Int32) (wX8_worth b0 ((ea_r (wX8_lineFor b0 (r1 : Option Nat) (r2 : Option Nat) h) (Option.getD r1 0) 11) : Option Nat) ((ea_i (wX8_lineFor b0 (r1 : Option Nat) (r2 : Option Nat) h) (Option.getD (ea_r (wX8_lineFor b0 (r1 : Option Nat) (r2 : Option Nat) h) (Option.getD r1 0) 9) 0) (Int32.toNatClampNeg (vX8_lineFor b0 (r1 : Option Nat) (r2 : Option Nat) h))) : Int32) (wX8_lineFor b0 (r1 : Option Nat) (r2 : Option Nat) h))) : Int32) (99999 : Int32) (wX8_worth b0 ((ea_r (wX8_lineFor b0 (r1 : Option Nat) (r2 : Option Nat) h) (Option.getD r1 0) 11) : Option Nat) ((ea_i (wX8_lineFor b0 (r1 : Option Nat) (r2 : Option Nat) h) (Option.getD (ea_r (wX8_lineFor b0 (r1 : Option Nat) (r2 : Option Nat) h) (Option.getD r1 0) 9) 0) (Int32.toNatClampNeg (vX8_lineFor b0 (r1 : Option Nat) (r2 : Option Nat) h))) : Int32) (wX8_lineFor b0 (r1 : Option Nat) (r2 : Option Nat) h))) + (ea_i (wX8_worth b0 ((ea_r (wX8_lineFor b0 (r1 : Option Nat) (r2 : Option Nat) h) (Option.getD r1 0) 11) : Option Nat) ((ea_i (wX8_lineFor b0 (r1 : Option Nat) (r2 : Option Nat) h) (Option.getD (ea_r (wX8_lineFor b0 (r1 : Option Nat) (r2 : Option Nat) h) (Option.getD r1 0) 9) 0) (Int32.toNatClampNeg (vX8_lineFor b0 (r1 : Option Nat) (r2 : Option Nat) h))) : Int32) (wX8_lineFor b0 (r1 : Option Nat) (r2 : Option Nat) h)) (Option.getD r1 0) 2)) + (ea_i (wX8_worth b0 ((ea_r (wX8_lineFor b0 (r1 : Option Nat) (r2 : Option Nat) h) (Option.getD r1 0) 11) : Option Nat) ((ea_i (wX8_lineFor b0 (r1 : Option Nat) (r2 : Option Nat) h) (Option.getD (ea_r (wX8_lineFor b0 (r1 : Option Nat) (r2 : Option Nat) h) (Option.getD r1 0) 9) 0) (Int32.toNatClampNeg (vX8_lineFor b0 (r1 : Option Nat) (r2 : Option Nat) h))) : Int32) (wX8_lineFor b0 (r1 : Option Nat) (r2 : Option Nat) h)) (Option.getD r1 0) 5)) + (ea_i (wX8_worth b0 ((ea_r (wX8_lineFor b0 (r1 : Option Nat) (r2 : Option Nat) h) (Option.getD r1 0) 11) : Option Nat) ((ea_i (wX8_lineFor b0 (r1 : Option Nat) (r2 : Option Nat) h) (Option.getD (ea_r (wX8_lineFor b0 (r1 : Option Nat) (r2 : Option Nat) h) (Option.getD r1 0) 9) 0) (Int32.toNatClampNeg (vX8_lineFor b0 (r1 : Option Nat) (r2 : Option Nat) h))) : Int32) (wX8_lineFor b0 (r1 : Option Nat) (r2 : Option Nat) h)) (Option.getD r1 0) 6)))]) dX8_chargeBy_106 (Nat.le_of_ble_eq_true rfl) [0] rfl ?_
            refine ea_iload (pc := 108) dX8_chargeBy_108 0 rfl ?_
            subst EX
            subst EY
            exact ea_ireturn (pc := 110) dX8_chargeBy_110 rfl rfl
  · have EX := EX.trans (if_neg c90)
    have EY := EY.trans (if_neg c90)
    refine ea_iconst (pc := 8) dX8_chargeBy_8 (v := 0) rfl ?_
    subst EX
    subst EY
    exact ea_ireturn (pc := 9) dX8_chargeBy_9 rfl rfl
