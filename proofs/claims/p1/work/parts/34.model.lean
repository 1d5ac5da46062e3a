/-! the reference, 4 -/
noncomputable def gX12_leaves (b0 : Nat) : Nat → Nat → Int32 → Int32 → Int32 → Int32 → Int32 → Int32 → Int32 → ea_H → Option (Unit × ea_H)
  | 0, _, _, _, _, _, _, _, _, _ => none
  | f + 1, lbl, x1, x2, x3, x4, x5, x6, x7, h =>
    if lbl = 0 then (gd (vp_in x1 1000) (gd (vp_in x1 1000) (gd ((okX12_townOf b0 ((ea_i h (b0 + 12) (Int32.toNatClampNeg x1)) : Int32) ((ea_i h (b0 + 13) (Int32.toNatClampNeg x1)) : Int32) h)) (gX12_leaves b0 f 25 (x1 : Int32) ((ea_i h (b0 + 12) (Int32.toNatClampNeg x1)) : Int32) ((ea_i h (b0 + 13) (Int32.toNatClampNeg x1)) : Int32) ((vX12_townOf b0 ((ea_i h (b0 + 12) (Int32.toNatClampNeg x1)) : Int32) ((ea_i h (b0 + 13) (Int32.toNatClampNeg x1)) : Int32) h) : Int32) (0 : Int32) 0 0 h)))) else
    if lbl = 25 then (if (ea_i h (b0 + 0) 63) ≤ x5 then (gX12_leaves b0 f 151 0 (x2 : Int32) (x3 : Int32) 0 0 0 0 h) else (gd (vp_in (((8 : Int32) * x2) + x3) 560) (if (ea_i h (b0 + 8) (Int32.toNatClampNeg (((8 : Int32) * x2) + x3))) = (0 : Int32) then (gd (vp_in x5 120) (if (ea_i h (b0 + 55) (Int32.toNatClampNeg x5)) = (0 : Int32) then (gd (vp_in x5 120) (if (ea_i h (b0 + 56) (Int32.toNatClampNeg x5)) = x4 then (gd (vp_in x1 1000) (gd (vp_in x5 120) (gd ((okX12_bestFrom b0 (x4 : Int32) ((ea_i h (b0 + 10) (Int32.toNatClampNeg x1)) : Int32) ((ea_i h (b0 + 40) (Int32.toNatClampNeg x5)) : Int32) h)) (if (vX12_bestFrom b0 (x4 : Int32) ((ea_i h (b0 + 10) (Int32.toNatClampNeg x1)) : Int32) ((ea_i h (b0 + 40) (Int32.toNatClampNeg x5)) : Int32) h) = x1 then (gd (vp_in x5 120) (gd (vp_in (((12 : Int32) * x1) + (ea_i (wX12_bestFrom b0 (x4 : Int32) ((ea_i h (b0 + 10) (Int32.toNatClampNeg x1)) : Int32) ((ea_i h (b0 + 40) (Int32.toNatClampNeg x5)) : Int32) h) (b0 + 40) (Int32.toNatClampNeg x5))) 12000) (gd (vp_in x5 120) (gd (vp_in x5 120) (gd (vp_in x1 1000) (gd ((okX12_turns b0 (x5 : Int32) ((ea_i (ea_wi (ea_wi (wX12_bestFrom b0 (x4 : Int32) ((ea_i h (b0 + 10) (Int32.toNatClampNeg x1)) : Int32) ((ea_i h (b0 + 40) (Int32.toNatClampNeg x5)) : Int32) h) (b0 + 57) (Int32.toNatClampNeg x5) (ea_i (wX12_bestFrom b0 (x4 : Int32) ((ea_i h (b0 + 10) (Int32.toNatClampNeg x1)) : Int32) ((ea_i h (b0 + 40) (Int32.toNatClampNeg x5)) : Int32) h) (b0 + 17) (Int32.toNatClampNeg (((12 : Int32) * x1) + (ea_i (wX12_bestFrom b0 (x4 : Int32) ((ea_i h (b0 + 10) (Int32.toNatClampNeg x1)) : Int32) ((ea_i h (b0 + 40) (Int32.toNatClampNeg x5)) : Int32) h) (b0 + 40) (Int32.toNatClampNeg x5)))))) (b0 + 61) (Int32.toNatClampNeg x5) 0) (b0 + 10) (Int32.toNatClampNeg x1)) : Int32) (1 : Int32) ((vX12_code (x2 : Int32) (ea_wi (ea_wi (wX12_bestFrom b0 (x4 : Int32) ((ea_i h (b0 + 10) (Int32.toNatClampNeg x1)) : Int32) ((ea_i h (b0 + 40) (Int32.toNatClampNeg x5)) : Int32) h) (b0 + 57) (Int32.toNatClampNeg x5) (ea_i (wX12_bestFrom b0 (x4 : Int32) ((ea_i h (b0 + 10) (Int32.toNatClampNeg x1)) : Int32) ((ea_i h (b0 + 40) (Int32.toNatClampNeg x5)) : Int32) h) (b0 + 17) (Int32.toNatClampNeg (((12 : Int32) * x1) + (ea_i (wX12_bestFrom b0 (x4 : Int32) ((ea_i h (b0 + 10) (Int32.toNatClampNeg x1)) : Int32) ((ea_i h (b0 + 40) (Int32.toNatClampNeg x5)) : Int32) h) (b0 + 40) (Int32.toNatClampNeg x5)))))) (b0 + 61) (Int32.toNatClampNeg x5) 0)) : Int32) (ea_wi (ea_wi (wX12_bestFrom b0 (x4 : Int32) ((ea_i h (b0 + 10) (Int32.toNatClampNeg x1)) : Int32) ((ea_i h (b0 + 40) (Int32.toNatClampNeg x5)) : Int32) h) (b0 + 57) (Int32.toNatClampNeg x5) (ea_i (wX12_bestFrom b0 (x4 : Int32) ((ea_i h (b0 + 10) (Int32.toNatClampNeg x1)) : Int32) ((ea_i h (b0 + 40) (Int32.toNatClampNeg x5)) : Int32) h) (b0 + 17) (Int32.toNatClampNeg (((12 : Int32) * x1) + (ea_i (wX12_bestFrom b0 (x4 : Int32) ((ea_i h (b0 + 10) (Int32.toNatClampNeg x1)) : Int32) ((ea_i h (b0 + 40) (Int32.toNatClampNeg x5)) : Int32) h) (b0 + 40) (Int32.toNatClampNeg x5)))))) (b0 + 61) (Int32.toNatClampNeg x5) 0))) (gX12_leaves b0 f 25 (x1 : Int32) (x2 : Int32) (x3 : Int32) (x4 : Int32) ((x5 + (1 : Int32)) : Int32) 0 0 (wX12_turns b0 (x5 : Int32) ((ea_i (ea_wi (ea_wi (wX12_bestFrom b0 (x4 : Int32) ((ea_i h (b0 + 10) (Int32.toNatClampNeg x1)) : Int32) ((ea_i h (b0 + 40) (Int32.toNatClampNeg x5)) : Int32) h) (b0 + 57) (Int32.toNatClampNeg x5) (ea_i (wX12_bestFrom b0 (x4 : Int32) ((ea_i h (b0 + 10) (Int32.toNatClampNeg x1)) : Int32) ((ea_i h (b0 + 40) (Int32.toNatClampNeg x5)) : Int32) h) (b0 + 17) (Int32.toNatClampNeg (((12 : Int32) * x1) + (ea_i (wX12_bestFrom b0 (x4 : Int32) ((ea_i h (b0 + 10) (Int32.toNatClampNeg x1)) : Int32) ((ea_i h (b0 + 40) (Int32.toNatClampNeg x5)) : Int32) h) (b0 + 40) (Int32.toNatClampNeg x5)))))) (b0 + 61) (Int32.toNatClampNeg x5) 0) (b0 + 10) (Int32.toNatClampNeg x1)) : Int32) (1 : Int32) ((vX12_code (x2 : Int32) (ea_wi (ea_wi (wX12_bestFrom b0 (x4 : Int32) ((ea_i h (b0 + 10) (Int32.toNatClampNeg x1)) : Int32) ((ea_i h (b0 + 40) (Int32.toNatClampNeg x5)) : Int32) h) (b0 + 57) (Int32.toNatClampNeg x5) (ea_i (wX12_bestFrom b0 (x4 : Int32) ((ea_i h (b0 + 10) (Int32.toNatClampNeg x1)) : Int32) ((ea_i h (b0 + 40) (Int32.toNatClampNeg x5)) : Int32) h) (b0 + 17) (Int32.toNatClampNeg (((12 : Int32) * x1) + (ea_i (wX12_bestFrom b0 (x4 : Int32) ((ea_i h (b0 + 10) (Int32.toNatClampNeg x1)) : Int32) ((ea_i h (b0 + 40) (Int32.toNatClampNeg x5)) : Int32) h) (b0 + 40) (Int32.toNatClampNeg x5)))))) (b0 + 61) (Int32.toNatClampNeg x5) 0)) : Int32) (ea_wi (ea_wi (wX12_bestFrom b0 (x4 : Int32) ((ea_i h (b0 + 10) (Int32.toNatClampNeg x1)) : Int32) ((ea_i h (b0 + 40) (Int32.toNatClampNeg x5)) : Int32) h) (b0 + 57) (Int32.toNatClampNeg x5) (ea_i (wX12_bestFrom b0 (x4 : Int32) ((ea_i h (b0 + 10) (Int32.toNatClampNeg x1)) : Int32) ((ea_i h (b0 + 40) (Int32.toNatClampNeg x5)) : Int32) h) (b0 + 17) (Int32.toNatClampNeg (((12 : Int32) * x1) + (ea_i (wX12_bestFrom b0 (x4 : Int32) ((ea_i h (b0 + 10) (Int32.toNatClampNeg x1)) : Int32) ((ea_i h (b0 + 40) (Int32.toNatClampNeg x5)) : Int32) h) (b0 + 40) (Int32.toNatClampNeg x5)))))) (b0 + 61) (Int32.toNatClampNeg x5) 0))))))))) else (gX12_leaves b0 f 25 (x1 : Int32) (x2 : Int32) (x3 : Int32) (x4 : Int32) ((x5 + (1 : Int32)) : Int32) 0 0 (wX12_bestFrom b0 (x4 : Int32) ((ea_i h (b0 + 10) (Int32.toNatClampNeg x1)) : Int32) ((ea_i h (b0 + 40) (Int32.toNatClampNeg x5)) : Int32) h)))))) else (gX12_leaves b0 f 25 (x1 : Int32) (x2 : Int32) (x3 : Int32) (x4 : Int32) ((x5 + (1 : Int32)) : Int32) 0 0 h))) else (gX12_leaves b0 f 25 (x1 : Int32) (x2 : Int32) (x3 : Int32) (x4 : Int32) ((x5 + (1 : Int32)) : Int32) 0 0 h))) else (gX12_leaves b0 f 151 0 (x2 : Int32) (x3 : Int32) 0 0 0 0 h)))) else
    if lbl = 151 then (gd ((okX12_comesAt b0 (x2 : Int32) ((x3 + (1 : Int32)) : Int32) h)) (gd ((okX12_goesAt b0 (x2 : Int32) (x3 : Int32) h)) (gX12_leaves b0 f 171 0 (x2 : Int32) 0 0 (((vX12_comesAt b0 (x2 : Int32) ((x3 + (1 : Int32)) : Int32) h) - (vX12_goesAt b0 (x2 : Int32) (x3 : Int32) h)) : Int32) (0 : Int32) 0 h))) else
    if lbl = 171 then (if (ea_i h (b0 + 0) 92) ≤ x6 then (gX12_leaves b0 f 224 0 (x2 : Int32) 0 0 0 (0 : Int32) 0 h) else (gd (vp_in x6 8) (if (ea_i h (b0 + 68) (Int32.toNatClampNeg x6)) = (x2 / (7 : Int32)) then (gd (vp_in x6 8) (gd (vp_in x6 8) (gX12_leaves b0 f 171 0 (x2 : Int32) 0 0 (x5 : Int32) ((x6 + (1 : Int32)) : Int32) 0 (ea_wi h (b0 + 69) (Int32.toNatClampNeg x6) ((ea_i h (b0 + 66) (Int32.toNatClampNeg x6)) * x5))))) else (gd (vp_in x6 8) (gX12_leaves b0 f 171 0 (x2 : Int32) 0 0 (x5 : Int32) ((x6 + (1 : Int32)) : Int32) 0 (ea_wi h (b0 + 69) (Int32.toNatClampNeg x6) 0)))))) else
    if lbl = 224 then (if (8 : Int32) ≤ x6 then (some ((), h)) else (gX12_leaves b0 f 234 0 (x2 : Int32) 0 0 0 (x6 : Int32) (0 : Int32) h)) else
    if lbl = 234 then (if (ea_i h (b0 + 0) 63) ≤ x7 then (gX12_leaves b0 f 224 0 (x2 : Int32) 0 0 0 ((x6 + (1 : Int32)) : Int32) 0 h) else (gd ((okX12_isAboard b0 (x7 : Int32) (x2 : Int32) h)) (if (vX12_isAboard b0 (x7 : Int32) (x2 : Int32) h) = (0 : Int32) then (gX12_leaves b0 f 234 0 (x2 : Int32) 0 0 0 (x6 : Int32) ((x7 + (1 : Int32)) : Int32) h) else (gd (vp_in x7 120) (if (ea_i h (b0 + 61) (Int32.toNatClampNeg x7)) = (0 : Int32) then (gd (vp_in x7 120) (if (ea_i h (b0 + 57) (Int32.toNatClampNeg x7)) = x6 then (gd ((okX12_townOf b0 (x2 : Int32) (x6 : Int32) h)) (gd ((okX12_sorts b0 (x7 : Int32) ((vX12_townOf b0 (x2 : Int32) (x6 : Int32) h) : Int32) h)) (gX12_leaves b0 f 234 0 (x2 : Int32) 0 0 0 (x6 : Int32) ((x7 + (1 : Int32)) : Int32) (wX12_sorts b0 (x7 : Int32) ((vX12_townOf b0 (x2 : Int32) (x6 : Int32) h) : Int32) h)))) else (gX12_leaves b0 f 234 0 (x2 : Int32) 0 0 0 (x6 : Int32) ((x7 + (1 : Int32)) : Int32) h))) else (gX12_leaves b0 f 234 0 (x2 : Int32) 0 0 0 (x6 : Int32) ((x7 + (1 : Int32)) : Int32) h)))))) else none
theorem tX12_leaves {d : Nat} {b0 : Nat} {h0 : ea_H} (hd : 6 ≤ d) : ∀ (f lbl : Nat) (x1 : Int32) (x2 : Int32) (x3 : Int32) (x4 : Int32) (x5 : Int32) (x6 : Int32) (x7 : Int32) (h : ea_H) (r : Unit) (h' : ea_H), gX12_leaves b0 f lbl x1 x2 x3 x4 x5 x6 x7 h = some (r, h') → ShM b0 h → (lbl = 0 → ea_W mX12_leaves d h0 none h' 0 [(0, vR (some (b0 + 0))), (1, vI x1)] [] h) ∧ (lbl = 25 → ea_W mX12_leaves d h0 none h' 25 [(0, vR (some (b0 + 0))), (1, vI x1), (2, vI x2), (3, vI x3), (4, vI x4), (5, vI x5)] [] h) ∧ (lbl = 151 → ea_W mX12_leaves d h0 none h' 151 [(0, vR (some (b0 + 0))), (2, vI x2), (3, vI x3)] [] h) ∧ (lbl = 171 → ea_W mX12_leaves d h0 none h' 171 [(0, vR (some (b0 + 0))), (2, vI x2), (5, vI x5), (6, vI x6)] [] h) ∧ (lbl = 224 → ea_W mX12_leaves d h0 none h' 224 [(0, vR (some (b0 + 0))), (2, vI x2), (6, vI x6)] [] h) ∧ (lbl = 234 → ea_W mX12_leaves d h0 none h' 234 [(0, vR (some (b0 + 0))), (2, vI x2), (6, vI x6), (7, vI x7)] [] h) := by
  intro f
  induction f with
  | zero => intro lbl x1 x2 x3 x4 x5 x6 x7 h r h' E; cases E
  | succ f ih =>
    intro lbl x1 x2 x3 x4 x5 x6 x7 h r h' E hs
    unfold gX12_leaves at E
    refine ⟨?_, ?_⟩
    · intro el
      subst el
      have E := (if_pos rfl).symm.trans E
      refine ea_aload_n (pc := 0) dX12_leaves_0 rfl 0 rfl ?_
      refine ea_getR (pc := 1) dX12_leaves_1 ec_12 (k := 16) (Nat.le_of_ble_eq_true rfl) rfl (Or.inl ew_1361) (hs.1 0 (by decide)).1 (hs.1 0 (by decide)).2.1 (hs.2 0 16 rfl) ?_
      refine ea_iload_n (pc := 4) dX12_leaves_4 rfl 1 rfl ?_
      obtain ⟨z1, E⟩ := gd_some E
      refine ea_iald (pc := 5) dX12_leaves_5 (hs.1 12 (by decide)).1 (hs.1 12 (by decide)).2.1 (ea_vpl (hs.1 12 (by decide)).2.2 z1) ?_
      refine ea_istore_n (pc := 6) (lv' := [(0, vR (some (b0 + 0))), (1, vI x1), (2, vI (ea_i h (b0 + 12) (Int32.toNatClampNeg x1)))]) dX12_leaves_6 rfl (Nat.le_of_ble_eq_true rfl) [1, 2, 0] rfl ?_
      refine ea_aload_n (pc := 7) dX12_leaves_7 rfl 0 rfl ?_
      refine ea_getR (pc := 8) dX12_leaves_8 ec_12 (k := 17) (Nat.le_of_ble_eq_true rfl) rfl (Or.inl ew_1362) (hs.1 0 (by decide)).1 (hs.1 0 (by decide)).2.1 (hs.2 0 17 rfl) ?_
      refine ea_iload_n (pc := 11) dX12_leaves_11 rfl 1 rfl ?_
      obtain ⟨z2, E⟩ := gd_some E
      refine ea_iald (pc := 12) dX12_leaves_12 (hs.1 13 (by decide)).1 (hs.1 13 (by decide)).2.1 (ea_vpl (hs.1 13 (by decide)).2.2 z2) ?_
      refine ea_istore_n (pc := 13) (lv' := [(0, vR (some (b0 + 0))), (1, vI x1), (2, vI (ea_i h (b0 + 12) (Int32.toNatClampNeg x1))), (3, vI (ea_i h (b0 + 13) (Int32.toNatClampNeg x1)))]) dX12_leaves_13 rfl (Nat.le_of_ble_eq_true rfl) [1, 2, 3, 0] rfl ?_
      refine ea_aload_n (pc := 14) dX12_leaves_14 rfl 0 rfl ?_
      refine ea_iload_n (pc := 15) dX12_leaves_15 rfl 2 rfl ?_
      refine ea_iload_n (pc := 16) dX12_leaves_16 rfl 3 rfl ?_
      obtain ⟨z3, E⟩ := gd_some E
      refine ea_callV (pc := 17) (d' := d - 1) (As := [vI (ea_i h (b0 + 12) (Int32.toNatClampNeg x1)), vI (ea_i h (b0 + 13) (Int32.toNatClampNeg x1))]) (st := []) dX12_leaves_17 kX12_townOf (sX12_townOf (d := d - 1) (by omega) hs z3) (by omega) rfl (Nat.le_of_ble_eq_true rfl) ew_1798 ew_1800 ew_60 (ci := 12) rfl (by decide) (hs.1 0 (by decide)).1 (hs.1 0 (by decide)).2.1 ?_
      refine ea_istore (pc := 20) (lv' := [(0, vR (some (b0 + 0))), (1, vI x1), (2, vI (ea_i h (b0 + 12) (Int32.toNatClampNeg x1))), (3, vI (ea_i h (b0 + 13) (Int32.toNatClampNeg x1))), (4, vI (vX12_townOf b0 ((ea_i h (b0 + 12) (Int32.toNatClampNeg x1)) : Int32) ((ea_i h (b0 + 13) (Int32.toNatClampNeg x1)) : Int32) h))]) dX12_leaves_20 (Nat.le_of_ble_eq_true rfl) [1, 2, 3, 4, 0] rfl ?_
      refine ea_iconst (pc := 22) dX12_leaves_22 (v := 0) rfl ?_
      refine ea_istore (pc := 23) (lv' := [(0, vR (some (b0 + 0))), (1, vI x1), (2, vI (ea_i h (b0 + 12) (Int32.toNatClampNeg x1))), (3, vI (ea_i h (b0 + 13) (Int32.toNatClampNeg x1))), (4, vI (vX12_townOf b0 ((ea_i h (b0 + 12) (Int32.toNatClampNeg x1)) : Int32) ((ea_i h (b0 + 13) (Int32.toNatClampNeg x1)) : Int32) h)), (5, vI 0)]) dX12_leaves_23 (Nat.le_of_ble_eq_true rfl) [1, 2, 3, 4, 5, 0] rfl ?_
      exact ((ih 25 (x1 : Int32) ((ea_i h (b0 + 12) (Int32.toNatClampNeg x1)) : Int32) ((ea_i h (b0 + 13) (Int32.toNatClampNeg x1)) : Int32) ((vX12_townOf b0 ((ea_i h (b0 + 12) (Int32.toNatClampNeg x1)) : Int32) ((ea_i h (b0 + 13) (Int32.toNatClampNeg x1)) : Int32) h) : Int32) (0 : Int32) 0 0 h _ _ E hs).2.1 rfl)
    refine ⟨?_, ?_⟩
    · intro el
      subst el
      have E := (if_neg (by decide)).symm.trans E
      have E := (if_pos rfl).symm.trans E
      refine ea_iload (pc := 25) dX12_leaves_25 5 rfl ?_
      refine ea_aload_n (pc := 27) dX12_leaves_27 rfl 0 rfl ?_
      refine ea_getI (pc := 28) dX12_leaves_28 ec_12 (k := 63) (Nat.le_of_ble_eq_true rfl) rfl (Or.inl ew_1408) (hs.1 0 (by decide)).1 (hs.1 0 (by decide)).2.1 ?_
      refine ea_icmp_ge (pc := 31) (tgt := 151) dX12_leaves_31 rfl (fun c25 => ?_) (fun c25 => ?_)
      · have E := (if_pos c25).symm.trans E
        exact (ea_fewer [0, 2, 3] rfl ((ih 151 0 (x2 : Int32) (x3 : Int32) 0 0 0 0 h _ _ E hs).2.2.1 rfl))
      · have E := (if_neg c25).symm.trans E
        refine ea_aload_n (pc := 34) dX12_leaves_34 rfl 0 rfl ?_
        refine ea_getR (pc := 35) dX12_leaves_35 ec_12 (k := 10) (Nat.le_of_ble_eq_true rfl) rfl (Or.inl ew_1355) (hs.1 0 (by decide)).1 (hs.1 0 (by decide)).2.1 (hs.2 0 10 rfl) ?_
        refine ea_bipush (pc := 38) dX12_leaves_38 (v := 8) rfl ?_
        refine ea_iload_n (pc := 40) dX12_leaves_40 rfl 2 rfl ?_
        refine ea_imul (pc := 41) dX12_leaves_41 ?_
        refine ea_iload_n (pc := 42) dX12_leaves_42 rfl 3 rfl ?_
        refine ea_iadd (pc := 43) dX12_leaves_43 ?_
        obtain ⟨z4, E⟩ := gd_some E
        refine ea_zald (pc := 44) dX12_leaves_44 (hs.1 8 (by decide)).1 (hs.1 8 (by decide)).2.1 (ea_vpl (hs.1 8 (by decide)).2.2 z4) ?_
        refine ea_if_ne (pc := 45) (tgt := 151) dX12_leaves_45 rfl (fun c24 => ?_) (fun c24 => ?_)
        · have E := (if_neg c24).symm.trans E
          exact (ea_fewer [0, 2, 3] rfl ((ih 151 0 (x2 : Int32) (x3 : Int32) 0 0 0 0 h _ _ E hs).2.2.1 rfl))
        · have E := (if_pos c24).symm.trans E
          refine ea_aload_n (pc := 48) dX12_leaves_48 rfl 0 rfl ?_
          refine ea_getR (pc := 49) dX12_leaves_49 ec_12 (k := 81) (Nat.le_of_ble_eq_true rfl) rfl (Or.inl ew_1426) (hs.1 0 (by decide)).1 (hs.1 0 (by decide)).2.1 (hs.2 0 81 rfl) ?_
          refine ea_iload (pc := 52) dX12_leaves_52 5 rfl ?_
          obtain ⟨z5, E⟩ := gd_some E
          refine ea_iald (pc := 54) dX12_leaves_54 (hs.1 55 (by decide)).1 (hs.1 55 (by decide)).2.1 (ea_vpl (hs.1 55 (by decide)).2.2 z5) ?_
          refine ea_if_ne (pc := 55) (tgt := 145) dX12_leaves_55 rfl (fun c23 => ?_) (fun c23 => ?_)
          · have E := (if_neg c23).symm.trans E
            refine ea_iinc (pc := 145) (v := 1) (lv' := [(0, vR (some (b0 + 0))), (1, vI x1), (2, vI x2), (3, vI x3), (4, vI x4), (5, vI (x5 + (1 : Int32)))]) dX12_leaves_145 5 rfl rfl (Nat.le_of_ble_eq_true rfl) [1, 2, 3, 4, 5, 0] rfl ?_
            refine ea_goto (pc := 148) (tgt := 25) dX12_leaves_148 rfl ?_
            exact ((ih 25 (x1 : Int32) (x2 : Int32) (x3 : Int32) (x4 : Int32) ((x5 + (1 : Int32)) : Int32) 0 0 h _ _ E hs).2.1 rfl)
          · have E := (if_pos c23).symm.trans E
            refine ea_aload_n (pc := 58) dX12_leaves_58 rfl 0 rfl ?_
            refine ea_getR (pc := 59) dX12_leaves_59 ec_12 (k := 82) (Nat.le_of_ble_eq_true rfl) rfl (Or.inl ew_1427) (hs.1 0 (by decide)).1 (hs.1 0 (by decide)).2.1 (hs.2 0 82 rfl) ?_
            refine ea_iload (pc := 62) dX12_leaves_62 5 rfl ?_
            obtain ⟨z6, E⟩ := gd_some E
            refine ea_iald (pc := 64) dX12_leaves_64 (hs.1 56 (by decide)).1 (hs.1 56 (by decide)).2.1 (ea_vpl (hs.1 56 (by decide)).2.2 z6) ?_
            refine ea_iload (pc := 65) dX12_leaves_65 4 rfl ?_
            refine ea_icmp_ne (pc := 67) (tgt := 145) dX12_leaves_67 rfl (fun c22 => ?_) (fun c22 => ?_)
            · have E := (if_neg c22).symm.trans E
              refine ea_iinc (pc := 145) (v := 1) (lv' := [(0, vR (some (b0 + 0))), (1, vI x1), (2, vI x2), (3, vI x3), (4, vI x4), (5, vI (x5 + (1 : Int32)))]) dX12_leaves_145 5 rfl rfl (Nat.le_of_ble_eq_true rfl) [1, 2, 3, 4, 5, 0] rfl ?_
              refine ea_goto (pc := 148) (tgt := 25) dX12_leaves_148 rfl ?_
              exact ((ih 25 (x1 : Int32) (x2 : Int32) (x3 : Int32) (x4 : Int32) ((x5 + (1 : Int32)) : Int32) 0 0 h _ _ E hs).2.1 rfl)
            · have E := (if_pos c22).symm.trans E
              refine ea_aload_n (pc := 70) dX12_leaves_70 rfl 0 rfl ?_
              refine ea_iload (pc := 71) dX12_leaves_71 4 rfl ?_
              refine ea_aload_n (pc := 73) dX12_leaves_73 rfl 0 rfl ?_
              refine ea_getR (pc := 74) dX12_leaves_74 ec_12 (k := 14) (Nat.le_of_ble_eq_true rfl) rfl (Or.inl ew_1359) (hs.1 0 (by decide)).1 (hs.1 0 (by decide)).2.1 (hs.2 0 14 rfl) ?_
              refine ea_iload_n (pc := 77) dX12_leaves_77 rfl 1 rfl ?_
              obtain ⟨z7, E⟩ := gd_some E
              refine ea_iald (pc := 78) dX12_leaves_78 (hs.1 10 (by decide)).1 (hs.1 10 (by decide)).2.1 (ea_vpl (hs.1 10 (by decide)).2.2 z7) ?_
              refine ea_aload_n (pc := 79) dX12_leaves_79 rfl 0 rfl ?_
              refine ea_getR (pc := 80) dX12_leaves_80 ec_12 (k := 66) (Nat.le_of_ble_eq_true rfl) rfl (Or.inl ew_1411) (hs.1 0 (by decide)).1 (hs.1 0 (by decide)).2.1 (hs.2 0 66 rfl) ?_
              refine ea_iload (pc := 83) dX12_leaves_83 5 rfl ?_
              obtain ⟨z8, E⟩ := gd_some E
              refine ea_iald (pc := 85) dX12_leaves_85 (hs.1 40 (by decide)).1 (hs.1 40 (by decide)).2.1 (ea_vpl (hs.1 40 (by decide)).2.2 z8) ?_
              obtain ⟨z9, E⟩ := gd_some E
              refine ea_callV (pc := 86) (d' := d - 1) (As := [vI x4, vI (ea_i h (b0 + 10) (Int32.toNatClampNeg x1)), vI (ea_i h (b0 + 40) (Int32.toNatClampNeg x5))]) (st := []) dX12_leaves_86 kX12_bestFrom (sX12_bestFrom (d := d - 1) (by omega) hs z9) (by omega) rfl (Nat.le_of_ble_eq_true rfl) ew_1770 ew_1772 ew_53 (ci := 12) rfl (by decide) (hs.1 0 (by decide)).1 (hs.1 0 (by decide)).2.1 ?_
              have hs10 : ShM b0 (wX12_bestFrom b0 (x4 : Int32) ((ea_i h (b0 + 10) (Int32.toNatClampNeg x1)) : Int32) ((ea_i h (b0 + 40) (Int32.toNatClampNeg x5)) : Int32) h) := shX12_bestFrom hs
              refine ea_iload_n (pc := 89) dX12_leaves_89 rfl 1 rfl ?_
              refine ea_icmp_eq (pc := 90) (tgt := 96) dX12_leaves_90 rfl (fun c21 => ?_) (fun c21 => ?_)
              · have E := (if_pos c21).symm.trans E
                refine ea_aload_n (pc := 96) dX12_leaves_96 rfl 0 rfl ?_
                refine ea_getR (pc := 97) dX12_leaves_97 ec_12 (k := 83) (Nat.le_of_ble_eq_true rfl) rfl (Or.inl ew_1428) (hs10.1 0 (by decide)).1 (hs10.1 0 (by decide)).2.1 (hs10.2 0 83 rfl) ?_
                refine ea_iload (pc := 100) dX12_leaves_100 5 rfl ?_
                refine ea_aload_n (pc := 102) dX12_leaves_102 rfl 0 rfl ?_
                refine ea_getR (pc := 103) dX12_leaves_103 ec_12 (k := 21) (Nat.le_of_ble_eq_true rfl) rfl (Or.inl ew_1366) (hs10.1 0 (by decide)).1 (hs10.1 0 (by decide)).2.1 (hs10.2 0 21 rfl) ?_
                refine ea_bipush (pc := 106) dX12_leaves_106 (v := 12) rfl ?_
                refine ea_iload_n (pc := 108) dX12_leaves_108 rfl 1 rfl ?_
                refine ea_imul (pc := 109) dX12_leaves_109 ?_
                refine ea_aload_n (pc := 110) dX12_leaves_110 rfl 0 rfl ?_
                refine ea_getR (pc := 111) dX12_leaves_111 ec_12 (k := 66) (Nat.le_of_ble_eq_true rfl) rfl (Or.inl ew_1411) (hs10.1 0 (by decide)).1 (hs10.1 0 (by decide)).2.1 (hs10.2 0 66 rfl) ?_
                refine ea_iload (pc := 114) dX12_leaves_114 5 rfl ?_
                obtain ⟨z11, E⟩ := gd_some E
                refine ea_iald (pc := 116) dX12_leaves_116 (hs10.1 40 (by decide)).1 (hs10.1 40 (by decide)).2.1 (ea_vpl (hs10.1 40 (by decide)).2.2 z11) ?_
                refine ea_iadd (pc := 117) dX12_leaves_117 ?_
                obtain ⟨z12, E⟩ := gd_some E
                refine ea_iald (pc := 118) dX12_leaves_118 (hs10.1 17 (by decide)).1 (hs10.1 17 (by decide)).2.1 (ea_vpl (hs10.1 17 (by decide)).2.2 z12) ?_
                obtain ⟨z13, E⟩ := gd_some E
                refine ea_iast (pc := 119) dX12_leaves_119 (hs10.1 57 (by decide)).1 (hs10.1 57 (by decide)).2.1 (ea_vpl (hs10.1 57 (by decide)).2.2 z13) ?_
                have hs14 : ShM b0 (ea_wi (wX12_bestFrom b0 (x4 : Int32) ((ea_i h (b0 + 10) (Int32.toNatClampNeg x1)) : Int32) ((ea_i h (b0 + 40) (Int32.toNatClampNeg x5)) : Int32) h) (b0 + 57) (Int32.toNatClampNeg x5) (ea_i (wX12_bestFrom b0 (x4 : Int32) ((ea_i h (b0 + 10) (Int32.toNatClampNeg x1)) : Int32) ((ea_i h (b0 + 40) (Int32.toNatClampNeg x5)) : Int32) h) (b0 + 17) (Int32.toNatClampNeg (((12 : Int32) * x1) + (ea_i (wX12_bestFrom b0 (x4 : Int32) ((ea_i h (b0 + 10) (Int32.toNatClampNeg x1)) : Int32) ((ea_i h (b0 + 40) (Int32.toNatClampNeg x5)) : Int32) h) (b0 + 40) (Int32.toNatClampNeg x5)))))) := ShM_wi hs10
                refine ea_aload_n (pc := 120) dX12_leaves_120 rfl 0 rfl ?_
                refine ea_getR (pc := 121) dX12_leaves_121 ec_12 (k := 87) (Nat.le_of_ble_eq_true rfl) rfl (Or.inl ew_1432) (hs14.1 0 (by decide)).1 (hs14.1 0 (by decide)).2.1 (hs14.2 0 87 rfl) ?_
                refine ea_iload (pc := 124) dX12_leaves_124 5 rfl ?_
                refine ea_iconst (pc := 126) dX12_leaves_126 (v := 0) rfl ?_
                obtain ⟨z15, E⟩ := gd_some E
                refine ea_zast (pc := 127) dX12_leaves_127 (y := 0) (ea_bn (Or.inl rfl)) (hs14.1 61 (by decide)).1 (hs14.1 61 (by decide)).2.1 (ea_vpl (hs14.1 61 (by decide)).2.2 z15) ?_
                have hs16 : ShM b0 (ea_wi (ea_wi (wX12_bestFrom b0 (x4 : Int32) ((ea_i h (b0 + 10) (Int32.toNatClampNeg x1)) : Int32) ((ea_i h (b0 + 40) (Int32.toNatClampNeg x5)) : Int32) h) (b0 + 57) (Int32.toNatClampNeg x5) (ea_i (wX12_bestFrom b0 (x4 : Int32) ((ea_i h (b0 + 10) (Int32.toNatClampNeg x1)) : Int32) ((ea_i h (b0 + 40) (Int32.toNatClampNeg x5)) : Int32) h) (b0 + 17) (Int32.toNatClampNeg (((12 : Int32) * x1) + (ea_i (wX12_bestFrom b0 (x4 : Int32) ((ea_i h (b0 + 10) (Int32.toNatClampNeg x1)) : Int32) ((ea_i h (b0 + 40) (Int32.toNatClampNeg x5)) : Int32) h) (b0 + 40) (Int32.toNatClampNeg x5)))))) (b0 + 61) (Int32.toNatClampNeg x5) 0) := ShM_wi hs14
                refine ea_aload_n (pc := 128) dX12_leaves_128 rfl 0 rfl ?_
                refine ea_iload (pc := 129) dX12_leaves_129 5 rfl ?_
                refine ea_aload_n (pc := 131) dX12_leaves_131 rfl 0 rfl ?_
                refine ea_getR (pc := 132) dX12_leaves_132 ec_12 (k := 14) (Nat.le_of_ble_eq_true rfl) rfl (Or.inl ew_1359) (hs16.1 0 (by decide)).1 (hs16.1 0 (by decide)).2.1 (hs16.2 0 14 rfl) ?_
                refine ea_iload_n (pc := 135) dX12_leaves_135 rfl 1 rfl ?_
                obtain ⟨z17, E⟩ := gd_some E
                refine ea_iald (pc := 136) dX12_leaves_136 (hs16.1 10 (by decide)).1 (hs16.1 10 (by decide)).2.1 (ea_vpl (hs16.1 10 (by decide)).2.2 z17) ?_
                refine ea_iconst (pc := 137) dX12_leaves_137 (v := 1) rfl ?_
                refine ea_iload_n (pc := 138) dX12_leaves_138 rfl 2 rfl ?_
                refine ea_callS (pc := 139) (d' := d - 1) (As := [vI x2]) (st := [vI 1, vI (ea_i (ea_wi (ea_wi (wX12_bestFrom b0 (x4 : Int32) ((ea_i h (b0 + 10) (Int32.toNatClampNeg x1)) : Int32) ((ea_i h (b0 + 40) (Int32.toNatClampNeg x5)) : Int32) h) (b0 + 57) (Int32.toNatClampNeg x5) (ea_i (wX12_bestFrom b0 (x4 : Int32) ((ea_i h (b0 + 10) (Int32.toNatClampNeg x1)) : Int32) ((ea_i h (b0 + 40) (Int32.toNatClampNeg x5)) : Int32) h) (b0 + 17) (Int32.toNatClampNeg (((12 : Int32) * x1) + (ea_i (wX12_bestFrom b0 (x4 : Int32) ((ea_i h (b0 + 10) (Int32.toNatClampNeg x1)) : Int32) ((ea_i h (b0 + 40) (Int32.toNatClampNeg x5)) : Int32) h) (b0 + 40) (Int32.toNatClampNeg x5)))))) (b0 + 61) (Int32.toNatClampNeg x5) 0) (b0 + 10) (Int32.toNatClampNeg x1)), vI x5, vR (some (b0 + 0))]) dX12_leaves_139 kX12_code (sX12_code (d := d - 1) (by omega)) (by omega) rfl (Nat.le_of_ble_eq_true rfl) ew_2071 ew_2072 ?_
                obtain ⟨z19, E⟩ := gd_some E
                refine ea_callV (pc := 142) (d' := d - 1) (As := [vI x5, vI (ea_i (ea_wi (ea_wi (wX12_bestFrom b0 (x4 : Int32) ((ea_i h (b0 + 10) (Int32.toNatClampNeg x1)) : Int32) ((ea_i h (b0 + 40) (Int32.toNatClampNeg x5)) : Int32) h) (b0 + 57) (Int32.toNatClampNeg x5) (ea_i (wX12_bestFrom b0 (x4 : Int32) ((ea_i h (b0 + 10) (Int32.toNatClampNeg x1)) : Int32) ((ea_i h (b0 + 40) (Int32.toNatClampNeg x5)) : Int32) h) (b0 + 17) (Int32.toNatClampNeg (((12 : Int32) * x1) + (ea_i (wX12_bestFrom b0 (x4 : Int32) ((ea_i h (b0 + 10) (Int32.toNatClampNeg x1)) : Int32) ((ea_i h (b0 + 40) (Int32.toNatClampNeg x5)) : Int32) h) (b0 + 40) (Int32.toNatClampNeg x5)))))) (b0 + 61) (Int32.toNatClampNeg x5) 0) (b0 + 10) (Int32.toNatClampNeg x1)), vI 1, vI (vX12_code (x2 : Int32) (ea_wi (ea_wi (wX12_bestFrom b0 (x4 : Int32) ((ea_i h (b0 + 10) (Int32.toNatClampNeg x1)) : Int32) ((ea_i h (b0 + 40) (Int32.toNatClampNeg x5)) : Int32) h) (b0 + 57) (Int32.toNatClampNeg x5) (ea_i (wX12_bestFrom b0 (x4 : Int32) ((ea_i h (b0 + 10) (Int32.toNatClampNeg x1)) : Int32) ((ea_i h (b0 + 40) (Int32.toNatClampNeg x5)) : Int32) h) (b0 + 17) (Int32.toNatClampNeg (((12 : Int32) * x1) + (ea_i (wX12_bestFrom b0 (x4 : Int32) ((ea_i h (b0 + 10) (Int32.toNatClampNeg x1)) : Int32) ((ea_i h (b0 + 40) (Int32.toNatClampNeg x5)) : Int32) h) (b0 + 40) (Int32.toNatClampNeg x5)))))) (b0 + 61) (Int32.toNatClampNeg x5) 0))]) (st := []) dX12_leaves_142 kX12_turns (sX12_turns (d := d - 1) (by omega) hs16 z19) (by omega) rfl (Nat.le_of_ble_eq_true rfl) ew_2011 ew_2013 ew_88 (ci := 12) rfl (by decide) (hs16.1 0 (by decide)).1 (hs16.1 0 (by decide)).2.1 ?_
                have hs20 : ShM b0 (wX12_turns b0 (x5 : Int32) ((ea_i (ea_wi (ea_wi (wX12_bestFrom b0 (x4 : Int32) ((ea_i h (b0 + 10) (Int32.toNatClampNeg x1)) : Int32) ((ea_i h (b0 + 40) (Int32.toNatClampNeg x5)) : Int32) h) (b0 + 57) (Int32.toNatClampNeg x5) (ea_i (wX12_bestFrom b0 (x4 : Int32) ((ea_i h (b0 + 10) (Int32.toNatClampNeg x1)) : Int32) ((ea_i h (b0 + 40) (Int32.toNatClampNeg x5)) : Int32) h) (b0 + 17) (Int32.toNatClampNeg (((12 : Int32) * x1) + (ea_i (wX12_bestFrom b0 (x4 : Int32) ((ea_i h (b0 + 10) (Int32.toNatClampNeg x1)) : Int32) ((ea_i h (b0 + 40) (Int32.toNatClampNeg x5)) : Int32) h) (b0 + 40) (Int32.toNatClampNeg x5)))))) (b0 + 61) (Int32.toNatClampNeg x5) 0) (b0 + 10) (Int32.toNatClampNeg x1)) : Int32) (1 : Int32) ((vX12_code (x2 : Int32) (ea_wi (ea_wi (wX12_bestFrom b0 (x4 : Int32) ((ea_i h (b0 + 10) (Int32.toNatClampNeg x1)) : Int32) ((ea_i h (b0 + 40) (Int32.toNatClampNeg x5)) : Int32) h) (b0 + 57) (Int32.toNatClampNeg x5) (ea_i (wX12_bestFrom b0 (x4 : Int32) ((ea_i h (b0 + 10) (Int32.toNatClampNeg x1)) : Int32) ((ea_i h (b0 + 40) (Int32.toNatClampNeg x5)) : Int32) h) (b0 + 17) (Int32.toNatClampNeg (((12 : Int32) * x1) + (ea_i (wX12_bestFrom b0 (x4 : Int32) ((ea_i h (b0 + 10) (Int32.toNatClampNeg x1)) : Int32) ((ea_i h (b0 + 40) (Int32.toNatClampNeg x5)) : Int32) h) (b0 + 40) (Int32.toNatClampNeg x5)))))) (b0 + 61) (Int32.toNatClampNeg x5) 0)) : Int32) (ea_wi (ea_wi (wX12_bestFrom b0 (x4 : Int32) ((ea_i h (b0 + 10) (Int32.toNatClampNeg x1)) : Int32) ((ea_i h (b0 + 40) (Int32.toNatClampNeg x5)) : Int32) h) (b0 + 57) (Int32.toNatClampNeg x5) (ea_i (wX12_bestFrom b0 (x4 : Int32) ((ea_i h (b0 + 10) (Int32.toNatClampNeg x1)) : Int32) ((ea_i h (b0 + 40) (Int32.toNatClampNeg x5)) : Int32) h) (b0 + 17) (Int32.toNatClampNeg (((12 : Int32) * x1) + (ea_i (wX12_bestFrom b0 (x4 : Int32) ((ea_i h (b0 + 10) (Int32.toNatClampNeg x1)) : Int32) ((ea_i h (b0 + 40) (Int32.toNatClampNeg x5)) : Int32) h) (b0 + 40) (Int32.toNatClampNeg x5)))))) (b0 + 61) (Int32.toNatClampNeg x5) 0)) := shX12_turns hs16
                refine ea_iinc (pc := 145) (v := 1) (lv' := [(0, vR (some (b0 + 0))), (1, vI x1), (2, vI x2), (3, vI x3), (4, vI x4), (5, vI (x5 + (1 : Int32)))]) dX12_leaves_145 5 rfl rfl (Nat.le_of_ble_eq_true rfl) [1, 2, 3, 4, 5, 0] rfl ?_
                refine ea_goto (pc := 148) (tgt := 25) dX12_leaves_148 rfl ?_
                exact ((ih 25 (x1 : Int32) (x2 : Int32) (x3 : Int32) (x4 : Int32) ((x5 + (1 : Int32)) : Int32) 0 0 (wX12_turns b0 (x5 : Int32) ((ea_i (ea_wi (ea_wi (wX12_bestFrom b0 (x4 : Int32) ((ea_i h (b0 + 10) (Int32.toNatClampNeg x1)) : Int32) ((ea_i h (b0 + 40) (Int32.toNatClampNeg x5)) : Int32) h) (b0 + 57) (Int32.toNatClampNeg x5) (ea_i (wX12_bestFrom b0 (x4 : Int32) ((ea_i h (b0 + 10) (Int32.toNatClampNeg x1)) : Int32) ((ea_i h (b0 + 40) (Int32.toNatClampNeg x5)) : Int32) h) (b0 + 17) (Int32.toNatClampNeg (((12 : Int32) * x1) + (ea_i (wX12_bestFrom b0 (x4 : Int32) ((ea_i h (b0 + 10) (Int32.toNatClampNeg x1)) : Int32) ((ea_i h (b0 + 40) (Int32.toNatClampNeg x5)) : Int32) h) (b0 + 40) (Int32.toNatClampNeg x5)))))) (b0 + 61) (Int32.toNatClampNeg x5) 0) (b0 + 10) (Int32.toNatClampNeg x1)) : Int32) (1 : Int32) ((vX12_code (x2 : Int32) (ea_wi (ea_wi (wX12_bestFrom b0 (x4 : Int32) ((ea_i h (b0 + 10) (Int32.toNatClampNeg x1)) : Int32) ((ea_i h (b0 + 40) (Int32.toNatClampNeg x5)) : Int32) h) (b0 + 57) (Int32.toNatClampNeg x5) (ea_i (wX12_bestFrom b0 (x4 : Int32) ((ea_i h (b0 + 10) (Int32.toNatClampNeg x1)) : Int32) ((ea_i h (b0 + 40) (Int32.toNatClampNeg x5)) : Int32) h) (b0 + 17) (Int32.toNatClampNeg (((12 : Int32) * x1) + (ea_i (wX12_bestFrom b0 (x4 : Int32) ((ea_i h (b0 + 10) (Int32.toNatClampNeg x1)) : Int32) ((ea_i h (b0 + 40) (Int32.toNatClampNeg x5)) : Int32) h) (b0 + 40) (Int32.toNatClampNeg x5)))))) (b0 + 61) (Int32.toNatClampNeg x5) 0)) : Int32) (ea_wi (ea_wi (wX12_bestFrom b0 (x4 : Int32) ((ea_i h (b0 + 10) (Int32.toNatClampNeg x1)) : Int32) ((ea_i h (b0 + 40) (Int32.toNatClampNeg x5)) : Int32) h) (b0 + 57) (Int32.toNatClampNeg x5) (ea_i (wX12_bestFrom b0 (x4 : Int32) ((ea_i h (b0 + 10) (Int32.toNatClampNeg x1)) : Int32) ((ea_i h (b0 + 40) (Int32.toNatClampNeg x5)) : Int32) h) (b0 + 17) (Int32.toNatClampNeg (((12 : Int32) * x1) + (ea_i (wX12_bestFrom b0 (x4 : Int32) ((ea_i h (b0 + 10) (Int32.toNatClampNeg x1)) : Int32) ((ea_i h (b0 + 40) (Int32.toNatClampNeg x5)) : Int32) h) (b0 + 40) (Int32.toNatClampNeg x5)))))) (b0 + 61) (Int32.toNatClampNeg x5) 0)) _ _ E hs20).2.1 rfl)
              · have E := (if_neg c21).symm.trans E
                refine ea_goto (pc := 93) (tgt := 145) dX12_leaves_93 rfl ?_
                refine ea_iinc (pc := 145) (v := 1) (lv' := [(0, vR (some (b0 + 0))), (1, vI x1), (2, vI x2), (3, vI x3), (4, vI x4), (5, vI (x5 + (1 : Int32)))]) dX12_leaves_145 5 rfl rfl (Nat.le_of_ble_eq_true rfl) [1, 2, 3, 4, 5, 0] rfl ?_
                refine ea_goto (pc := 148) (tgt := 25) dX12_leaves_148 rfl ?_
                exact ((ih 25 (x1 : Int32) (x2 : Int32) (x3 : Int32) (x4 : Int32) ((x5 + (1 : Int32)) : Int32) 0 0 (wX12_bestFrom b0 (x4 : Int32) ((ea_i h (b0 + 10) (Int32.toNatClampNeg x1)) : Int32) ((ea_i h (b0 + 40) (Int32.toNatClampNeg x5)) : Int32) h) _ _ E hs10).2.1 rfl)
    refine ⟨?_, ?_⟩
    · intro el
      subst el
      have E := (if_neg (by decide)).symm.trans E
      have E := (if_neg (by decide)).symm.trans E
      have E := (if_pos rfl).symm.trans E
      refine ea_aload_n (pc := 151) dX12_leaves_151 rfl 0 rfl ?_
      refine ea_iload_n (pc := 152) dX12_leaves_152 rfl 1 rfl ?_
      refine ea_iload_n (pc := 153) dX12_leaves_153 rfl 2 rfl ?_
      refine ea_iconst (pc := 154) dX12_leaves_154 (v := 1) rfl ?_
      refine ea_iadd (pc := 155) dX12_leaves_155 ?_
      obtain ⟨z26, E⟩ := gd_some E
      refine ea_callV (pc := 156) (d' := d - 1) (As := [vI x2, vI (x3 + (1 : Int32))]) (st := []) dX12_leaves_156 kX12_comesAt (sX12_comesAt (d := d - 1) (by omega) hs z26) (by omega) rfl (Nat.le_of_ble_eq_true rfl) ew_1762 ew_1764 ew_52 (ci := 12) rfl (by decide) (hs.1 0 (by decide)).1 (hs.1 0 (by decide)).2.1 ?_
      refine ea_aload_n (pc := 159) dX12_leaves_159 rfl 0 rfl ?_
      refine ea_iload_n (pc := 160) dX12_leaves_160 rfl 1 rfl ?_
      refine ea_iload_n (pc := 161) dX12_leaves_161 rfl 2 rfl ?_
      obtain ⟨z27, E⟩ := gd_some E
      refine ea_callV (pc := 162) (d' := d - 1) (As := [vI x2, vI x3]) (st := [vI (vX12_comesAt b0 (x2 : Int32) ((x3 + (1 : Int32)) : Int32) h)]) dX12_leaves_162 kX12_goesAt (sX12_goesAt (d := d - 1) (by omega) hs z27) (by omega) rfl (Nat.le_of_ble_eq_true rfl) ew_1786 ew_1788 ew_57 (ci := 12) rfl (by decide) (hs.1 0 (by decide)).1 (hs.1 0 (by decide)).2.1 ?_
      refine ea_isub (pc := 165) dX12_leaves_165 ?_
      refine ea_istore (pc := 166) (lv' := [(0, vR (some (b0 + 0))), (2, vI x2), (5, vI ((vX12_comesAt b0 (x2 : Int32) ((x3 + (1 : Int32)) : Int32) h) - (vX12_goesAt b0 (x2 : Int32) (x3 : Int32) h)))]) dX12_leaves_166 (Nat.le_of_ble_eq_true rfl) [1, 2, 0] rfl ?_
      refine ea_iconst (pc := 168) dX12_leaves_168 (v := 0) rfl ?_
      refine ea_istore (pc := 169) (lv' := [(0, vR (some (b0 + 0))), (2, vI x2), (5, vI ((vX12_comesAt b0 (x2 : Int32) ((x3 + (1 : Int32)) : Int32) h) - (vX12_goesAt b0 (x2 : Int32) (x3 : Int32) h))), (6, vI 0)]) dX12_leaves_169 (Nat.le_of_ble_eq_true rfl) [1, 2, 3, 0] rfl ?_
      exact ((ih 171 0 (x2 : Int32) 0 0 (((vX12_comesAt b0 (x2 : Int32) ((x3 + (1 : Int32)) : Int32) h) - (vX12_goesAt b0 (x2 : Int32) (x3 : Int32) h)) : Int32) (0 : Int32) 0 h _ _ E hs).2.2.2.1 rfl)
    refine ⟨?_, ?_⟩
    · intro el
      subst el
      have E := (if_neg (by decide)).symm.trans E
      have E := (if_neg (by decide)).symm.trans E
      have E := (if_neg (by decide)).symm.trans E
      have E := (if_pos rfl).symm.trans E
      refine ea_iload (pc := 171) dX12_leaves_171 3 rfl ?_
      refine ea_aload_n (pc := 173) dX12_leaves_173 rfl 0 rfl ?_
      refine ea_getI (pc := 174) dX12_leaves_174 ec_12 (k := 92) (Nat.le_of_ble_eq_true rfl) rfl (Or.inl ew_1437) (hs.1 0 (by decide)).1 (hs.1 0 (by decide)).2.1 ?_
      refine ea_icmp_ge (pc := 177) (tgt := 221) dX12_leaves_177 rfl (fun c35 => ?_) (fun c35 => ?_)
      · have E := (if_pos c35).symm.trans E
        refine ea_iconst (pc := 221) dX12_leaves_221 (v := 0) rfl ?_
        refine ea_istore (pc := 222) (lv' := [(0, vR (some (b0 + 0))), (2, vI x2), (6, vI 0)]) dX12_leaves_222 (Nat.le_of_ble_eq_true rfl) [1, 2, 0] rfl ?_
        exact ((ih 224 0 (x2 : Int32) 0 0 0 (0 : Int32) 0 h _ _ E hs).2.2.2.2.1 rfl)
      · have E := (if_neg c35).symm.trans E
        refine ea_aload_n (pc := 180) dX12_leaves_180 rfl 0 rfl ?_
        refine ea_getR (pc := 181) dX12_leaves_181 ec_12 (k := 96) (Nat.le_of_ble_eq_true rfl) rfl (Or.inl ew_1441) (hs.1 0 (by decide)).1 (hs.1 0 (by decide)).2.1 (hs.2 0 96 rfl) ?_
        refine ea_iload (pc := 184) dX12_leaves_184 3 rfl ?_
        refine ea_aload_n (pc := 186) dX12_leaves_186 rfl 0 rfl ?_
        refine ea_getR (pc := 187) dX12_leaves_187 ec_12 (k := 95) (Nat.le_of_ble_eq_true rfl) rfl (Or.inl ew_1440) (hs.1 0 (by decide)).1 (hs.1 0 (by decide)).2.1 (hs.2 0 95 rfl) ?_
        refine ea_iload (pc := 190) dX12_leaves_190 3 rfl ?_
        obtain ⟨z28, E⟩ := gd_some E
        refine ea_iald (pc := 192) dX12_leaves_192 (hs.1 68 (by decide)).1 (hs.1 68 (by decide)).2.1 (ea_vpl (hs.1 68 (by decide)).2.2 z28) ?_
        refine ea_iload_n (pc := 193) dX12_leaves_193 rfl 1 rfl ?_
        refine ea_bipush (pc := 194) dX12_leaves_194 (v := 7) rfl ?_
        refine ea_idiv (pc := 196) dX12_leaves_196 (by decide) ?_
        refine ea_icmp_ne (pc := 197) (tgt := 213) dX12_leaves_197 rfl (fun c34 => ?_) (fun c34 => ?_)
        · have E := (if_neg c34).symm.trans E
          refine ea_iconst (pc := 213) dX12_leaves_213 (v := 0) rfl ?_
          obtain ⟨z29, E⟩ := gd_some E
          refine ea_iast (pc := 214) dX12_leaves_214 (hs.1 69 (by decide)).1 (hs.1 69 (by decide)).2.1 (ea_vpl (hs.1 69 (by decide)).2.2 z29) ?_
          have hs30 : ShM b0 (ea_wi h (b0 + 69) (Int32.toNatClampNeg x6) 0) := ShM_wi hs
          refine ea_iinc (pc := 215) (v := 1) (lv' := [(0, vR (some (b0 + 0))), (2, vI x2), (5, vI x5), (6, vI (x6 + (1 : Int32)))]) dX12_leaves_215 3 rfl rfl (Nat.le_of_ble_eq_true rfl) [1, 2, 3, 0] rfl ?_
          refine ea_goto (pc := 218) (tgt := 171) dX12_leaves_218 rfl ?_
          exact ((ih 171 0 (x2 : Int32) 0 0 (x5 : Int32) ((x6 + (1 : Int32)) : Int32) 0 (ea_wi h (b0 + 69) (Int32.toNatClampNeg x6) 0) _ _ E hs30).2.2.2.1 rfl)
        · have E := (if_pos c34).symm.trans E
          refine ea_aload_n (pc := 200) dX12_leaves_200 rfl 0 rfl ?_
          refine ea_getR (pc := 201) dX12_leaves_201 ec_12 (k := 93) (Nat.le_of_ble_eq_true rfl) rfl (Or.inl ew_1438) (hs.1 0 (by decide)).1 (hs.1 0 (by decide)).2.1 (hs.2 0 93 rfl) ?_
          refine ea_iload (pc := 204) dX12_leaves_204 3 rfl ?_
          obtain ⟨z31, E⟩ := gd_some E
          refine ea_iald (pc := 206) dX12_leaves_206 (hs.1 66 (by decide)).1 (hs.1 66 (by decide)).2.1 (ea_vpl (hs.1 66 (by decide)).2.2 z31) ?_
          refine ea_iload (pc := 207) dX12_leaves_207 2 rfl ?_
          refine ea_imul (pc := 209) dX12_leaves_209 ?_
          refine ea_goto (pc := 210) (tgt := 214) dX12_leaves_210 rfl ?_
          obtain ⟨z32, E⟩ := gd_some E
          refine ea_iast (pc := 214) dX12_leaves_214 (hs.1 69 (by decide)).1 (hs.1 69 (by decide)).2.1 (ea_vpl (hs.1 69 (by decide)).2.2 z32) ?_
          have hs33 : ShM b0 (ea_wi h (b0 + 69) (Int32.toNatClampNeg x6) ((ea_i h (b0 + 66) (Int32.toNatClampNeg x6)) * x5)) := ShM_wi hs
          refine ea_iinc (pc := 215) (v := 1) (lv' := [(0, vR (some (b0 + 0))), (2, vI x2), (5, vI x5), (6, vI (x6 + (1 : Int32)))]) dX12_leaves_215 3 rfl rfl (Nat.le_of_ble_eq_true rfl) [1, 2, 3, 0] rfl ?_
          refine ea_goto (pc := 218) (tgt := 171) dX12_leaves_218 rfl ?_
          exact ((ih 171 0 (x2 : Int32) 0 0 (x5 : Int32) ((x6 + (1 : Int32)) : Int32) 0 (ea_wi h (b0 + 69) (Int32.toNatClampNeg x6) ((ea_i h (b0 + 66) (Int32.toNatClampNeg x6)) * x5)) _ _ E hs33).2.2.2.1 rfl)
    refine ⟨?_, ?_⟩
    · intro el
      subst el
      have E := (if_neg (by decide)).symm.trans E
      have E := (if_neg (by decide)).symm.trans E
      have E := (if_neg (by decide)).symm.trans E
      have E := (if_neg (by decide)).symm.trans E
      have E := (if_pos rfl).symm.trans E
      refine ea_iload (pc := 224) dX12_leaves_224 2 rfl ?_
      refine ea_bipush (pc := 226) dX12_leaves_226 (v := 8) rfl ?_
      refine ea_icmp_ge (pc := 228) (tgt := 300) dX12_leaves_228 rfl (fun c36 => ?_) (fun c36 => ?_)
      · have E := (if_pos c36).symm.trans E
        exact ea_vretO (pc := 300) dX12_leaves_300 rfl E
      · have E := (if_neg c36).symm.trans E
        refine ea_iconst (pc := 231) dX12_leaves_231 (v := 0) rfl ?_
        refine ea_istore (pc := 232) (lv' := [(0, vR (some (b0 + 0))), (2, vI x2), (6, vI x6), (7, vI 0)]) dX12_leaves_232 (Nat.le_of_ble_eq_true rfl) [1, 2, 3, 0] rfl ?_
        exact ((ih 234 0 (x2 : Int32) 0 0 0 (x6 : Int32) (0 : Int32) h _ _ E hs).2.2.2.2.2 rfl)
    intro el
    subst el
    have E := (if_neg (by decide)).symm.trans E
    have E := (if_neg (by decide)).symm.trans E
    have E := (if_neg (by decide)).symm.trans E
    have E := (if_neg (by decide)).symm.trans E
    have E := (if_neg (by decide)).symm.trans E
    have E := (if_pos rfl).symm.trans E
    refine ea_iload (pc := 234) dX12_leaves_234 3 rfl ?_
    refine ea_aload_n (pc := 236) dX12_leaves_236 rfl 0 rfl ?_
    refine ea_getI (pc := 237) dX12_leaves_237 ec_12 (k := 63) (Nat.le_of_ble_eq_true rfl) rfl (Or.inl ew_1408) (hs.1 0 (by decide)).1 (hs.1 0 (by decide)).2.1 ?_
    refine ea_icmp_ge (pc := 240) (tgt := 294) dX12_leaves_240 rfl (fun c46 => ?_) (fun c46 => ?_)
    · have E := (if_pos c46).symm.trans E
      refine ea_iinc (pc := 294) (v := 1) (lv' := [(0, vR (some (b0 + 0))), (2, vI x2), (6, vI (x6 + (1 : Int32)))]) dX12_leaves_294 2 rfl rfl (Nat.le_of_ble_eq_true rfl) [1, 2, 0] rfl ?_
      refine ea_goto (pc := 297) (tgt := 224) dX12_leaves_297 rfl ?_
      exact ((ih 224 0 (x2 : Int32) 0 0 0 ((x6 + (1 : Int32)) : Int32) 0 h _ _ E hs).2.2.2.2.1 rfl)
    · have E := (if_neg c46).symm.trans E
      refine ea_aload_n (pc := 243) dX12_leaves_243 rfl 0 rfl ?_
      refine ea_iload (pc := 244) dX12_leaves_244 3 rfl ?_
      refine ea_iload_n (pc := 246) dX12_leaves_246 rfl 1 rfl ?_
      obtain ⟨z37, E⟩ := gd_some E
      refine ea_callV (pc := 247) (d' := d - 1) (As := [vI x7, vI x2]) (st := []) dX12_leaves_247 kX12_isAboard (sX12_isAboard (d := d - 1) (by omega) hs z37) (by omega) rfl (Nat.le_of_ble_eq_true rfl) ew_2067 ew_2069 ew_95 (ci := 12) rfl (by decide) (hs.1 0 (by decide)).1 (hs.1 0 (by decide)).2.1 ?_
      refine ea_if_eq (pc := 250) (tgt := 288) dX12_leaves_250 rfl (fun c45 => ?_) (fun c45 => ?_)
      · have E := (if_pos c45).symm.trans E
        refine ea_iinc (pc := 288) (v := 1) (lv' := [(0, vR (some (b0 + 0))), (2, vI x2), (6, vI x6), (7, vI (x7 + (1 : Int32)))]) dX12_leaves_288 3 rfl rfl (Nat.le_of_ble_eq_true rfl) [1, 2, 3, 0] rfl ?_
        refine ea_goto (pc := 291) (tgt := 234) dX12_leaves_291 rfl ?_
        exact ((ih 234 0 (x2 : Int32) 0 0 0 (x6 : Int32) ((x7 + (1 : Int32)) : Int32) h _ _ E hs).2.2.2.2.2 rfl)
      · have E := (if_neg c45).symm.trans E
        refine ea_aload_n (pc := 253) dX12_leaves_253 rfl 0 rfl ?_
        refine ea_getR (pc := 254) dX12_leaves_254 ec_12 (k := 87) (Nat.le_of_ble_eq_true rfl) rfl (Or.inl ew_1432) (hs.1 0 (by decide)).1 (hs.1 0 (by decide)).2.1 (hs.2 0 87 rfl) ?_
        refine ea_iload (pc := 257) dX12_leaves_257 3 rfl ?_
        obtain ⟨z38, E⟩ := gd_some E
        refine ea_zald (pc := 259) dX12_leaves_259 (hs.1 61 (by decide)).1 (hs.1 61 (by decide)).2.1 (ea_vpl (hs.1 61 (by decide)).2.2 z38) ?_
        refine ea_if_ne (pc := 260) (tgt := 288) dX12_leaves_260 rfl (fun c44 => ?_) (fun c44 => ?_)
        · have E := (if_neg c44).symm.trans E
          refine ea_iinc (pc := 288) (v := 1) (lv' := [(0, vR (some (b0 + 0))), (2, vI x2), (6, vI x6), (7, vI (x7 + (1 : Int32)))]) dX12_leaves_288 3 rfl rfl (Nat.le_of_ble_eq_true rfl) [1, 2, 3, 0] rfl ?_
          refine ea_goto (pc := 291) (tgt := 234) dX12_leaves_291 rfl ?_
          exact ((ih 234 0 (x2 : Int32) 0 0 0 (x6 : Int32) ((x7 + (1 : Int32)) : Int32) h _ _ E hs).2.2.2.2.2 rfl)
        · have E := (if_pos c44).symm.trans E
          refine ea_aload_n (pc := 263) dX12_leaves_263 rfl 0 rfl ?_
          refine ea_getR (pc := 264) dX12_leaves_264 ec_12 (k := 83) (Nat.le_of_ble_eq_true rfl) rfl (Or.inl ew_1428) (hs.1 0 (by decide)).1 (hs.1 0 (by decide)).2.1 (hs.2 0 83 rfl) ?_
          refine ea_iload (pc := 267) dX12_leaves_267 3 rfl ?_
          obtain ⟨z39, E⟩ := gd_some E
          refine ea_iald (pc := 269) dX12_leaves_269 (hs.1 57 (by decide)).1 (hs.1 57 (by decide)).2.1 (ea_vpl (hs.1 57 (by decide)).2.2 z39) ?_
          refine ea_iload (pc := 270) dX12_leaves_270 2 rfl ?_
          refine ea_icmp_ne (pc := 272) (tgt := 288) dX12_leaves_272 rfl (fun c43 => ?_) (fun c43 => ?_)
          · have E := (if_neg c43).symm.trans E
            refine ea_iinc (pc := 288) (v := 1) (lv' := [(0, vR (some (b0 + 0))), (2, vI x2), (6, vI x6), (7, vI (x7 + (1 : Int32)))]) dX12_leaves_288 3 rfl rfl (Nat.le_of_ble_eq_true rfl) [1, 2, 3, 0] rfl ?_
            refine ea_goto (pc := 291) (tgt := 234) dX12_leaves_291 rfl ?_
            exact ((ih 234 0 (x2 : Int32) 0 0 0 (x6 : Int32) ((x7 + (1 : Int32)) : Int32) h _ _ E hs).2.2.2.2.2 rfl)
          · have E := (if_pos c43).symm.trans E
            refine ea_aload_n (pc := 275) dX12_leaves_275 rfl 0 rfl ?_
            refine ea_iload (pc := 276) dX12_leaves_276 3 rfl ?_
            refine ea_aload_n (pc := 278) dX12_leaves_278 rfl 0 rfl ?_
            refine ea_iload_n (pc := 279) dX12_leaves_279 rfl 1 rfl ?_
            refine ea_iload (pc := 280) dX12_leaves_280 2 rfl ?_
            obtain ⟨z40, E⟩ := gd_some E
            refine ea_callV (pc := 282) (d' := d - 1) (As := [vI x2, vI x6]) (st := [vI x7, vR (some (b0 + 0))]) dX12_leaves_282 kX12_townOf (sX12_townOf (d := d - 1) (by omega) hs z40) (by omega) rfl (Nat.le_of_ble_eq_true rfl) ew_1798 ew_1800 ew_60 (ci := 12) rfl (by decide) (hs.1 0 (by decide)).1 (hs.1 0 (by decide)).2.1 ?_
            obtain ⟨z41, E⟩ := gd_some E
            refine ea_callV (pc := 285) (d' := d - 1) (As := [vI x7, vI (vX12_townOf b0 (x2 : Int32) (x6 : Int32) h)]) (st := []) dX12_leaves_285 kX12_sorts (sX12_sorts (d := d - 1) (by omega) hs z41) (by omega) rfl (Nat.le_of_ble_eq_true rfl) ew_2082 ew_2084 ew_98 (ci := 12) rfl (by decide) (hs.1 0 (by decide)).1 (hs.1 0 (by decide)).2.1 ?_
            have hs42 : ShM b0 (wX12_sorts b0 (x7 : Int32) ((vX12_townOf b0 (x2 : Int32) (x6 : Int32) h) : Int32) h) := shX12_sorts hs
            refine ea_iinc (pc := 288) (v := 1) (lv' := [(0, vR (some (b0 + 0))), (2, vI x2), (6, vI x6), (7, vI (x7 + (1 : Int32)))]) dX12_leaves_288 3 rfl rfl (Nat.le_of_ble_eq_true rfl) [1, 2, 3, 0] rfl ?_
            refine ea_goto (pc := 291) (tgt := 234) dX12_leaves_291 rfl ?_
            exact ((ih 234 0 (x2 : Int32) 0 0 0 (x6 : Int32) ((x7 + (1 : Int32)) : Int32) (wX12_sorts b0 (x7 : Int32) ((vX12_townOf b0 (x2 : Int32) (x6 : Int32) h) : Int32) h) _ _ E hs42).2.2.2.2.2 rfl)
noncomputable def qX12_leaves (b0 : Nat) (x1 : Int32) (h : ea_H) : Option (Unit × ea_H) := gX12_leaves b0 1000000000 0 x1 0 0 0 0 0 0 h
def okX12_leaves (b0 : Nat) (x1 : Int32) (h : ea_H) : Prop := ∃ x, qX12_leaves b0 x1 h = some x
noncomputable def wX12_leaves (b0 : Nat) (x1 : Int32) (h : ea_H) : ea_H := ((qX12_leaves b0 x1 h).getD ((), h)).2
theorem sX12_leaves {d : Nat} {b0 : Nat} {x1 : Int32} {h : ea_H} (hd : 6 ≤ d) (hs : ShM b0 h) (K : okX12_leaves b0 x1 h) : ea_Met mX12_leaves d [vR (some (b0 + 0)), vI x1] h none (wX12_leaves b0 x1 h) := by
  obtain ⟨⟨x, y⟩, K⟩ := K
  unfold wX12_leaves
  rw [K]
  unfold qX12_leaves at K
  exact ea_enter rfl (Nat.le_of_ble_eq_true rfl) ((tX12_leaves hd 1000000000 0 x1 0 0 0 0 0 0 h x y K hs).1 rfl)
theorem zX12_leaves {b0 : Nat} : ∀ (f lbl : Nat) (x1 : Int32) (x2 : Int32) (x3 : Int32) (x4 : Int32) (x5 : Int32) (x6 : Int32) (x7 : Int32) (h : ea_H) (r : Unit) (h' : ea_H), gX12_leaves b0 f lbl x1 x2 x3 x4 x5 x6 x7 h = some (r, h') → ShM b0 h → ShM b0 h' := by
  intro f
  induction f with
  | zero => intro lbl x1 x2 x3 x4 x5 x6 x7 h r h' E; cases E
  | succ f ih =>
    intro lbl x1 x2 x3 x4 x5 x6 x7 h r h' E hs
    unfold gX12_leaves at E
    by_cases el0 : lbl = 0
    · have E := (if_pos el0).symm.trans E
      obtain ⟨z1, E⟩ := gd_some E
      obtain ⟨z2, E⟩ := gd_some E
      obtain ⟨z3, E⟩ := gd_some E
      exact ih 25 (x1 : Int32) ((ea_i h (b0 + 12) (Int32.toNatClampNeg x1)) : Int32) ((ea_i h (b0 + 13) (Int32.toNatClampNeg x1)) : Int32) ((vX12_townOf b0 ((ea_i h (b0 + 12) (Int32.toNatClampNeg x1)) : Int32) ((ea_i h (b0 + 13) (Int32.toNatClampNeg x1)) : Int32) h) : Int32) (0 : Int32) 0 0 h _ _ E hs
    have E := (if_neg el0).symm.trans E
    by_cases el1 : lbl = 25
    · have E := (if_pos el1).symm.trans E
      by_cases c25 : (ea_i h (b0 + 0) 63) ≤ x5
      · have E := (if_pos c25).symm.trans E
        exact ih 151 0 (x2 : Int32) (x3 : Int32) 0 0 0 0 h _ _ E hs
      have E := (if_neg c25).symm.trans E
      obtain ⟨z4, E⟩ := gd_some E
      by_cases c24 : (ea_i h (b0 + 8) (Int32.toNatClampNeg (((8 : Int32) * x2) + x3))) = (0 : Int32)
      · have E := (if_pos c24).symm.trans E
        obtain ⟨z5, E⟩ := gd_some E
        by_cases c23 : (ea_i h (b0 + 55) (Int32.toNatClampNeg x5)) = (0 : Int32)
        · have E := (if_pos c23).symm.trans E
          obtain ⟨z6, E⟩ := gd_some E
          by_cases c22 : (ea_i h (b0 + 56) (Int32.toNatClampNeg x5)) = x4
          · have E := (if_pos c22).symm.trans E
            obtain ⟨z7, E⟩ := gd_some E
            obtain ⟨z8, E⟩ := gd_some E
            obtain ⟨z9, E⟩ := gd_some E
            by_cases c21 : (vX12_bestFrom b0 (x4 : Int32) ((ea_i h (b0 + 10) (Int32.toNatClampNeg x1)) : Int32) ((ea_i h (b0 + 40) (Int32.toNatClampNeg x5)) : Int32) h) = x1
            · have E := (if_pos c21).symm.trans E
              obtain ⟨z11, E⟩ := gd_some E
              obtain ⟨z12, E⟩ := gd_some E
              obtain ⟨z13, E⟩ := gd_some E
              obtain ⟨z15, E⟩ := gd_some E
              obtain ⟨z17, E⟩ := gd_some E
              obtain ⟨z19, E⟩ := gd_some E
              exact ih 25 (x1 : Int32) (x2 : Int32) (x3 : Int32) (x4 : Int32) ((x5 + (1 : Int32)) : Int32) 0 0 (wX12_turns b0 (x5 : Int32) ((ea_i (ea_wi (ea_wi (wX12_bestFrom b0 (x4 : Int32) ((ea_i h (b0 + 10) (Int32.toNatClampNeg x1)) : Int32) ((ea_i h (b0 + 40) (Int32.toNatClampNeg x5)) : Int32) h) (b0 + 57) (Int32.toNatClampNeg x5) (ea_i (wX12_bestFrom b0 (x4 : Int32) ((ea_i h (b0 + 10) (Int32.toNatClampNeg x1)) : Int32) ((ea_i h (b0 + 40) (Int32.toNatClampNeg x5)) : Int32) h) (b0 + 17) (Int32.toNatClampNeg (((12 : Int32) * x1) + (ea_i (wX12_bestFrom b0 (x4 : Int32) ((ea_i h (b0 + 10) (Int32.toNatClampNeg x1)) : Int32) ((ea_i h (b0 + 40) (Int32.toNatClampNeg x5)) : Int32) h) (b0 + 40) (Int32.toNatClampNeg x5)))))) (b0 + 61) (Int32.toNatClampNeg x5) 0) (b0 + 10) (Int32.toNatClampNeg x1)) : Int32) (1 : Int32) ((vX12_code (x2 : Int32) (ea_wi (ea_wi (wX12_bestFrom b0 (x4 : Int32) ((ea_i h (b0 + 10) (Int32.toNatClampNeg x1)) : Int32) ((ea_i h (b0 + 40) (Int32.toNatClampNeg x5)) : Int32) h) (b0 + 57) (Int32.toNatClampNeg x5) (ea_i (wX12_bestFrom b0 (x4 : Int32) ((ea_i h (b0 + 10) (Int32.toNatClampNeg x1)) : Int32) ((ea_i h (b0 + 40) (Int32.toNatClampNeg x5)) : Int32) h) (b0 + 17) (Int32.toNatClampNeg (((12 : Int32) * x1) + (ea_i (wX12_bestFrom b0 (x4 : Int32) ((ea_i h (b0 + 10) (Int32.toNatClampNeg x1)) : Int32) ((ea_i h (b0 + 40) (Int32.toNatClampNeg x5)) : Int32) h) (b0 + 40) (Int32.toNatClampNeg x5)))))) (b0 + 61) (Int32.toNatClampNeg x5) 0)) : Int32) (ea_wi (ea_wi (wX12_bestFrom b0 (x4 : Int32) ((ea_i h (b0 + 10) (Int32.toNatClampNeg x1)) : Int32) ((ea_i h (b0 + 40) (Int32.toNatClampNeg x5)) : Int32) h) (b0 + 57) (Int32.toNatClampNeg x5) (ea_i (wX12_bestFrom b0 (x4 : Int32) ((ea_i h (b0 + 10) (Int32.toNatClampNeg x1)) : Int32) ((ea_i h (b0 + 40) (Int32.toNatClampNeg x5)) : Int32) h) (b0 + 17) (Int32.toNatClampNeg (((12 : Int32) * x1) + (ea_i (wX12_bestFrom b0 (x4 : Int32) ((ea_i h (b0 + 10) (Int32.toNatClampNeg x1)) : Int32) ((ea_i h (b0 + 40) (Int32.toNatClampNeg x5)) : Int32) h) (b0 + 40) (Int32.toNatClampNeg x5)))))) (b0 + 61) (Int32.toNatClampNeg x5) 0)) _ _ E (shX12_turns (ShM_wi (ShM_wi (shX12_bestFrom hs))))
            have E := (if_neg c21).symm.trans E
            exact ih 25 (x1 : Int32) (x2 : Int32) (x3 : Int32) (x4 : Int32) ((x5 + (1 : Int32)) : Int32) 0 0 (wX12_bestFrom b0 (x4 : Int32) ((ea_i h (b0 + 10) (Int32.toNatClampNeg x1)) : Int32) ((ea_i h (b0 + 40) (Int32.toNatClampNeg x5)) : Int32) h) _ _ E (shX12_bestFrom hs)
          have E := (if_neg c22).symm.trans E
          exact ih 25 (x1 : Int32) (x2 : Int32) (x3 : Int32) (x4 : Int32) ((x5 + (1 : Int32)) : Int32) 0 0 h _ _ E hs
        have E := (if_neg c23).symm.trans E
        exact ih 25 (x1 : Int32) (x2 : Int32) (x3 : Int32) (x4 : Int32) ((x5 + (1 : Int32)) : Int32) 0 0 h _ _ E hs
      have E := (if_neg c24).symm.trans E
      exact ih 151 0 (x2 : Int32) (x3 : Int32) 0 0 0 0 h _ _ E hs
    have E := (if_neg el1).symm.trans E
    by_cases el2 : lbl = 151
    · have E := (if_pos el2).symm.trans E
      obtain ⟨z26, E⟩ := gd_some E
      obtain ⟨z27, E⟩ := gd_some E
      exact ih 171 0 (x2 : Int32) 0 0 (((vX12_comesAt b0 (x2 : Int32) ((x3 + (1 : Int32)) : Int32) h) - (vX12_goesAt b0 (x2 : Int32) (x3 : Int32) h)) : Int32) (0 : Int32) 0 h _ _ E hs
    have E := (if_neg el2).symm.trans E
    by_cases el3 : lbl = 171
    · have E := (if_pos el3).symm.trans E
      by_cases c35 : (ea_i h (b0 + 0) 92) ≤ x6
      · have E := (if_pos c35).symm.trans E
        exact ih 224 0 (x2 : Int32) 0 0 0 (0 : Int32) 0 h _ _ E hs
      have E := (if_neg c35).symm.trans E
      obtain ⟨z28, E⟩ := gd_some E
      by_cases c34 : (ea_i h (b0 + 68) (Int32.toNatClampNeg x6)) = (x2 / (7 : Int32))
      · have E := (if_pos c34).symm.trans E
        obtain ⟨z31, E⟩ := gd_some E
        obtain ⟨z32, E⟩ := gd_some E
        exact ih 171 0 (x2 : Int32) 0 0 (x5 : Int32) ((x6 + (1 : Int32)) : Int32) 0 (ea_wi h (b0 + 69) (Int32.toNatClampNeg x6) ((ea_i h (b0 + 66) (Int32.toNatClampNeg x6)) * x5)) _ _ E (ShM_wi hs)
      have E := (if_neg c34).symm.trans E
      obtain ⟨z29, E⟩ := gd_some E
      exact ih 171 0 (x2 : Int32) 0 0 (x5 : Int32) ((x6 + (1 : Int32)) : Int32) 0 (ea_wi h (b0 + 69) (Int32.toNatClampNeg x6) 0) _ _ E (ShM_wi hs)
    have E := (if_neg el3).symm.trans E
    by_cases el4 : lbl = 224
    · have E := (if_pos el4).symm.trans E
      by_cases c36 : (8 : Int32) ≤ x6
      · have E := (if_pos c36).symm.trans E
        exact ea_shO E hs
      have E := (if_neg c36).symm.trans E
      exact ih 234 0 (x2 : Int32) 0 0 0 (x6 : Int32) (0 : Int32) h _ _ E hs
    have E := (if_neg el4).symm.trans E
    by_cases el5 : lbl = 234
    · have E := (if_pos el5).symm.trans E
      by_cases c46 : (ea_i h (b0 + 0) 63) ≤ x7
      · have E := (if_pos c46).symm.trans E
        exact ih 224 0 (x2 : Int32) 0 0 0 ((x6 + (1 : Int32)) : Int32) 0 h _ _ E hs
      have E := (if_neg c46).symm.trans E
      obtain ⟨z37, E⟩ := gd_some E
      by_cases c45 : (vX12_isAboard b0 (x7 : Int32) (x2 : Int32) h) = (0 : Int32)
      · have E := (if_pos c45).symm.trans E
        exact ih 234 0 (x2 : Int32) 0 0 0 (x6 : Int32) ((x7 + (1 : Int32)) : Int32) h _ _ E hs
      have E := (if_neg c45).symm.trans E
      obtain ⟨z38, E⟩ := gd_some E
      by_cases c44 : (ea_i h (b0 + 61) (Int32.toNatClampNeg x7)) = (0 : Int32)
      · have E := (if_pos c44).symm.trans E
        obtain ⟨z39, E⟩ := gd_some E
        by_cases c43 : (ea_i h (b0 + 57) (Int32.toNatClampNeg x7)) = x6
        · have E := (if_pos c43).symm.trans E
          obtain ⟨z40, E⟩ := gd_some E
          obtain ⟨z41, E⟩ := gd_some E
          exact ih 234 0 (x2 : Int32) 0 0 0 (x6 : Int32) ((x7 + (1 : Int32)) : Int32) (wX12_sorts b0 (x7 : Int32) ((vX12_townOf b0 (x2 : Int32) (x6 : Int32) h) : Int32) h) _ _ E (shX12_sorts hs)
        have E := (if_neg c43).symm.trans E
        exact ih 234 0 (x2 : Int32) 0 0 0 (x6 : Int32) ((x7 + (1 : Int32)) : Int32) h _ _ E hs
      have E := (if_neg c44).symm.trans E
      exact ih 234 0 (x2 : Int32) 0 0 0 (x6 : Int32) ((x7 + (1 : Int32)) : Int32) h _ _ E hs
    have E := (if_neg el5).symm.trans E
    cases E
theorem shX12_leaves {b0 : Nat} {x1 : Int32} {h : ea_H} (hs : ShM b0 h) : ShM b0 (wX12_leaves b0 x1 h) := by
  unfold wX12_leaves
  cases K : qX12_leaves b0 x1 h with
  | none => exact hs
  | some x => obtain ⟨x, y⟩ := x; unfold qX12_leaves at K; exact zX12_leaves _ _ _ _ _ _ _ _ _ _ _ _ K hs
noncomputable def gX12_leadsOn (b0 : Nat) : Nat → Nat → Int32 → Int32 → Int32 → Int32 → ea_H → Option (Unit × ea_H)
  | 0, _, _, _, _, _, _ => none
  | f + 1, lbl, x1, x2, x3, x4, h =>
    if lbl = 0 then (gd ((okX12_table b0 h)) (gX12_leadsOn b0 f 15 (x1 : Int32) (x2 : Int32) (((x1 / (1440 : Int32)) + (1 : Int32)) : Int32) (0 : Int32) (wX12_table b0 h))) else
    if lbl = 15 then (if (ea_i h (b0 + 0) 13) ≤ x4 then (gX12_leadsOn b0 f 110 0 (x2 : Int32) (x3 : Int32) 0 h) else (gd (vp_in x4 1000) (if x2 < (ea_i h (b0 + 10) (Int32.toNatClampNeg x4)) then (gX12_leadsOn b0 f 110 0 (x2 : Int32) (x3 : Int32) 0 h) else (gd (vp_in x4 1000) (if x1 < (ea_i h (b0 + 10) (Int32.toNatClampNeg x4)) then (gX12_leadsOn b0 f 49 (x1 : Int32) (x2 : Int32) (x3 : Int32) (x4 : Int32) h) else (gX12_leadsOn b0 f 15 (x1 : Int32) (x2 : Int32) (x3 : Int32) ((x4 + (1 : Int32)) : Int32) h)))))) else
    if lbl = 49 then (gd (vp_in x4 1000) (if (ea_i h (b0 + 10) (Int32.toNatClampNeg x4)) < ((1440 : Int32) * x3) then (gd (vp_in x4 1000) (if (ea_i h (b0 + 11) (Int32.toNatClampNeg x4)) = (0 : Int32) then (gd ((okX12_coming b0 (x4 : Int32) h)) (gX12_leadsOn b0 f 15 (x1 : Int32) (x2 : Int32) (x3 : Int32) ((x4 + (1 : Int32)) : Int32) (wX12_coming b0 (x4 : Int32) h))) else (gd ((okX12_leaves b0 (x4 : Int32) h)) (gX12_leadsOn b0 f 15 (x1 : Int32) (x2 : Int32) (x3 : Int32) ((x4 + (1 : Int32)) : Int32) (wX12_leaves b0 (x4 : Int32) h))))) else (gd ((okX12_begins b0 (((1440 : Int32) * x3) : Int32) h)) (gX12_leadsOn b0 f 49 (x1 : Int32) (x2 : Int32) ((x3 + (1 : Int32)) : Int32) (x4 : Int32) (wX12_begins b0 (((1440 : Int32) * x3) : Int32) h))))) else
    if lbl = 110 then (if x2 < ((1440 : Int32) * x3) then (some ((), h)) else (gd ((okX12_begins b0 (((1440 : Int32) * x3) : Int32) h)) (gX12_leadsOn b0 f 110 0 (x2 : Int32) ((x3 + (1 : Int32)) : Int32) 0 (wX12_begins b0 (((1440 : Int32) * x3) : Int32) h)))) else none
theorem tX12_leadsOn {d : Nat} {b0 : Nat} {h0 : ea_H} (hd : 7 ≤ d) : ∀ (f lbl : Nat) (x1 : Int32) (x2 : Int32) (x3 : Int32) (x4 : Int32) (h : ea_H) (r : Unit) (h' : ea_H), gX12_leadsOn b0 f lbl x1 x2 x3 x4 h = some (r, h') → ShM b0 h → (lbl = 0 → ea_W mX12_leadsOn d h0 none h' 0 [(0, vR (some (b0 + 0))), (1, vI x1), (2, vI x2)] [] h) ∧ (lbl = 15 → ea_W mX12_leadsOn d h0 none h' 15 [(0, vR (some (b0 + 0))), (1, vI x1), (2, vI x2), (3, vI x3), (4, vI x4)] [] h) ∧ (lbl = 49 → ea_W mX12_leadsOn d h0 none h' 49 [(0, vR (some (b0 + 0))), (1, vI x1), (2, vI x2), (3, vI x3), (4, vI x4)] [] h) ∧ (lbl = 110 → ea_W mX12_leadsOn d h0 none h' 110 [(0, vR (some (b0 + 0))), (2, vI x2), (3, vI x3)] [] h) := by
  intro f
  induction f with
  | zero => intro lbl x1 x2 x3 x4 h r h' E; cases E
  | succ f ih =>
    intro lbl x1 x2 x3 x4 h r h' E hs
    unfold gX12_leadsOn at E
    refine ⟨?_, ?_⟩
    · intro el
      subst el
      have E := (if_pos rfl).symm.trans E
      refine ea_aload_n (pc := 0) dX12_leadsOn_0 rfl 0 rfl ?_
      obtain ⟨z1, E⟩ := gd_some E
      refine ea_callV (pc := 1) (d' := d - 1) (As := []) (st := []) dX12_leadsOn_1 kX12_table (sX12_table (d := d - 1) (by omega) hs z1) (by omega) rfl (Nat.le_of_ble_eq_true rfl) ew_1774 ew_1776 ew_54 (ci := 12) rfl (by decide) (hs.1 0 (by decide)).1 (hs.1 0 (by decide)).2.1 ?_
      have hs2 : ShM b0 (wX12_table b0 h) := shX12_table hs
      refine ea_iload_n (pc := 4) dX12_leadsOn_4 rfl 1 rfl ?_
      refine ea_sipush (pc := 5) dX12_leadsOn_5 (v := 1440) rfl ?_
      refine ea_idiv (pc := 8) dX12_leadsOn_8 (by decide) ?_
      refine ea_iconst (pc := 9) dX12_leadsOn_9 (v := 1) rfl ?_
      refine ea_iadd (pc := 10) dX12_leadsOn_10 ?_
      refine ea_istore_n (pc := 11) (lv' := [(0, vR (some (b0 + 0))), (1, vI x1), (2, vI x2), (3, vI ((x1 / (1440 : Int32)) + (1 : Int32)))]) dX12_leadsOn_11 rfl (Nat.le_of_ble_eq_true rfl) [1, 2, 3, 0] rfl ?_
      refine ea_iconst (pc := 12) dX12_leadsOn_12 (v := 0) rfl ?_
      refine ea_istore (pc := 13) (lv' := [(0, vR (some (b0 + 0))), (1, vI x1), (2, vI x2), (3, vI ((x1 / (1440 : Int32)) + (1 : Int32))), (4, vI 0)]) dX12_leadsOn_13 (Nat.le_of_ble_eq_true rfl) [1, 2, 3, 4, 0] rfl ?_
      exact ((ih 15 (x1 : Int32) (x2 : Int32) (((x1 / (1440 : Int32)) + (1 : Int32)) : Int32) (0 : Int32) (wX12_table b0 h) _ _ E hs2).2.1 rfl)
    refine ⟨?_, ?_⟩
    · intro el
      subst el
      have E := (if_neg (by decide)).symm.trans E
      have E := (if_pos rfl).symm.trans E
      refine ea_iload (pc := 15) dX12_leadsOn_15 4 rfl ?_
      refine ea_aload_n (pc := 17) dX12_leadsOn_17 rfl 0 rfl ?_
      refine ea_getI (pc := 18) dX12_leadsOn_18 ec_12 (k := 13) (Nat.le_of_ble_eq_true rfl) rfl (Or.inl ew_1358) (hs.1 0 (by decide)).1 (hs.1 0 (by decide)).2.1 ?_
      refine ea_icmp_ge (pc := 21) (tgt := 110) dX12_leadsOn_21 rfl (fun c7 => ?_) (fun c7 => ?_)
      · have E := (if_pos c7).symm.trans E
        exact (ea_fewer [0, 2, 3] rfl ((ih 110 0 (x2 : Int32) (x3 : Int32) 0 h _ _ E hs).2.2.2 rfl))
      · have E := (if_neg c7).symm.trans E
        refine ea_aload_n (pc := 24) dX12_leadsOn_24 rfl 0 rfl ?_
        refine ea_getR (pc := 25) dX12_leadsOn_25 ec_12 (k := 14) (Nat.le_of_ble_eq_true rfl) rfl (Or.inl ew_1359) (hs.1 0 (by decide)).1 (hs.1 0 (by decide)).2.1 (hs.2 0 14 rfl) ?_
        refine ea_iload (pc := 28) dX12_leadsOn_28 4 rfl ?_
        obtain ⟨z3, E⟩ := gd_some E
        refine ea_iald (pc := 30) dX12_leadsOn_30 (hs.1 10 (by decide)).1 (hs.1 10 (by decide)).2.1 (ea_vpl (hs.1 10 (by decide)).2.2 z3) ?_
        refine ea_iload_n (pc := 31) dX12_leadsOn_31 rfl 2 rfl ?_
        refine ea_icmp_gt (pc := 32) (tgt := 110) dX12_leadsOn_32 rfl (fun c6 => ?_) (fun c6 => ?_)
        · have E := (if_pos c6).symm.trans E
          exact (ea_fewer [0, 2, 3] rfl ((ih 110 0 (x2 : Int32) (x3 : Int32) 0 h _ _ E hs).2.2.2 rfl))
        · have E := (if_neg c6).symm.trans E
          refine ea_aload_n (pc := 35) dX12_leadsOn_35 rfl 0 rfl ?_
          refine ea_getR (pc := 36) dX12_leadsOn_36 ec_12 (k := 14) (Nat.le_of_ble_eq_true rfl) rfl (Or.inl ew_1359) (hs.1 0 (by decide)).1 (hs.1 0 (by decide)).2.1 (hs.2 0 14 rfl) ?_
          refine ea_iload (pc := 39) dX12_leadsOn_39 4 rfl ?_
          obtain ⟨z4, E⟩ := gd_some E
          refine ea_iald (pc := 41) dX12_leadsOn_41 (hs.1 10 (by decide)).1 (hs.1 10 (by decide)).2.1 (ea_vpl (hs.1 10 (by decide)).2.2 z4) ?_
          refine ea_iload_n (pc := 42) dX12_leadsOn_42 rfl 1 rfl ?_
          refine ea_icmp_gt (pc := 43) (tgt := 49) dX12_leadsOn_43 rfl (fun c5 => ?_) (fun c5 => ?_)
          · have E := (if_pos c5).symm.trans E
            exact ((ih 49 (x1 : Int32) (x2 : Int32) (x3 : Int32) (x4 : Int32) h _ _ E hs).2.2.1 rfl)
          · have E := (if_neg c5).symm.trans E
            refine ea_goto (pc := 46) (tgt := 104) dX12_leadsOn_46 rfl ?_
            refine ea_iinc (pc := 104) (v := 1) (lv' := [(0, vR (some (b0 + 0))), (1, vI x1), (2, vI x2), (3, vI x3), (4, vI (x4 + (1 : Int32)))]) dX12_leadsOn_104 4 rfl rfl (Nat.le_of_ble_eq_true rfl) [1, 2, 3, 4, 0] rfl ?_
            refine ea_goto (pc := 107) (tgt := 15) dX12_leadsOn_107 rfl ?_
            exact ((ih 15 (x1 : Int32) (x2 : Int32) (x3 : Int32) ((x4 + (1 : Int32)) : Int32) h _ _ E hs).2.1 rfl)
    refine ⟨?_, ?_⟩
    · intro el
      subst el
      have E := (if_neg (by decide)).symm.trans E
      have E := (if_neg (by decide)).symm.trans E
      have E := (if_pos rfl).symm.trans E
      refine ea_sipush (pc := 49) dX12_leadsOn_49 (v := 1440) rfl ?_
      refine ea_iload_n (pc := 52) dX12_leadsOn_52 rfl 3 rfl ?_
      refine ea_imul (pc := 53) dX12_leadsOn_53 ?_
      refine ea_aload_n (pc := 54) dX12_leadsOn_54 rfl 0 rfl ?_
      refine ea_getR (pc := 55) dX12_leadsOn_55 ec_12 (k := 14) (Nat.le_of_ble_eq_true rfl) rfl (Or.inl ew_1359) (hs.1 0 (by decide)).1 (hs.1 0 (by decide)).2.1 (hs.2 0 14 rfl) ?_
      refine ea_iload (pc := 58) dX12_leadsOn_58 4 rfl ?_
      obtain ⟨z8, E⟩ := gd_some E
      refine ea_iald (pc := 60) dX12_leadsOn_60 (hs.1 10 (by decide)).1 (hs.1 10 (by decide)).2.1 (ea_vpl (hs.1 10 (by decide)).2.2 z8) ?_
      refine ea_icmp_gt (pc := 61) (tgt := 79) dX12_leadsOn_61 rfl (fun c17 => ?_) (fun c17 => ?_)
      · have E := (if_pos c17).symm.trans E
        refine ea_aload_n (pc := 79) dX12_leadsOn_79 rfl 0 rfl ?_
        refine ea_getR (pc := 80) dX12_leadsOn_80 ec_12 (k := 15) (Nat.le_of_ble_eq_true rfl) rfl (Or.inl ew_1360) (hs.1 0 (by decide)).1 (hs.1 0 (by decide)).2.1 (hs.2 0 15 rfl) ?_
        refine ea_iload (pc := 83) dX12_leadsOn_83 4 rfl ?_
        obtain ⟨z9, E⟩ := gd_some E
        refine ea_iald (pc := 85) dX12_leadsOn_85 (hs.1 11 (by decide)).1 (hs.1 11 (by decide)).2.1 (ea_vpl (hs.1 11 (by decide)).2.2 z9) ?_
        refine ea_if_ne (pc := 86) (tgt := 98) dX12_leadsOn_86 rfl (fun c14 => ?_) (fun c14 => ?_)
        · have E := (if_neg c14).symm.trans E
          refine ea_aload_n (pc := 98) dX12_leadsOn_98 rfl 0 rfl ?_
          refine ea_iload (pc := 99) dX12_leadsOn_99 4 rfl ?_
          obtain ⟨z10, E⟩ := gd_some E
          refine ea_callV (pc := 101) (d' := d - 1) (As := [vI x4]) (st := []) dX12_leadsOn_101 kX12_leaves (sX12_leaves (d := d - 1) (by omega) hs z10) (by omega) rfl (Nat.le_of_ble_eq_true rfl) ew_2078 ew_2080 ew_97 (ci := 12) rfl (by decide) (hs.1 0 (by decide)).1 (hs.1 0 (by decide)).2.1 ?_
          have hs11 : ShM b0 (wX12_leaves b0 (x4 : Int32) h) := shX12_leaves hs
          refine ea_iinc (pc := 104) (v := 1) (lv' := [(0, vR (some (b0 + 0))), (1, vI x1), (2, vI x2), (3, vI x3), (4, vI (x4 + (1 : Int32)))]) dX12_leadsOn_104 4 rfl rfl (Nat.le_of_ble_eq_true rfl) [1, 2, 3, 4, 0] rfl ?_
          refine ea_goto (pc := 107) (tgt := 15) dX12_leadsOn_107 rfl ?_
          exact ((ih 15 (x1 : Int32) (x2 : Int32) (x3 : Int32) ((x4 + (1 : Int32)) : Int32) (wX12_leaves b0 (x4 : Int32) h) _ _ E hs11).2.1 rfl)
        · have E := (if_pos c14).symm.trans E
          refine ea_aload_n (pc := 89) dX12_leadsOn_89 rfl 0 rfl ?_
          refine ea_iload (pc := 90) dX12_leadsOn_90 4 rfl ?_
          obtain ⟨z12, E⟩ := gd_some E
          refine ea_callV (pc := 92) (d' := d - 1) (As := [vI x4]) (st := []) dX12_leadsOn_92 kX12_coming (sX12_coming (d := d - 1) (by omega) hs z12) (by omega) rfl (Nat.le_of_ble_eq_true rfl) ew_2063 ew_2065 ew_94 (ci := 12) rfl (by decide) (hs.1 0 (by decide)).1 (hs.1 0 (by decide)).2.1 ?_
          have hs13 : ShM b0 (wX12_coming b0 (x4 : Int32) h) := shX12_coming hs
          refine ea_goto (pc := 95) (tgt := 104) dX12_leadsOn_95 rfl ?_
          refine ea_iinc (pc := 104) (v := 1) (lv' := [(0, vR (some (b0 + 0))), (1, vI x1), (2, vI x2), (3, vI x3), (4, vI (x4 + (1 : Int32)))]) dX12_leadsOn_104 4 rfl rfl (Nat.le_of_ble_eq_true rfl) [1, 2, 3, 4, 0] rfl ?_
          refine ea_goto (pc := 107) (tgt := 15) dX12_leadsOn_107 rfl ?_
          exact ((ih 15 (x1 : Int32) (x2 : Int32) (x3 : Int32) ((x4 + (1 : Int32)) : Int32) (wX12_coming b0 (x4 : Int32) h) _ _ E hs13).2.1 rfl)
      · have E := (if_neg c17).symm.trans E
        refine ea_aload_n (pc := 64) dX12_leadsOn_64 rfl 0 rfl ?_
        refine ea_sipush (pc := 65) dX12_leadsOn_65 (v := 1440) rfl ?_
        refine ea_iload_n (pc := 68) dX12_leadsOn_68 rfl 3 rfl ?_
        refine ea_imul (pc := 69) dX12_leadsOn_69 ?_
        obtain ⟨z15, E⟩ := gd_some E
        refine ea_callV (pc := 70) (d' := d - 1) (As := [vI ((1440 : Int32) * x3)]) (st := []) dX12_leadsOn_70 kX12_begins (sX12_begins (d := d - 1) (by omega) hs z15) (by omega) rfl (Nat.le_of_ble_eq_true rfl) ew_2059 ew_2061 ew_93 (ci := 12) rfl (by decide) (hs.1 0 (by decide)).1 (hs.1 0 (by decide)).2.1 ?_
        have hs16 : ShM b0 (wX12_begins b0 (((1440 : Int32) * x3) : Int32) h) := shX12_begins hs
        refine ea_iinc (pc := 73) (v := 1) (lv' := [(0, vR (some (b0 + 0))), (1, vI x1), (2, vI x2), (3, vI (x3 + (1 : Int32))), (4, vI x4)]) dX12_leadsOn_73 3 rfl rfl (Nat.le_of_ble_eq_true rfl) [1, 2, 3, 0, 4] rfl ?_
        refine ea_goto (pc := 76) (tgt := 49) dX12_leadsOn_76 rfl ?_
        exact ((ih 49 (x1 : Int32) (x2 : Int32) ((x3 + (1 : Int32)) : Int32) (x4 : Int32) (wX12_begins b0 (((1440 : Int32) * x3) : Int32) h) _ _ E hs16).2.2.1 rfl)
    intro el
    subst el
    have E := (if_neg (by decide)).symm.trans E
    have E := (if_neg (by decide)).symm.trans E
    have E := (if_neg (by decide)).symm.trans E
    have E := (if_pos rfl).symm.trans E
    refine ea_sipush (pc := 110) dX12_leadsOn_110 (v := 1440) rfl ?_
    refine ea_iload_n (pc := 113) dX12_leadsOn_113 rfl 2 rfl ?_
    refine ea_imul (pc := 114) dX12_leadsOn_114 ?_
    refine ea_iload_n (pc := 115) dX12_leadsOn_115 rfl 1 rfl ?_
    refine ea_icmp_gt (pc := 116) (tgt := 134) dX12_leadsOn_116 rfl (fun c20 => ?_) (fun c20 => ?_)
    · have E := (if_pos c20).symm.trans E
      exact ea_vretO (pc := 134) dX12_leadsOn_134 rfl E
    · have E := (if_neg c20).symm.trans E
      refine ea_aload_n (pc := 119) dX12_leadsOn_119 rfl 0 rfl ?_
      refine ea_sipush (pc := 120) dX12_leadsOn_120 (v := 1440) rfl ?_
      refine ea_iload_n (pc := 123) dX12_leadsOn_123 rfl 2 rfl ?_
      refine ea_imul (pc := 124) dX12_leadsOn_124 ?_
      obtain ⟨z18, E⟩ := gd_some E
      refine ea_callV (pc := 125) (d' := d - 1) (As := [vI ((1440 : Int32) * x3)]) (st := []) dX12_leadsOn_125 kX12_begins (sX12_begins (d := d - 1) (by omega) hs z18) (by omega) rfl (Nat.le_of_ble_eq_true rfl) ew_2059 ew_2061 ew_93 (ci := 12) rfl (by decide) (hs.1 0 (by decide)).1 (hs.1 0 (by decide)).2.1 ?_
      have hs19 : ShM b0 (wX12_begins b0 (((1440 : Int32) * x3) : Int32) h) := shX12_begins hs
      refine ea_iinc (pc := 128) (v := 1) (lv' := [(0, vR (some (b0 + 0))), (2, vI x2), (3, vI (x3 + (1 : Int32)))]) dX12_leadsOn_128 2 rfl rfl (Nat.le_of_ble_eq_true rfl) [1, 2, 0] rfl ?_
      refine ea_goto (pc := 131) (tgt := 110) dX12_leadsOn_131 rfl ?_
      exact ((ih 110 0 (x2 : Int32) ((x3 + (1 : Int32)) : Int32) 0 (wX12_begins b0 (((1440 : Int32) * x3) : Int32) h) _ _ E hs19).2.2.2 rfl)
noncomputable def qX12_leadsOn (b0 : Nat) (x1 : Int32) (x2 : Int32) (h : ea_H) : Option (Unit × ea_H) := gX12_leadsOn b0 1000000000 0 x1 x2 0 0 h
def okX12_leadsOn (b0 : Nat) (x1 : Int32) (x2 : Int32) (h : ea_H) : Prop := ∃ x, qX12_leadsOn b0 x1 x2 h = some x
noncomputable def wX12_leadsOn (b0 : Nat) (x1 : Int32) (x2 : Int32) (h : ea_H) : ea_H := ((qX12_leadsOn b0 x1 x2 h).getD ((), h)).2
theorem sX12_leadsOn {d : Nat} {b0 : Nat} {x1 : Int32} {x2 : Int32} {h : ea_H} (hd : 7 ≤ d) (hs : ShM b0 h) (K : okX12_leadsOn b0 x1 x2 h) : ea_Met mX12_leadsOn d [vR (some (b0 + 0)), vI x1, vI x2] h none (wX12_leadsOn b0 x1 x2 h) := by
  obtain ⟨⟨x, y⟩, K⟩ := K
  unfold wX12_leadsOn
  rw [K]
  unfold qX12_leadsOn at K
  exact ea_enter rfl (Nat.le_of_ble_eq_true rfl) ((tX12_leadsOn hd 1000000000 0 x1 x2 0 0 h x y K hs).1 rfl)
theorem zX12_leadsOn {b0 : Nat} : ∀ (f lbl : Nat) (x1 : Int32) (x2 : Int32) (x3 : Int32) (x4 : Int32) (h : ea_H) (r : Unit) (h' : ea_H), gX12_leadsOn b0 f lbl x1 x2 x3 x4 h = some (r, h') → ShM b0 h → ShM b0 h' := by
  intro f
  induction f with
  | zero => intro lbl x1 x2 x3 x4 h r h' E; cases E
  | succ f ih =>
    intro lbl x1 x2 x3 x4 h r h' E hs
    unfold gX12_leadsOn at E
    by_cases el0 : lbl = 0
    · have E := (if_pos el0).symm.trans E
      obtain ⟨z1, E⟩ := gd_some E
      exact ih 15 (x1 : Int32) (x2 : Int32) (((x1 / (1440 : Int32)) + (1 : Int32)) : Int32) (0 : Int32) (wX12_table b0 h) _ _ E (shX12_table hs)
    have E := (if_neg el0).symm.trans E
    by_cases el1 : lbl = 15
    · have E := (if_pos el1).symm.trans E
      by_cases c7 : (ea_i h (b0 + 0) 13) ≤ x4
      · have E := (if_pos c7).symm.trans E
        exact ih 110 0 (x2 : Int32) (x3 : Int32) 0 h _ _ E hs
      have E := (if_neg c7).symm.trans E
      obtain ⟨z3, E⟩ := gd_some E
      by_cases c6 : x2 < (ea_i h (b0 + 10) (Int32.toNatClampNeg x4))
      · have E := (if_pos c6).symm.trans E
        exact ih 110 0 (x2 : Int32) (x3 : Int32) 0 h _ _ E hs
      have E := (if_neg c6).symm.trans E
      obtain ⟨z4, E⟩ := gd_some E
      by_cases c5 : x1 < (ea_i h (b0 + 10) (Int32.toNatClampNeg x4))
      · have E := (if_pos c5).symm.trans E
        exact ih 49 (x1 : Int32) (x2 : Int32) (x3 : Int32) (x4 : Int32) h _ _ E hs
      have E := (if_neg c5).symm.trans E
      exact ih 15 (x1 : Int32) (x2 : Int32) (x3 : Int32) ((x4 + (1 : Int32)) : Int32) h _ _ E hs
    have E := (if_neg el1).symm.trans E
    by_cases el2 : lbl = 49
    · have E := (if_pos el2).symm.trans E
      obtain ⟨z8, E⟩ := gd_some E
      by_cases c17 : (ea_i h (b0 + 10) (Int32.toNatClampNeg x4)) < ((1440 : Int32) * x3)
      · have E := (if_pos c17).symm.trans E
        obtain ⟨z9, E⟩ := gd_some E
        by_cases c14 : (ea_i h (b0 + 11) (Int32.toNatClampNeg x4)) = (0 : Int32)
        · have E := (if_pos c14).symm.trans E
          obtain ⟨z12, E⟩ := gd_some E
          exact ih 15 (x1 : Int32) (x2 : Int32) (x3 : Int32) ((x4 + (1 : Int32)) : Int32) (wX12_coming b0 (x4 : Int32) h) _ _ E (shX12_coming hs)
        have E := (if_neg c14).symm.trans E
        obtain ⟨z10, E⟩ := gd_some E
        exact ih 15 (x1 : Int32) (x2 : Int32) (x3 : Int32) ((x4 + (1 : Int32)) : Int32) (wX12_leaves b0 (x4 : Int32) h) _ _ E (shX12_leaves hs)
      have E := (if_neg c17).symm.trans E
      obtain ⟨z15, E⟩ := gd_some E
      exact ih 49 (x1 : Int32) (x2 : Int32) ((x3 + (1 : Int32)) : Int32) (x4 : Int32) (wX12_begins b0 (((1440 : Int32) * x3) : Int32) h) _ _ E (shX12_begins hs)
    have E := (if_neg el2).symm.trans E
    by_cases el3 : lbl = 110
    · have E := (if_pos el3).symm.trans E
      by_cases c20 : x2 < ((1440 : Int32) * x3)
      · have E := (if_pos c20).symm.trans E
        exact ea_shO E hs
      have E := (if_neg c20).symm.trans E
      obtain ⟨z18, E⟩ := gd_some E
      exact ih 110 0 (x2 : Int32) ((x3 + (1 : Int32)) : Int32) 0 (wX12_begins b0 (((1440 : Int32) * x3) : Int32) h) _ _ E (shX12_begins hs)
    have E := (if_neg el3).symm.trans E
    cases E
theorem shX12_leadsOn {b0 : Nat} {x1 : Int32} {x2 : Int32} {h : ea_H} (hs : ShM b0 h) : ShM b0 (wX12_leadsOn b0 x1 x2 h) := by
  unfold wX12_leadsOn
  cases K : qX12_leadsOn b0 x1 x2 h with
  | none => exact hs
  | some x => obtain ⟨x, y⟩ := x; unfold qX12_leadsOn at K; exact zX12_leadsOn _ _ _ _ _ _ _ _ _ K hs
noncomputable def vX12_minutes (b0 : Nat) (x1 : Int32) (h : ea_H) : Int32 := (if (vX12_isIn (x1 : Int32) (1 : Int32) (3000 : Int32) h) = (0 : Int32) then ((-1) : Int32) else (if (ea_i h (b0 + 0) 0) ≤ ((10079 : Int32) - x1) then (ea_i (ea_wi (wX12_leadsOn b0 ((ea_i h (b0 + 0) 0) : Int32) (((ea_i h (b0 + 0) 0) + x1) : Int32) h) (b0 + 0) 0 ((ea_i (wX12_leadsOn b0 ((ea_i h (b0 + 0) 0) : Int32) (((ea_i h (b0 + 0) 0) + x1) : Int32) h) (b0 + 0) 0) + x1)) (b0 + 0) 0) else ((-1) : Int32)))
noncomputable def wX12_minutes (b0 : Nat) (x1 : Int32) (h : ea_H) : ea_H := (if (vX12_isIn (x1 : Int32) (1 : Int32) (3000 : Int32) h) = (0 : Int32) then h else (if (ea_i h (b0 + 0) 0) ≤ ((10079 : Int32) - x1) then (ea_wi (wX12_leadsOn b0 ((ea_i h (b0 + 0) 0) : Int32) (((ea_i h (b0 + 0) 0) + x1) : Int32) h) (b0 + 0) 0 ((ea_i (wX12_leadsOn b0 ((ea_i h (b0 + 0) 0) : Int32) (((ea_i h (b0 + 0) 0) + x1) : Int32) h) (b0 + 0) 0) + x1)) else h))
def okX12_minutes (b0 : Nat) (x1 : Int32) (h : ea_H) : Prop := ((vX12_isIn (x1 : Int32) (1 : Int32) (3000 : Int32) h) = (0 : Int32) → True) ∧ (¬ (vX12_isIn (x1 : Int32) (1 : Int32) (3000 : Int32) h) = (0 : Int32) → ((ea_i h (b0 + 0) 0) ≤ ((10079 : Int32) - x1) → (okX12_leadsOn b0 ((ea_i h (b0 + 0) 0) : Int32) (((ea_i h (b0 + 0) 0) + x1) : Int32) h)) ∧ (¬ (ea_i h (b0 + 0) 0) ≤ ((10079 : Int32) - x1) → True))
theorem shX12_minutes {b0 : Nat} {x1 : Int32} {h : ea_H} (hs : ShM b0 h) : ShM b0 (wX12_minutes b0 x1 h) := (ShM_it hs (ShM_it (ShM_wi (shX12_leadsOn hs)) hs))
theorem sX12_minutes {d : Nat} {b0 : Nat} {x1 : Int32} {h : ea_H} (hd : 8 ≤ d) (hs : ShM b0 h) (K : okX12_minutes b0 x1 h) : ea_Met mX12_minutes d [vR (some (b0 + 0)), vI x1] h (some (vI (vX12_minutes b0 x1 h))) (wX12_minutes b0 x1 h) := by
  obtain ⟨X, EX⟩ : ∃ z, z = vX12_minutes b0 x1 h := ⟨_, rfl⟩
  rw [← EX]
  unfold vX12_minutes at EX
  obtain ⟨Y, EY⟩ : ∃ z, z = wX12_minutes b0 x1 h := ⟨_, rfl⟩
  rw [← EY]
  unfold wX12_minutes at EY
  unfold okX12_minutes at K
  refine ea_enter rfl (Nat.le_of_ble_eq_true rfl) ?_
  refine ea_iload_n (pc := 0) dX12_minutes_0 rfl 1 rfl ?_
  refine ea_iconst (pc := 1) dX12_minutes_1 (v := 1) rfl ?_
  refine ea_sipush (pc := 2) dX12_minutes_2 (v := 3000) rfl ?_
  refine ea_callS (pc := 5) (d' := d - 1) (As := [vI x1, vI 1, vI 3000]) (st := []) dX12_minutes_5 kX12_isIn (sX12_isIn (d := d - 1) (by omega)) (by omega) rfl (Nat.le_of_ble_eq_true rfl) ew_1712 ew_1713 ?_
  refine ea_if_eq (pc := 8) (tgt := 23) dX12_minutes_8 rfl (fun c6 => ?_) (fun c6 => ?_)
  · have EX := EX.trans (if_pos c6)
    have EY := EY.trans (if_pos c6)
    refine ea_iconst (pc := 23) dX12_minutes_23 (v := (-1)) rfl ?_
    exact ea_iretE (pc := 24) dX12_minutes_24 rfl rfl EX EY
  · have EX := EX.trans (if_neg c6)
    have EY := EY.trans (if_neg c6)
    have K := K.2 c6
    refine ea_aload_n (pc := 11) dX12_minutes_11 rfl 0 rfl ?_
    refine ea_getI (pc := 12) dX12_minutes_12 ec_12 (k := 0) (Nat.le_of_ble_eq_true rfl) rfl (Or.inl ew_1345) (hs.1 0 (by decide)).1 (hs.1 0 (by decide)).2.1 ?_
    refine ea_sipush (pc := 15) dX12_minutes_15 (v := 10079) rfl ?_
    refine ea_iload_n (pc := 18) dX12_minutes_18 rfl 1 rfl ?_
    refine ea_isub (pc := 19) dX12_minutes_19 ?_
    refine ea_icmp_le (pc := 20) (tgt := 25) dX12_minutes_20 rfl (fun c5 => ?_) (fun c5 => ?_)
    · have EX := EX.trans (if_pos c5)
      have EY := EY.trans (if_pos c5)
      have K := K.1 c5
      refine ea_aload_n (pc := 25) dX12_minutes_25 rfl 0 rfl ?_
      refine ea_aload_n (pc := 26) dX12_minutes_26 rfl 0 rfl ?_
      refine ea_getI (pc := 27) dX12_minutes_27 ec_12 (k := 0) (Nat.le_of_ble_eq_true rfl) rfl (Or.inl ew_1345) (hs.1 0 (by decide)).1 (hs.1 0 (by decide)).2.1 ?_
      refine ea_aload_n (pc := 30) dX12_minutes_30 rfl 0 rfl ?_
      refine ea_getI (pc := 31) dX12_minutes_31 ec_12 (k := 0) (Nat.le_of_ble_eq_true rfl) rfl (Or.inl ew_1345) (hs.1 0 (by decide)).1 (hs.1 0 (by decide)).2.1 ?_
      refine ea_iload_n (pc := 34) dX12_minutes_34 rfl 1 rfl ?_
      refine ea_iadd (pc := 35) dX12_minutes_35 ?_
      have z2 := K
      refine ea_callV (pc := 36) (d' := d - 1) (As := [vI (ea_i h (b0 + 0) 0), vI ((ea_i h (b0 + 0) 0) + x1)]) (st := []) dX12_minutes_36 kX12_leadsOn (sX12_leadsOn (d := d - 1) (by omega) hs z2) (by omega) rfl (Nat.le_of_ble_eq_true rfl) ew_2055 ew_2057 ew_92 (ci := 12) rfl (by decide) (hs.1 0 (by decide)).1 (hs.1 0 (by decide)).2.1 ?_
      have hs3 : ShM b0 (wX12_leadsOn b0 ((ea_i h (b0 + 0) 0) : Int32) (((ea_i h (b0 + 0) 0) + x1) : Int32) h) := shX12_leadsOn hs
      refine ea_aload_n (pc := 39) dX12_minutes_39 rfl 0 rfl ?_
      refine ea_dup (pc := 40) dX12_minutes_40 rfl ?_
      refine ea_getI (pc := 41) dX12_minutes_41 ec_12 (k := 0) (Nat.le_of_ble_eq_true rfl) rfl (Or.inl ew_1345) (hs3.1 0 (by decide)).1 (hs3.1 0 (by decide)).2.1 ?_
      refine ea_iload_n (pc := 44) dX12_minutes_44 rfl 1 rfl ?_
      refine ea_iadd (pc := 45) dX12_minutes_45 ?_
      refine ea_putI (pc := 46) dX12_minutes_46 ec_12 (k := 0) (Nat.le_of_ble_eq_true rfl) rfl (Or.inl ⟨rfl, Or.inl ew_1345⟩) rfl rfl (hs3.1 0 (by decide)).1 (hs3.1 0 (by decide)).2.1 ?_
      have hs4 : ShM b0 (ea_wi (wX12_leadsOn b0 ((ea_i h (b0 + 0) 0) : Int32) (((ea_i h (b0 + 0) 0) + x1) : Int32) h) (b0 + 0) 0 ((ea_i (wX12_leadsOn b0 ((ea_i h (b0 + 0) 0) : Int32) (((ea_i h (b0 + 0) 0) + x1) : Int32) h) (b0 + 0) 0) + x1)) := ShM_wi hs3
      refine ea_aload_n (pc := 49) dX12_minutes_49 rfl 0 rfl ?_
      refine ea_getI (pc := 50) dX12_minutes_50 ec_12 (k := 0) (Nat.le_of_ble_eq_true rfl) rfl (Or.inl ew_1345) (hs4.1 0 (by decide)).1 (hs4.1 0 (by decide)).2.1 ?_
      exact ea_iretE (pc := 53) dX12_minutes_53 rfl rfl EX EY
    · have EX := EX.trans (if_neg c5)
      have EY := EY.trans (if_neg c5)
      refine ea_iconst (pc := 23) dX12_minutes_23 (v := (-1)) rfl ?_
      exact ea_iretE (pc := 24) dX12_minutes_24 rfl rfl EX EY
noncomputable def gX12_run_ (b0 : Nat) : Nat → Nat → Int32 → Int32 → Int32 → Int32 → Int32 → Int32 → Int32 → Int32 → Int32 → ea_H → Option (Int32 × ea_H)
  | 0, _, _, _, _, _, _, _, _, _, _, _ => none
  | f + 1, lbl, sx0, sx1, sx2, x1, x2, x3, x4, x5, x6, h =>
    if lbl = 0 then (if (vX12_isTrain b0 (x1 : Int32) h) = (0 : Int32) then (some (((-1) : Int32), h)) else (if (vX12_isDay (x2 : Int32) h) = (0 : Int32) then (some (((-1) : Int32), h)) else (if Int32.toInt x3 = 0 then (gX12_run_ b0 f 67 0 0 0 0 0 (x3 : Int32) ((vX12_run (x1 : Int32) (x2 : Int32) h) : Int32) (0 : Int32) (0 : Int32) h) else (if Int32.toInt x3 = 1 then (gX12_run_ b0 f 67 0 0 0 0 0 (x3 : Int32) ((vX12_run (x1 : Int32) (x2 : Int32) h) : Int32) (0 : Int32) (0 : Int32) h) else (if Int32.toInt x3 = 2 then (gd ((okX12_gone b0 ((vX12_run (x1 : Int32) (x2 : Int32) h) : Int32) h)) (some ((vX12_gone b0 ((vX12_run (x1 : Int32) (x2 : Int32) h) : Int32) h), (wX12_gone b0 ((vX12_run (x1 : Int32) (x2 : Int32) h) : Int32) h)))) else (if Int32.toInt x3 = 3 then (gd (vp_in (vX12_run (x1 : Int32) (x2 : Int32) h) 70) (some ((ea_i h (b0 + 60) (Int32.toNatClampNeg (vX12_run (x1 : Int32) (x2 : Int32) h))), h))) else (if Int32.toInt x3 = 4 then (gd (vp_in (vX12_run (x1 : Int32) (x2 : Int32) h) 70) (some ((ea_i h (b0 + 6) (Int32.toNatClampNeg (vX12_run (x1 : Int32) (x2 : Int32) h))), h))) else (some (((-1) : Int32), h))))))))) else
    if lbl = 67 then (if (ea_i h (b0 + 0) 63) ≤ x6 then (some (x5, h)) else (gd ((okX12_isAboard b0 (x6 : Int32) (x4 : Int32) h)) (if (vX12_isAboard b0 (x6 : Int32) (x4 : Int32) h) = (0 : Int32) then (gX12_run_ b0 f 67 0 0 0 0 0 (x3 : Int32) (x4 : Int32) ((x5 + (0 : Int32)) : Int32) ((x6 + (1 : Int32)) : Int32) h) else (gd (vp_in x6 120) (if x3 = (1 : Int32) then (gX12_run_ b0 f 106 (1 : Int32) ((ea_i h (b0 + 61) (Int32.toNatClampNeg x6)) : Int32) (x5 : Int32) 0 0 (x3 : Int32) (x4 : Int32) 0 (x6 : Int32) h) else (gX12_run_ b0 f 106 (0 : Int32) ((ea_i h (b0 + 61) (Int32.toNatClampNeg x6)) : Int32) (x5 : Int32) 0 0 (x3 : Int32) (x4 : Int32) 0 (x6 : Int32) h)))))) else
    if lbl = 106 then (if sx1 = sx0 then (gX12_run_ b0 f 67 0 0 0 0 0 (x3 : Int32) (x4 : Int32) ((sx2 + (1 : Int32)) : Int32) ((x6 + (1 : Int32)) : Int32) h) else (gX12_run_ b0 f 67 0 0 0 0 0 (x3 : Int32) (x4 : Int32) ((sx2 + (0 : Int32)) : Int32) ((x6 + (1 : Int32)) : Int32) h)) else none
theorem tX12_run_ {d : Nat} {b0 : Nat} {h0 : ea_H} (hd : 3 ≤ d) : ∀ (f lbl : Nat) (sx0 : Int32) (sx1 : Int32) (sx2 : Int32) (x1 : Int32) (x2 : Int32) (x3 : Int32) (x4 : Int32) (x5 : Int32) (x6 : Int32) (h : ea_H) (r : Int32) (h' : ea_H), gX12_run_ b0 f lbl sx0 sx1 sx2 x1 x2 x3 x4 x5 x6 h = some (r, h') → ShM b0 h → (lbl = 0 → ea_W mX12_run_ d h0 (some (vI r)) h' 0 [(0, vR (some (b0 + 0))), (1, vI x1), (2, vI x2), (3, vI x3)] [] h) ∧ (lbl = 67 → ea_W mX12_run_ d h0 (some (vI r)) h' 67 [(0, vR (some (b0 + 0))), (3, vI x3), (4, vI x4), (5, vI x5), (6, vI x6)] [] h) ∧ (lbl = 106 → ea_W mX12_run_ d h0 (some (vI r)) h' 106 [(0, vR (some (b0 + 0))), (3, vI x3), (4, vI x4), (6, vI x6)] [vI sx0, vI sx1, vI sx2] h) := by
  intro f
  induction f with
  | zero => intro lbl sx0 sx1 sx2 x1 x2 x3 x4 x5 x6 h r h' E; cases E
  | succ f ih =>
    intro lbl sx0 sx1 sx2 x1 x2 x3 x4 x5 x6 h r h' E hs
    unfold gX12_run_ at E
    refine ⟨?_, ?_⟩
    · intro el
      subst el
      have E := (if_pos rfl).symm.trans E
      refine ea_aload_n (pc := 0) dX12_run__0 rfl 0 rfl ?_
      refine ea_iload_n (pc := 1) dX12_run__1 rfl 1 rfl ?_
      refine ea_callV (pc := 2) (d' := d - 1) (As := [vI x1]) (st := []) dX12_run__2 kX12_isTrain (sX12_isTrain (d := d - 1) (by omega) hs) (by omega) rfl (Nat.le_of_ble_eq_true rfl) ew_1736 ew_1738 ew_50 (ci := 12) rfl (by decide) (hs.1 0 (by decide)).1 (hs.1 0 (by decide)).2.1 ?_
      refine ea_if_eq (pc := 5) (tgt := 15) dX12_run__5 rfl (fun c9 => ?_) (fun c9 => ?_)
      · have E := (if_pos c9).symm.trans E
        refine ea_iconst (pc := 15) dX12_run__15 (v := (-1)) rfl ?_
        exact ea_iretO (pc := 16) dX12_run__16 rfl rfl E
      · have E := (if_neg c9).symm.trans E
        refine ea_iload_n (pc := 8) dX12_run__8 rfl 2 rfl ?_
        refine ea_callS (pc := 9) (d' := d - 1) (As := [vI x2]) (st := []) dX12_run__9 kX12_isDay (sX12_isDay (d := d - 1) (by omega)) (by omega) rfl (Nat.le_of_ble_eq_true rfl) ew_1752 ew_1753 ?_
        refine ea_if_ne (pc := 12) (tgt := 17) dX12_run__12 rfl (fun c8 => ?_) (fun c8 => ?_)
        · have E := (if_neg c8).symm.trans E
          refine ea_iload_n (pc := 17) dX12_run__17 rfl 1 rfl ?_
          refine ea_iload_n (pc := 18) dX12_run__18 rfl 2 rfl ?_
          refine ea_callS (pc := 19) (d' := d - 1) (As := [vI x1, vI x2]) (st := []) dX12_run__19 kX12_run (sX12_run (d := d - 1) (by omega)) (by omega) rfl (Nat.le_of_ble_eq_true rfl) ew_1755 ew_1756 ?_
          refine ea_istore (pc := 22) (lv' := [(0, vR (some (b0 + 0))), (3, vI x3), (4, vI (vX12_run (x1 : Int32) (x2 : Int32) h))]) dX12_run__22 (Nat.le_of_ble_eq_true rfl) [1, 4, 0] rfl ?_
          refine ea_iconst (pc := 24) dX12_run__24 (v := 0) rfl ?_
          refine ea_istore (pc := 25) (lv' := [(0, vR (some (b0 + 0))), (3, vI x3), (4, vI (vX12_run (x1 : Int32) (x2 : Int32) h)), (5, vI 0)]) dX12_run__25 (Nat.le_of_ble_eq_true rfl) [1, 2, 3, 0] rfl ?_
          refine ea_iload_n (pc := 27) dX12_run__27 rfl 1 rfl ?_
          by_cases qc28_0 : Int32.toInt x3 = 0
          · have E := (if_pos qc28_0).symm.trans E
            refine ea_tswIn (pc := 28) (tgt := 64) dX12_run__28 (by rw [qc28_0]; decide) (by rw [qc28_0]; decide) (by rw [qc28_0]; rfl) rfl ?_
            refine ea_iconst (pc := 64) dX12_run__64 (v := 0) rfl ?_
            refine ea_istore (pc := 65) (lv' := [(0, vR (some (b0 + 0))), (3, vI x3), (4, vI (vX12_run (x1 : Int32) (x2 : Int32) h)), (5, vI 0), (6, vI 0)]) dX12_run__65 (Nat.le_of_ble_eq_true rfl) [1, 2, 3, 4, 0] rfl ?_
            exact ((ih 67 0 0 0 0 0 (x3 : Int32) ((vX12_run (x1 : Int32) (x2 : Int32) h) : Int32) (0 : Int32) (0 : Int32) h _ _ E hs).2.1 rfl)
          have E := (if_neg qc28_0).symm.trans E
          by_cases qc28_1 : Int32.toInt x3 = 1
          · have E := (if_pos qc28_1).symm.trans E
            refine ea_tswIn (pc := 28) (tgt := 64) dX12_run__28 (by rw [qc28_1]; decide) (by rw [qc28_1]; decide) (by rw [qc28_1]; rfl) rfl ?_
            refine ea_iconst (pc := 64) dX12_run__64 (v := 0) rfl ?_
            refine ea_istore (pc := 65) (lv' := [(0, vR (some (b0 + 0))), (3, vI x3), (4, vI (vX12_run (x1 : Int32) (x2 : Int32) h)), (5, vI 0), (6, vI 0)]) dX12_run__65 (Nat.le_of_ble_eq_true rfl) [1, 2, 3, 4, 0] rfl ?_
            exact ((ih 67 0 0 0 0 0 (x3 : Int32) ((vX12_run (x1 : Int32) (x2 : Int32) h) : Int32) (0 : Int32) (0 : Int32) h _ _ E hs).2.1 rfl)
          have E := (if_neg qc28_1).symm.trans E
          by_cases qc28_2 : Int32.toInt x3 = 2
          · have E := (if_pos qc28_2).symm.trans E
            refine ea_tswIn (pc := 28) (tgt := 126) dX12_run__28 (by rw [qc28_2]; decide) (by rw [qc28_2]; decide) (by rw [qc28_2]; rfl) rfl ?_
            refine ea_aload_n (pc := 126) dX12_run__126 rfl 0 rfl ?_
            refine ea_iload (pc := 127) dX12_run__127 2 rfl ?_
            obtain ⟨z4, E⟩ := gd_some E
            refine ea_callV (pc := 129) (d' := d - 1) (As := [vI (vX12_run (x1 : Int32) (x2 : Int32) h)]) (st := []) dX12_run__129 kX12_gone (sX12_gone (d := d - 1) (by omega) hs z4) (by omega) rfl (Nat.le_of_ble_eq_true rfl) ew_2094 ew_2096 ew_99 (ci := 12) rfl (by decide) (hs.1 0 (by decide)).1 (hs.1 0 (by decide)).2.1 ?_
            have hs5 : ShM b0 (wX12_gone b0 ((vX12_run (x1 : Int32) (x2 : Int32) h) : Int32) h) := shX12_gone hs
            exact ea_iretO (pc := 132) dX12_run__132 rfl rfl E
          have E := (if_neg qc28_2).symm.trans E
          by_cases qc28_3 : Int32.toInt x3 = 3
          · have E := (if_pos qc28_3).symm.trans E
            refine ea_tswIn (pc := 28) (tgt := 133) dX12_run__28 (by rw [qc28_3]; decide) (by rw [qc28_3]; decide) (by rw [qc28_3]; rfl) rfl ?_
            refine ea_aload_n (pc := 133) dX12_run__133 rfl 0 rfl ?_
            refine ea_getR (pc := 134) dX12_run__134 ec_12 (k := 86) (Nat.le_of_ble_eq_true rfl) rfl (Or.inl ew_1431) (hs.1 0 (by decide)).1 (hs.1 0 (by decide)).2.1 (hs.2 0 86 rfl) ?_
            refine ea_iload (pc := 137) dX12_run__137 2 rfl ?_
            obtain ⟨z6, E⟩ := gd_some E
            refine ea_iald (pc := 139) dX12_run__139 (hs.1 60 (by decide)).1 (hs.1 60 (by decide)).2.1 (ea_vpl (hs.1 60 (by decide)).2.2 z6) ?_
            exact ea_iretO (pc := 140) dX12_run__140 rfl rfl E
          have E := (if_neg qc28_3).symm.trans E
          by_cases qc28_4 : Int32.toInt x3 = 4
          · have E := (if_pos qc28_4).symm.trans E
            refine ea_tswIn (pc := 28) (tgt := 141) dX12_run__28 (by rw [qc28_4]; decide) (by rw [qc28_4]; decide) (by rw [qc28_4]; rfl) rfl ?_
            refine ea_aload_n (pc := 141) dX12_run__141 rfl 0 rfl ?_
            refine ea_getR (pc := 142) dX12_run__142 ec_12 (k := 8) (Nat.le_of_ble_eq_true rfl) rfl (Or.inl ew_1353) (hs.1 0 (by decide)).1 (hs.1 0 (by decide)).2.1 (hs.2 0 8 rfl) ?_
            refine ea_iload (pc := 145) dX12_run__145 2 rfl ?_
            obtain ⟨z7, E⟩ := gd_some E
            refine ea_iald (pc := 147) dX12_run__147 (hs.1 6 (by decide)).1 (hs.1 6 (by decide)).2.1 (ea_vpl (hs.1 6 (by decide)).2.2 z7) ?_
            exact ea_iretO (pc := 148) dX12_run__148 rfl rfl E
          have E := (if_neg qc28_4).symm.trans E
          refine ea_tswOut (pc := 28) (tgt := 149) dX12_run__28 (ea_sw_0_4 qc28_0 qc28_1 qc28_2 qc28_3 qc28_4) rfl ?_
          refine ea_iconst (pc := 149) dX12_run__149 (v := (-1)) rfl ?_
          exact ea_iretO (pc := 150) dX12_run__150 rfl rfl E
        · have E := (if_pos c8).symm.trans E
          refine ea_iconst (pc := 15) dX12_run__15 (v := (-1)) rfl ?_
          exact ea_iretO (pc := 16) dX12_run__16 rfl rfl E
    refine ⟨?_, ?_⟩
    · intro el
      subst el
      have E := (if_neg (by decide)).symm.trans E
      have E := (if_pos rfl).symm.trans E
      refine ea_iload (pc := 67) dX12_run__67 4 rfl ?_
      refine ea_aload_n (pc := 69) dX12_run__69 rfl 0 rfl ?_
      refine ea_getI (pc := 70) dX12_run__70 ec_12 (k := 63) (Nat.le_of_ble_eq_true rfl) rfl (Or.inl ew_1408) (hs.1 0 (by decide)).1 (hs.1 0 (by decide)).2.1 ?_
      refine ea_icmp_ge (pc := 73) (tgt := 123) dX12_run__73 rfl (fun c14 => ?_) (fun c14 => ?_)
      · have E := (if_pos c14).symm.trans E
        refine ea_iload (pc := 123) dX12_run__123 3 rfl ?_
        exact ea_iretO (pc := 125) dX12_run__125 rfl rfl E
      · have E := (if_neg c14).symm.trans E
        refine ea_iload (pc := 76) dX12_run__76 3 rfl ?_
        refine ea_aload_n (pc := 78) dX12_run__78 rfl 0 rfl ?_
        refine ea_iload (pc := 79) dX12_run__79 4 rfl ?_
        refine ea_iload (pc := 81) dX12_run__81 2 rfl ?_
        obtain ⟨z10, E⟩ := gd_some E
        refine ea_callV (pc := 83) (d' := d - 1) (As := [vI x6, vI x4]) (st := [vI x5]) dX12_run__83 kX12_isAboard (sX12_isAboard (d := d - 1) (by omega) hs z10) (by omega) rfl (Nat.le_of_ble_eq_true rfl) ew_2067 ew_2069 ew_95 (ci := 12) rfl (by decide) (hs.1 0 (by decide)).1 (hs.1 0 (by decide)).2.1 ?_
        refine ea_if_eq (pc := 86) (tgt := 113) dX12_run__86 rfl (fun c13 => ?_) (fun c13 => ?_)
        · have E := (if_pos c13).symm.trans E
          refine ea_iconst (pc := 113) dX12_run__113 (v := 0) rfl ?_
          refine ea_iadd (pc := 114) dX12_run__114 ?_
          refine ea_istore (pc := 115) (lv' := [(0, vR (some (b0 + 0))), (3, vI x3), (4, vI x4), (5, vI (x5 + (0 : Int32))), (6, vI x6)]) dX12_run__115 (Nat.le_of_ble_eq_true rfl) [1, 2, 3, 0, 4] rfl ?_
          refine ea_iinc (pc := 117) (v := 1) (lv' := [(0, vR (some (b0 + 0))), (3, vI x3), (4, vI x4), (5, vI (x5 + (0 : Int32))), (6, vI (x6 + (1 : Int32)))]) dX12_run__117 4 rfl rfl (Nat.le_of_ble_eq_true rfl) [1, 2, 3, 4, 0] rfl ?_
          refine ea_goto (pc := 120) (tgt := 67) dX12_run__120 rfl ?_
          exact ((ih 67 0 0 0 0 0 (x3 : Int32) (x4 : Int32) ((x5 + (0 : Int32)) : Int32) ((x6 + (1 : Int32)) : Int32) h _ _ E hs).2.1 rfl)
        · have E := (if_neg c13).symm.trans E
          refine ea_aload_n (pc := 89) dX12_run__89 rfl 0 rfl ?_
          refine ea_getR (pc := 90) dX12_run__90 ec_12 (k := 87) (Nat.le_of_ble_eq_true rfl) rfl (Or.inl ew_1432) (hs.1 0 (by decide)).1 (hs.1 0 (by decide)).2.1 (hs.2 0 87 rfl) ?_
          refine ea_iload (pc := 93) dX12_run__93 4 rfl ?_
          obtain ⟨z11, E⟩ := gd_some E
          refine ea_zald (pc := 95) dX12_run__95 (hs.1 61 (by decide)).1 (hs.1 61 (by decide)).2.1 (ea_vpl (hs.1 61 (by decide)).2.2 z11) ?_
          refine ea_iload_n (pc := 96) dX12_run__96 rfl 1 rfl ?_
          refine ea_iconst (pc := 97) dX12_run__97 (v := 1) rfl ?_
          refine ea_icmp_ne (pc := 98) (tgt := 105) dX12_run__98 rfl (fun c12 => ?_) (fun c12 => ?_)
          · have E := (if_neg c12).symm.trans E
            refine ea_iconst (pc := 105) dX12_run__105 (v := 0) rfl ?_
            exact (ea_fewer [0, 1, 2, 4] rfl ((ih 106 (0 : Int32) ((ea_i h (b0 + 61) (Int32.toNatClampNeg x6)) : Int32) (x5 : Int32) 0 0 (x3 : Int32) (x4 : Int32) 0 (x6 : Int32) h _ _ E hs).2.2 rfl))
          · have E := (if_pos c12).symm.trans E
            refine ea_iconst (pc := 101) dX12_run__101 (v := 1) rfl ?_
            refine ea_goto (pc := 102) (tgt := 106) dX12_run__102 rfl ?_
            exact (ea_fewer [0, 1, 2, 4] rfl ((ih 106 (1 : Int32) ((ea_i h (b0 + 61) (Int32.toNatClampNeg x6)) : Int32) (x5 : Int32) 0 0 (x3 : Int32) (x4 : Int32) 0 (x6 : Int32) h _ _ E hs).2.2 rfl))
    intro el
    subst el
    have E := (if_neg (by decide)).symm.trans E
    have E := (if_neg (by decide)).symm.trans E
    have E := (if_pos rfl).symm.trans E
    refine ea_icmp_ne (pc := 106) (tgt := 113) dX12_run__106 rfl (fun c15 => ?_) (fun c15 => ?_)
    · have E := (if_neg c15).symm.trans E
      refine ea_iconst (pc := 113) dX12_run__113 (v := 0) rfl ?_
      refine ea_iadd (pc := 114) dX12_run__114 ?_
      refine ea_istore (pc := 115) (lv' := [(0, vR (some (b0 + 0))), (3, vI x3), (4, vI x4), (5, vI (sx2 + (0 : Int32))), (6, vI x6)]) dX12_run__115 (Nat.le_of_ble_eq_true rfl) [1, 2, 3, 0, 4] rfl ?_
      refine ea_iinc (pc := 117) (v := 1) (lv' := [(0, vR (some (b0 + 0))), (3, vI x3), (4, vI x4), (5, vI (sx2 + (0 : Int32))), (6, vI (x6 + (1 : Int32)))]) dX12_run__117 4 rfl rfl (Nat.le_of_ble_eq_true rfl) [1, 2, 3, 4, 0] rfl ?_
      refine ea_goto (pc := 120) (tgt := 67) dX12_run__120 rfl ?_
      exact ((ih 67 0 0 0 0 0 (x3 : Int32) (x4 : Int32) ((sx2 + (0 : Int32)) : Int32) ((x6 + (1 : Int32)) : Int32) h _ _ E hs).2.1 rfl)
    · have E := (if_pos c15).symm.trans E
      refine ea_iconst (pc := 109) dX12_run__109 (v := 1) rfl ?_
      refine ea_goto (pc := 110) (tgt := 114) dX12_run__110 rfl ?_
      refine ea_iadd (pc := 114) dX12_run__114 ?_
      refine ea_istore (pc := 115) (lv' := [(0, vR (some (b0 + 0))), (3, vI x3), (4, vI x4), (5, vI (sx2 + (1 : Int32))), (6, vI x6)]) dX12_run__115 (Nat.le_of_ble_eq_true rfl) [1, 2, 3, 0, 4] rfl ?_
      refine ea_iinc (pc := 117) (v := 1) (lv' := [(0, vR (some (b0 + 0))), (3, vI x3), (4, vI x4), (5, vI (sx2 + (1 : Int32))), (6, vI (x6 + (1 : Int32)))]) dX12_run__117 4 rfl rfl (Nat.le_of_ble_eq_true rfl) [1, 2, 3, 4, 0] rfl ?_
      refine ea_goto (pc := 120) (tgt := 67) dX12_run__120 rfl ?_
      exact ((ih 67 0 0 0 0 0 (x3 : Int32) (x4 : Int32) ((sx2 + (1 : Int32)) : Int32) ((x6 + (1 : Int32)) : Int32) h _ _ E hs).2.1 rfl)
noncomputable def qX12_run_ (b0 : Nat) (x1 : Int32) (x2 : Int32) (x3 : Int32) (h : ea_H) : Option (Int32 × ea_H) := gX12_run_ b0 1000000000 0 0 0 0 x1 x2 x3 0 0 0 h
def okX12_run_ (b0 : Nat) (x1 : Int32) (x2 : Int32) (x3 : Int32) (h : ea_H) : Prop := ∃ x, qX12_run_ b0 x1 x2 x3 h = some x
noncomputable def vX12_run_ (b0 : Nat) (x1 : Int32) (x2 : Int32) (x3 : Int32) (h : ea_H) : Int32 := ((qX12_run_ b0 x1 x2 x3 h).getD (0, h)).1
noncomputable def wX12_run_ (b0 : Nat) (x1 : Int32) (x2 : Int32) (x3 : Int32) (h : ea_H) : ea_H := ((qX12_run_ b0 x1 x2 x3 h).getD (0, h)).2
theorem sX12_run_ {d : Nat} {b0 : Nat} {x1 : Int32} {x2 : Int32} {x3 : Int32} {h : ea_H} (hd : 3 ≤ d) (hs : ShM b0 h) (K : okX12_run_ b0 x1 x2 x3 h) : ea_Met mX12_run_ d [vR (some (b0 + 0)), vI x1, vI x2, vI x3] h (some (vI (vX12_run_ b0 x1 x2 x3 h))) (wX12_run_ b0 x1 x2 x3 h) := by
  obtain ⟨⟨x, y⟩, K⟩ := K
  unfold wX12_run_ vX12_run_
  rw [K]
  unfold qX12_run_ at K
  exact ea_enter rfl (Nat.le_of_ble_eq_true rfl) ((tX12_run_ hd 1000000000 0 0 0 0 x1 x2 x3 0 0 0 h x y K hs).1 rfl)
theorem zX12_run_ {b0 : Nat} : ∀ (f lbl : Nat) (sx0 : Int32) (sx1 : Int32) (sx2 : Int32) (x1 : Int32) (x2 : Int32) (x3 : Int32) (x4 : Int32) (x5 : Int32) (x6 : Int32) (h : ea_H) (r : Int32) (h' : ea_H), gX12_run_ b0 f lbl sx0 sx1 sx2 x1 x2 x3 x4 x5 x6 h = some (r, h') → ShM b0 h → ShM b0 h' := by
  intro f
  induction f with
  | zero => intro lbl sx0 sx1 sx2 x1 x2 x3 x4 x5 x6 h r h' E; cases E
  | succ f ih =>
    intro lbl sx0 sx1 sx2 x1 x2 x3 x4 x5 x6 h r h' E hs
    unfold gX12_run_ at E
    by_cases el0 : lbl = 0
    · have E := (if_pos el0).symm.trans E
      by_cases c9 : (vX12_isTrain b0 (x1 : Int32) h) = (0 : Int32)
      · have E := (if_pos c9).symm.trans E
        exact ea_shO E hs
      have E := (if_neg c9).symm.trans E
      by_cases c8 : (vX12_isDay (x2 : Int32) h) = (0 : Int32)
      · have E := (if_pos c8).symm.trans E
        exact ea_shO E hs
      have E := (if_neg c8).symm.trans E
      by_cases qc28_0 : Int32.toInt x3 = 0
      · have E := (if_pos qc28_0).symm.trans E
        exact ih 67 0 0 0 0 0 (x3 : Int32) ((vX12_run (x1 : Int32) (x2 : Int32) h) : Int32) (0 : Int32) (0 : Int32) h _ _ E hs
      have E := (if_neg qc28_0).symm.trans E
      by_cases qc28_1 : Int32.toInt x3 = 1
      · have E := (if_pos qc28_1).symm.trans E
        exact ih 67 0 0 0 0 0 (x3 : Int32) ((vX12_run (x1 : Int32) (x2 : Int32) h) : Int32) (0 : Int32) (0 : Int32) h _ _ E hs
      have E := (if_neg qc28_1).symm.trans E
      by_cases qc28_2 : Int32.toInt x3 = 2
      · have E := (if_pos qc28_2).symm.trans E
        obtain ⟨z4, E⟩ := gd_some E
        exact ea_shO E (shX12_gone hs)
      have E := (if_neg qc28_2).symm.trans E
      by_cases qc28_3 : Int32.toInt x3 = 3
      · have E := (if_pos qc28_3).symm.trans E
        obtain ⟨z6, E⟩ := gd_some E
        exact ea_shO E hs
      have E := (if_neg qc28_3).symm.trans E
      by_cases qc28_4 : Int32.toInt x3 = 4
      · have E := (if_pos qc28_4).symm.trans E
        obtain ⟨z7, E⟩ := gd_some E
        exact ea_shO E hs
      have E := (if_neg qc28_4).symm.trans E
      exact ea_shO E hs
    have E := (if_neg el0).symm.trans E
    by_cases el1 : lbl = 67
    · have E := (if_pos el1).symm.trans E
      by_cases c14 : (ea_i h (b0 + 0) 63) ≤ x6
      · have E := (if_pos c14).symm.trans E
        exact ea_shO E hs
      have E := (if_neg c14).symm.trans E
      obtain ⟨z10, E⟩ := gd_some E
      by_cases c13 : (vX12_isAboard b0 (x6 : Int32) (x4 : Int32) h) = (0 : Int32)
      · have E := (if_pos c13).symm.trans E
        exact ih 67 0 0 0 0 0 (x3 : Int32) (x4 : Int32) ((x5 + (0 : Int32)) : Int32) ((x6 + (1 : Int32)) : Int32) h _ _ E hs
      have E := (if_neg c13).symm.trans E
      obtain ⟨z11, E⟩ := gd_some E
      by_cases c12 : x3 = (1 : Int32)
      · have E := (if_pos c12).symm.trans E
        exact ih 106 (1 : Int32) ((ea_i h (b0 + 61) (Int32.toNatClampNeg x6)) : Int32) (x5 : Int32) 0 0 (x3 : Int32) (x4 : Int32) 0 (x6 : Int32) h _ _ E hs
      have E := (if_neg c12).symm.trans E
      exact ih 106 (0 : Int32) ((ea_i h (b0 + 61) (Int32.toNatClampNeg x6)) : Int32) (x5 : Int32) 0 0 (x3 : Int32) (x4 : Int32) 0 (x6 : Int32) h _ _ E hs
    have E := (if_neg el1).symm.trans E
    by_cases el2 : lbl = 106
    · have E := (if_pos el2).symm.trans E
      by_cases c15 : sx1 = sx0
      · have E := (if_pos c15).symm.trans E
        exact ih 67 0 0 0 0 0 (x3 : Int32) (x4 : Int32) ((sx2 + (1 : Int32)) : Int32) ((x6 + (1 : Int32)) : Int32) h _ _ E hs
      have E := (if_neg c15).symm.trans E
      exact ih 67 0 0 0 0 0 (x3 : Int32) (x4 : Int32) ((sx2 + (0 : Int32)) : Int32) ((x6 + (1 : Int32)) : Int32) h _ _ E hs
    have E := (if_neg el2).symm.trans E
    cases E
theorem shX12_run_ {b0 : Nat} {x1 : Int32} {x2 : Int32} {x3 : Int32} {h : ea_H} (hs : ShM b0 h) : ShM b0 (wX12_run_ b0 x1 x2 x3 h) := by
  unfold wX12_run_
  cases K : qX12_run_ b0 x1 x2 x3 h with
  | none => exact hs
  | some x => obtain ⟨x, y⟩ := x; unfold qX12_run_ at K; exact zX12_run_ _ _ _ _ _ _ _ _ _ _ _ _ _ _ K hs
noncomputable def gX12_sums (b0 : Nat) : Nat → Nat → Int32 → Int32 → ea_H → Option (Int32 × ea_H)
  | 0, _, _, _, _ => none
  | f + 1, lbl, x1, x2, h =>
    if lbl = 0 then (gd ((okX12_keeps b0 h)) (gd ((okX12_leadsOn b0 ((ea_i (wX12_keeps b0 h) (b0 + 0) 0) : Int32) (10079 : Int32) (wX12_keeps b0 h))) (gX12_sums b0 f 19 (0 : Int32) (0 : Int32) (wX12_leadsOn b0 ((ea_i (wX12_keeps b0 h) (b0 + 0) 0) : Int32) (10079 : Int32) (wX12_keeps b0 h))))) else
    if lbl = 19 then (if (ea_i h (b0 + 0) 63) ≤ x2 then (gd ((okX12_putsBack b0 h)) (some (x1, (wX12_putsBack b0 h)))) else (gd (vp_in x2 120) (if (ea_i h (b0 + 55) (Int32.toNatClampNeg x2)) = (2 : Int32) then (gd (vp_in x2 120) (gX12_sums b0 f 19 ((x1 + (ea_i h (b0 + 59) (Int32.toNatClampNeg x2))) : Int32) ((x2 + (1 : Int32)) : Int32) h)) else (gd (vp_in x2 120) (if (2 : Int32) ≤ (ea_i h (b0 + 55) (Int32.toNatClampNeg x2)) then (gX12_sums b0 f 19 ((x1 + (0 : Int32)) : Int32) ((x2 + (1 : Int32)) : Int32) h) else (gX12_sums b0 f 19 ((x1 + (10080 : Int32)) : Int32) ((x2 + (1 : Int32)) : Int32) h)))))) else none
theorem tX12_sums {d : Nat} {b0 : Nat} {h0 : ea_H} (hd : 8 ≤ d) : ∀ (f lbl : Nat) (x1 : Int32) (x2 : Int32) (h : ea_H) (r : Int32) (h' : ea_H), gX12_sums b0 f lbl x1 x2 h = some (r, h') → ShM b0 h → (lbl = 0 → ea_W mX12_sums d h0 (some (vI r)) h' 0 [(0, vR (some (b0 + 0)))] [] h) ∧ (lbl = 19 → ea_W mX12_sums d h0 (some (vI r)) h' 19 [(0, vR (some (b0 + 0))), (1, vI x1), (2, vI x2)] [] h) := by
  intro f
  induction f with
  | zero => intro lbl x1 x2 h r h' E; cases E
  | succ f ih =>
    intro lbl x1 x2 h r h' E hs
    unfold gX12_sums at E
    refine ⟨?_, ?_⟩
    · intro el
      subst el
      have E := (if_pos rfl).symm.trans E
      refine ea_aload_n (pc := 0) dX12_sums_0 rfl 0 rfl ?_
      obtain ⟨z1, E⟩ := gd_some E
      refine ea_callV (pc := 1) (d' := d - 1) (As := []) (st := []) dX12_sums_1 kX12_keeps (sX12_keeps (d := d - 1) (by omega) hs z1) (by omega) rfl (Nat.le_of_ble_eq_true rfl) ew_2179 ew_2181 ew_105 (ci := 12) rfl (by decide) (hs.1 0 (by decide)).1 (hs.1 0 (by decide)).2.1 ?_
      have hs2 : ShM b0 (wX12_keeps b0 h) := shX12_keeps hs
      refine ea_aload_n (pc := 4) dX12_sums_4 rfl 0 rfl ?_
      refine ea_aload_n (pc := 5) dX12_sums_5 rfl 0 rfl ?_
      refine ea_getI (pc := 6) dX12_sums_6 ec_12 (k := 0) (Nat.le_of_ble_eq_true rfl) rfl (Or.inl ew_1345) (hs2.1 0 (by decide)).1 (hs2.1 0 (by decide)).2.1 ?_
      refine ea_sipush (pc := 9) dX12_sums_9 (v := 10079) rfl ?_
      obtain ⟨z3, E⟩ := gd_some E
      refine ea_callV (pc := 12) (d' := d - 1) (As := [vI (ea_i (wX12_keeps b0 h) (b0 + 0) 0), vI 10079]) (st := []) dX12_sums_12 kX12_leadsOn (sX12_leadsOn (d := d - 1) (by omega) hs2 z3) (by omega) rfl (Nat.le_of_ble_eq_true rfl) ew_2055 ew_2057 ew_92 (ci := 12) rfl (by decide) (hs2.1 0 (by decide)).1 (hs2.1 0 (by decide)).2.1 ?_
      have hs4 : ShM b0 (wX12_leadsOn b0 ((ea_i (wX12_keeps b0 h) (b0 + 0) 0) : Int32) (10079 : Int32) (wX12_keeps b0 h)) := shX12_leadsOn hs2
      refine ea_iconst (pc := 15) dX12_sums_15 (v := 0) rfl ?_
      refine ea_istore_n (pc := 16) (lv' := [(0, vR (some (b0 + 0))), (1, vI 0)]) dX12_sums_16 rfl (Nat.le_of_ble_eq_true rfl) [1, 0] rfl ?_
      refine ea_iconst (pc := 17) dX12_sums_17 (v := 0) rfl ?_
      refine ea_istore_n (pc := 18) (lv' := [(0, vR (some (b0 + 0))), (1, vI 0), (2, vI 0)]) dX12_sums_18 rfl (Nat.le_of_ble_eq_true rfl) [1, 2, 0] rfl ?_
      exact ((ih 19 (0 : Int32) (0 : Int32) (wX12_leadsOn b0 ((ea_i (wX12_keeps b0 h) (b0 + 0) 0) : Int32) (10079 : Int32) (wX12_keeps b0 h)) _ _ E hs4).2 rfl)
    intro el
    subst el
    have E := (if_neg (by decide)).symm.trans E
    have E := (if_pos rfl).symm.trans E
    refine ea_iload_n (pc := 19) dX12_sums_19 rfl 2 rfl ?_
    refine ea_aload_n (pc := 20) dX12_sums_20 rfl 0 rfl ?_
    refine ea_getI (pc := 21) dX12_sums_21 ec_12 (k := 63) (Nat.le_of_ble_eq_true rfl) rfl (Or.inl ew_1408) (hs.1 0 (by decide)).1 (hs.1 0 (by decide)).2.1 ?_
    refine ea_icmp_ge (pc := 24) (tgt := 72) dX12_sums_24 rfl (fun c12 => ?_) (fun c12 => ?_)
    · have E := (if_pos c12).symm.trans E
      refine ea_aload_n (pc := 72) dX12_sums_72 rfl 0 rfl ?_
      obtain ⟨z5, E⟩ := gd_some E
      refine ea_callV (pc := 73) (d' := d - 1) (As := []) (st := []) dX12_sums_73 kX12_putsBack (sX12_putsBack (d := d - 1) (by omega) hs z5) (by omega) rfl (Nat.le_of_ble_eq_true rfl) ew_2183 ew_2185 ew_106 (ci := 12) rfl (by decide) (hs.1 0 (by decide)).1 (hs.1 0 (by decide)).2.1 ?_
      have hs6 : ShM b0 (wX12_putsBack b0 h) := shX12_putsBack hs
      refine ea_iload_n (pc := 76) dX12_sums_76 rfl 1 rfl ?_
      exact ea_iretO (pc := 77) dX12_sums_77 rfl rfl E
    · have E := (if_neg c12).symm.trans E
      refine ea_iload_n (pc := 27) dX12_sums_27 rfl 1 rfl ?_
      refine ea_aload_n (pc := 28) dX12_sums_28 rfl 0 rfl ?_
      refine ea_getR (pc := 29) dX12_sums_29 ec_12 (k := 81) (Nat.le_of_ble_eq_true rfl) rfl (Or.inl ew_1426) (hs.1 0 (by decide)).1 (hs.1 0 (by decide)).2.1 (hs.2 0 81 rfl) ?_
      refine ea_iload_n (pc := 32) dX12_sums_32 rfl 2 rfl ?_
      obtain ⟨z7, E⟩ := gd_some E
      refine ea_iald (pc := 33) dX12_sums_33 (hs.1 55 (by decide)).1 (hs.1 55 (by decide)).2.1 (ea_vpl (hs.1 55 (by decide)).2.2 z7) ?_
      refine ea_iconst (pc := 34) dX12_sums_34 (v := 2) rfl ?_
      refine ea_icmp_ne (pc := 35) (tgt := 47) dX12_sums_35 rfl (fun c11 => ?_) (fun c11 => ?_)
      · have E := (if_neg c11).symm.trans E
        refine ea_aload_n (pc := 47) dX12_sums_47 rfl 0 rfl ?_
        refine ea_getR (pc := 48) dX12_sums_48 ec_12 (k := 81) (Nat.le_of_ble_eq_true rfl) rfl (Or.inl ew_1426) (hs.1 0 (by decide)).1 (hs.1 0 (by decide)).2.1 (hs.2 0 81 rfl) ?_
        refine ea_iload_n (pc := 51) dX12_sums_51 rfl 2 rfl ?_
        obtain ⟨z8, E⟩ := gd_some E
        refine ea_iald (pc := 52) dX12_sums_52 (hs.1 55 (by decide)).1 (hs.1 55 (by decide)).2.1 (ea_vpl (hs.1 55 (by decide)).2.2 z8) ?_
        refine ea_iconst (pc := 53) dX12_sums_53 (v := 2) rfl ?_
        refine ea_icmp_ge (pc := 54) (tgt := 63) dX12_sums_54 rfl (fun c9 => ?_) (fun c9 => ?_)
        · have E := (if_pos c9).symm.trans E
          refine ea_iconst (pc := 63) dX12_sums_63 (v := 0) rfl ?_
          refine ea_iadd (pc := 64) dX12_sums_64 ?_
          refine ea_istore_n (pc := 65) (lv' := [(0, vR (some (b0 + 0))), (1, vI (x1 + (0 : Int32))), (2, vI x2)]) dX12_sums_65 rfl (Nat.le_of_ble_eq_true rfl) [1, 0, 2] rfl ?_
          refine ea_iinc (pc := 66) (v := 1) (lv' := [(0, vR (some (b0 + 0))), (1, vI (x1 + (0 : Int32))), (2, vI (x2 + (1 : Int32)))]) dX12_sums_66 2 rfl rfl (Nat.le_of_ble_eq_true rfl) [1, 2, 0] rfl ?_
          refine ea_goto (pc := 69) (tgt := 19) dX12_sums_69 rfl ?_
          exact ((ih 19 ((x1 + (0 : Int32)) : Int32) ((x2 + (1 : Int32)) : Int32) h _ _ E hs).2 rfl)
        · have E := (if_neg c9).symm.trans E
          refine ea_sipush (pc := 57) dX12_sums_57 (v := 10080) rfl ?_
          refine ea_goto (pc := 60) (tgt := 64) dX12_sums_60 rfl ?_
          refine ea_iadd (pc := 64) dX12_sums_64 ?_
          refine ea_istore_n (pc := 65) (lv' := [(0, vR (some (b0 + 0))), (1, vI (x1 + (10080 : Int32))), (2, vI x2)]) dX12_sums_65 rfl (Nat.le_of_ble_eq_true rfl) [1, 0, 2] rfl ?_
          refine ea_iinc (pc := 66) (v := 1) (lv' := [(0, vR (some (b0 + 0))), (1, vI (x1 + (10080 : Int32))), (2, vI (x2 + (1 : Int32)))]) dX12_sums_66 2 rfl rfl (Nat.le_of_ble_eq_true rfl) [1, 2, 0] rfl ?_
          refine ea_goto (pc := 69) (tgt := 19) dX12_sums_69 rfl ?_
          exact ((ih 19 ((x1 + (10080 : Int32)) : Int32) ((x2 + (1 : Int32)) : Int32) h _ _ E hs).2 rfl)
      · have E := (if_pos c11).symm.trans E
        refine ea_aload_n (pc := 38) dX12_sums_38 rfl 0 rfl ?_
        refine ea_getR (pc := 39) dX12_sums_39 ec_12 (k := 85) (Nat.le_of_ble_eq_true rfl) rfl (Or.inl ew_1430) (hs.1 0 (by decide)).1 (hs.1 0 (by decide)).2.1 (hs.2 0 85 rfl) ?_
        refine ea_iload_n (pc := 42) dX12_sums_42 rfl 2 rfl ?_
        obtain ⟨z10, E⟩ := gd_some E
        refine ea_iald (pc := 43) dX12_sums_43 (hs.1 59 (by decide)).1 (hs.1 59 (by decide)).2.1 (ea_vpl (hs.1 59 (by decide)).2.2 z10) ?_
        refine ea_goto (pc := 44) (tgt := 64) dX12_sums_44 rfl ?_
        refine ea_iadd (pc := 64) dX12_sums_64 ?_
        refine ea_istore_n (pc := 65) (lv' := [(0, vR (some (b0 + 0))), (1, vI (x1 + (ea_i h (b0 + 59) (Int32.toNatClampNeg x2)))), (2, vI x2)]) dX12_sums_65 rfl (Nat.le_of_ble_eq_true rfl) [1, 0, 2] rfl ?_
        refine ea_iinc (pc := 66) (v := 1) (lv' := [(0, vR (some (b0 + 0))), (1, vI (x1 + (ea_i h (b0 + 59) (Int32.toNatClampNeg x2)))), (2, vI (x2 + (1 : Int32)))]) dX12_sums_66 2 rfl rfl (Nat.le_of_ble_eq_true rfl) [1, 2, 0] rfl ?_
        refine ea_goto (pc := 69) (tgt := 19) dX12_sums_69 rfl ?_
        exact ((ih 19 ((x1 + (ea_i h (b0 + 59) (Int32.toNatClampNeg x2))) : Int32) ((x2 + (1 : Int32)) : Int32) h _ _ E hs).2 rfl)
noncomputable def qX12_sums (b0 : Nat) (h : ea_H) : Option (Int32 × ea_H) := gX12_sums b0 1000000000 0 0 0 h
def okX12_sums (b0 : Nat) (h : ea_H) : Prop := ∃ x, qX12_sums b0 h = some x
noncomputable def vX12_sums (b0 : Nat) (h : ea_H) : Int32 := ((qX12_sums b0 h).getD (0, h)).1
noncomputable def wX12_sums (b0 : Nat) (h : ea_H) : ea_H := ((qX12_sums b0 h).getD (0, h)).2
theorem sX12_sums {d : Nat} {b0 : Nat} {h : ea_H} (hd : 8 ≤ d) (hs : ShM b0 h) (K : okX12_sums b0 h) : ea_Met mX12_sums d [vR (some (b0 + 0))] h (some (vI (vX12_sums b0 h))) (wX12_sums b0 h) := by
  obtain ⟨⟨x, y⟩, K⟩ := K
  unfold wX12_sums vX12_sums
  rw [K]
  unfold qX12_sums at K
  exact ea_enter rfl (Nat.le_of_ble_eq_true rfl) ((tX12_sums hd 1000000000 0 0 0 h x y K hs).1 rfl)
theorem zX12_sums {b0 : Nat} : ∀ (f lbl : Nat) (x1 : Int32) (x2 : Int32) (h : ea_H) (r : Int32) (h' : ea_H), gX12_sums b0 f lbl x1 x2 h = some (r, h') → ShM b0 h → ShM b0 h' := by
  intro f
  induction f with
  | zero => intro lbl x1 x2 h r h' E; cases E
  | succ f ih =>
    intro lbl x1 x2 h r h' E hs
    unfold gX12_sums at E
    by_cases el0 : lbl = 0
    · have E := (if_pos el0).symm.trans E
      obtain ⟨z1, E⟩ := gd_some E
      obtain ⟨z3, E⟩ := gd_some E
      exact ih 19 (0 : Int32) (0 : Int32) (wX12_leadsOn b0 ((ea_i (wX12_keeps b0 h) (b0 + 0) 0) : Int32) (10079 : Int32) (wX12_keeps b0 h)) _ _ E (shX12_leadsOn (shX12_keeps hs))
    have E := (if_neg el0).symm.trans E
    by_cases el1 : lbl = 19
    · have E := (if_pos el1).symm.trans E
      by_cases c12 : (ea_i h (b0 + 0) 63) ≤ x2
      · have E := (if_pos c12).symm.trans E
        obtain ⟨z5, E⟩ := gd_some E
        exact ea_shO E (shX12_putsBack hs)
      have E := (if_neg c12).symm.trans E
      obtain ⟨z7, E⟩ := gd_some E
      by_cases c11 : (ea_i h (b0 + 55) (Int32.toNatClampNeg x2)) = (2 : Int32)
      · have E := (if_pos c11).symm.trans E
        obtain ⟨z10, E⟩ := gd_some E
        exact ih 19 ((x1 + (ea_i h (b0 + 59) (Int32.toNatClampNeg x2))) : Int32) ((x2 + (1 : Int32)) : Int32) h _ _ E hs
      have E := (if_neg c11).symm.trans E
      obtain ⟨z8, E⟩ := gd_some E
      by_cases c9 : (2 : Int32) ≤ (ea_i h (b0 + 55) (Int32.toNatClampNeg x2))
      · have E := (if_pos c9).symm.trans E
        exact ih 19 ((x1 + (0 : Int32)) : Int32) ((x2 + (1 : Int32)) : Int32) h _ _ E hs
      have E := (if_neg c9).symm.trans E
      exact ih 19 ((x1 + (10080 : Int32)) : Int32) ((x2 + (1 : Int32)) : Int32) h _ _ E hs
    have E := (if_neg el1).symm.trans E
    cases E
theorem shX12_sums {b0 : Nat} {h : ea_H} (hs : ShM b0 h) : ShM b0 (wX12_sums b0 h) := by
  unfold wX12_sums
  cases K : qX12_sums b0 h with
  | none => exact hs
  | some x => obtain ⟨x, y⟩ := x; unfold qX12_sums at K; exact zX12_sums _ _ _ _ _ _ _ K hs
noncomputable def vX12_whatIf (b0 : Nat) (x1 : Int32) (x2 : Int32) (x3 : Int32) (h : ea_H) : Int32 := (if x1 = ((-1) : Int32) then (vX12_sums b0 h) else (if (vX12_canBeLate b0 (x1 : Int32) (x2 : Int32) (x3 : Int32) h) = (0 : Int32) then ((-1) : Int32) else (vX12_sums b0 (ea_wi (ea_wi h (b0 + 6) (Int32.toNatClampNeg (vX12_run (x1 : Int32) (x2 : Int32) h)) x3) (b0 + 0) 12 0))))
noncomputable def wX12_whatIf (b0 : Nat) (x1 : Int32) (x2 : Int32) (x3 : Int32) (h : ea_H) : ea_H := (if x1 = ((-1) : Int32) then (wX12_sums b0 h) else (if (vX12_canBeLate b0 (x1 : Int32) (x2 : Int32) (x3 : Int32) h) = (0 : Int32) then h else (ea_wi (ea_wi (wX12_sums b0 (ea_wi (ea_wi h (b0 + 6) (Int32.toNatClampNeg (vX12_run (x1 : Int32) (x2 : Int32) h)) x3) (b0 + 0) 12 0)) (b0 + 6) (Int32.toNatClampNeg (vX12_run (x1 : Int32) (x2 : Int32) (wX12_sums b0 (ea_wi (ea_wi h (b0 + 6) (Int32.toNatClampNeg (vX12_run (x1 : Int32) (x2 : Int32) h)) x3) (b0 + 0) 12 0)))) (ea_i h (b0 + 6) (Int32.toNatClampNeg (vX12_run (x1 : Int32) (x2 : Int32) h)))) (b0 + 0) 12 0)))
def okX12_whatIf (b0 : Nat) (x1 : Int32) (x2 : Int32) (x3 : Int32) (h : ea_H) : Prop := (x1 = ((-1) : Int32) → (okX12_sums b0 h)) ∧ (¬ x1 = ((-1) : Int32) → (okX12_canBeLate b0 (x1 : Int32) (x2 : Int32) (x3 : Int32) h) ∧ (((vX12_canBeLate b0 (x1 : Int32) (x2 : Int32) (x3 : Int32) h) = (0 : Int32) → True) ∧ (¬ (vX12_canBeLate b0 (x1 : Int32) (x2 : Int32) (x3 : Int32) h) = (0 : Int32) → vp_in (vX12_run (x1 : Int32) (x2 : Int32) h) 70 ∧ (vp_in (vX12_run (x1 : Int32) (x2 : Int32) h) 70 ∧ ((okX12_sums b0 (ea_wi (ea_wi h (b0 + 6) (Int32.toNatClampNeg (vX12_run (x1 : Int32) (x2 : Int32) h)) x3) (b0 + 0) 12 0)) ∧ (vp_in (vX12_run (x1 : Int32) (x2 : Int32) (wX12_sums b0 (ea_wi (ea_wi h (b0 + 6) (Int32.toNatClampNeg (vX12_run (x1 : Int32) (x2 : Int32) h)) x3) (b0 + 0) 12 0))) 70))))))
theorem shX12_whatIf {b0 : Nat} {x1 : Int32} {x2 : Int32} {x3 : Int32} {h : ea_H} (hs : ShM b0 h) : ShM b0 (wX12_whatIf b0 x1 x2 x3 h) := (ShM_it (shX12_sums hs) (ShM_it hs (ShM_wi (ShM_wi (shX12_sums (ShM_wi (ShM_wi hs)))))))
theorem sX12_whatIf {d : Nat} {b0 : Nat} {x1 : Int32} {x2 : Int32} {x3 : Int32} {h : ea_H} (hd : 9 ≤ d) (hs : ShM b0 h) (K : okX12_whatIf b0 x1 x2 x3 h) : ea_Met mX12_whatIf d [vR (some (b0 + 0)), vI x1, vI x2, vI x3] h (some (vI (vX12_whatIf b0 x1 x2 x3 h))) (wX12_whatIf b0 x1 x2 x3 h) := by
  obtain ⟨X, EX⟩ : ∃ z, z = vX12_whatIf b0 x1 x2 x3 h := ⟨_, rfl⟩
  rw [← EX]
  unfold vX12_whatIf at EX
  obtain ⟨Y, EY⟩ : ∃ z, z = wX12_whatIf b0 x1 x2 x3 h := ⟨_, rfl⟩
  rw [← EY]
  unfold wX12_whatIf at EY
  unfold okX12_whatIf at K
  refine ea_enter rfl (Nat.le_of_ble_eq_true rfl) ?_
  refine ea_iload_n (pc := 0) dX12_whatIf_0 rfl 1 rfl ?_
  refine ea_iconst (pc := 1) dX12_whatIf_1 (v := (-1)) rfl ?_
  refine ea_icmp_ne (pc := 2) (tgt := 10) dX12_whatIf_2 rfl (fun c17 => ?_) (fun c17 => ?_)
  · have EX := EX.trans (if_neg c17)
    have EY := EY.trans (if_neg c17)
    have K := K.2 c17
    refine ea_aload_n (pc := 10) dX12_whatIf_10 rfl 0 rfl ?_
    refine ea_iload_n (pc := 11) dX12_whatIf_11 rfl 1 rfl ?_
    refine ea_iload_n (pc := 12) dX12_whatIf_12 rfl 2 rfl ?_
    refine ea_iload_n (pc := 13) dX12_whatIf_13 rfl 3 rfl ?_
    obtain ⟨z1, K⟩ := K
    refine ea_callV (pc := 14) (d' := d - 1) (As := [vI x1, vI x2, vI x3]) (st := []) dX12_whatIf_14 kX12_canBeLate (sX12_canBeLate (d := d - 1) (by omega) hs z1) (by omega) rfl (Nat.le_of_ble_eq_true rfl) ew_1748 ew_1750 ew_51 (ci := 12) rfl (by decide) (hs.1 0 (by decide)).1 (hs.1 0 (by decide)).2.1 ?_
    refine ea_if_ne (pc := 17) (tgt := 22) dX12_whatIf_17 rfl (fun c14 => ?_) (fun c14 => ?_)
    · have EX := EX.trans (if_neg c14)
      have EY := EY.trans (if_neg c14)
      have K := K.2 c14
      refine ea_aload_n (pc := 22) dX12_whatIf_22 rfl 0 rfl ?_
      refine ea_getR (pc := 23) dX12_whatIf_23 ec_12 (k := 8) (Nat.le_of_ble_eq_true rfl) rfl (Or.inl ew_1353) (hs.1 0 (by decide)).1 (hs.1 0 (by decide)).2.1 (hs.2 0 8 rfl) ?_
      refine ea_iload_n (pc := 26) dX12_whatIf_26 rfl 1 rfl ?_
      refine ea_iload_n (pc := 27) dX12_whatIf_27 rfl 2 rfl ?_
      refine ea_callS (pc := 28) (d' := d - 1) (As := [vI x1, vI x2]) (st := [vR (some (b0 + 6))]) dX12_whatIf_28 kX12_run (sX12_run (d := d - 1) (by omega)) (by omega) rfl (Nat.le_of_ble_eq_true rfl) ew_1755 ew_1756 ?_
      obtain ⟨z3, K⟩ := K
      refine ea_iald (pc := 31) dX12_whatIf_31 (hs.1 6 (by decide)).1 (hs.1 6 (by decide)).2.1 (ea_vpl (hs.1 6 (by decide)).2.2 z3) ?_
      refine ea_istore (pc := 32) (lv' := [(0, vR (some (b0 + 0))), (1, vI x1), (2, vI x2), (3, vI x3), (4, vI (ea_i h (b0 + 6) (Int32.toNatClampNeg (vX12_run (x1 : Int32) (x2 : Int32) h))))]) dX12_whatIf_32 (Nat.le_of_ble_eq_true rfl) [1, 2, 3, 4, 0] rfl ?_
      refine ea_aload_n (pc := 34) dX12_whatIf_34 rfl 0 rfl ?_
      refine ea_getR (pc := 35) dX12_whatIf_35 ec_12 (k := 8) (Nat.le_of_ble_eq_true rfl) rfl (Or.inl ew_1353) (hs.1 0 (by decide)).1 (hs.1 0 (by decide)).2.1 (hs.2 0 8 rfl) ?_
      refine ea_iload_n (pc := 38) dX12_whatIf_38 rfl 1 rfl ?_
      refine ea_iload_n (pc := 39) dX12_whatIf_39 rfl 2 rfl ?_
      refine ea_callS (pc := 40) (d' := d - 1) (As := [vI x1, vI x2]) (st := [vR (some (b0 + 6))]) dX12_whatIf_40 kX12_run (sX12_run (d := d - 1) (by omega)) (by omega) rfl (Nat.le_of_ble_eq_true rfl) ew_1755 ew_1756 ?_
      refine ea_iload_n (pc := 43) dX12_whatIf_43 rfl 3 rfl ?_
      obtain ⟨z5, K⟩ := K
      refine ea_iast (pc := 44) dX12_whatIf_44 (hs.1 6 (by decide)).1 (hs.1 6 (by decide)).2.1 (ea_vpl (hs.1 6 (by decide)).2.2 z5) ?_
      have hs6 : ShM b0 (ea_wi h (b0 + 6) (Int32.toNatClampNeg (vX12_run (x1 : Int32) (x2 : Int32) h)) x3) := ShM_wi hs
      refine ea_aload_n (pc := 45) dX12_whatIf_45 rfl 0 rfl ?_
      refine ea_iconst (pc := 46) dX12_whatIf_46 (v := 0) rfl ?_
      refine ea_putI (pc := 47) dX12_whatIf_47 ec_12 (k := 12) (Nat.le_of_ble_eq_true rfl) rfl (Or.inl ⟨rfl, Or.inl ew_1357⟩) (ea_bn (Or.inl rfl)) (ea_bf (Or.inl rfl)) (hs6.1 0 (by decide)).1 (hs6.1 0 (by decide)).2.1 ?_
      have hs7 : ShM b0 (ea_wi (ea_wi h (b0 + 6) (Int32.toNatClampNeg (vX12_run (x1 : Int32) (x2 : Int32) h)) x3) (b0 + 0) 12 0) := ShM_wi hs6
      refine ea_aload_n (pc := 50) dX12_whatIf_50 rfl 0 rfl ?_
      obtain ⟨z8, K⟩ := K
      refine ea_callV (pc := 51) (d' := d - 1) (As := []) (st := []) dX12_whatIf_51 kX12_sums (sX12_sums (d := d - 1) (by omega) hs7 z8) (by omega) rfl (Nat.le_of_ble_eq_true rfl) ew_2175 ew_2177 ew_104 (ci := 12) rfl (by decide) (hs7.1 0 (by decide)).1 (hs7.1 0 (by decide)).2.1 ?_
      have hs9 : ShM b0 (wX12_sums b0 (ea_wi (ea_wi h (b0 + 6) (Int32.toNatClampNeg (vX12_run (x1 : Int32) (x2 : Int32) h)) x3) (b0 + 0) 12 0)) := shX12_sums hs7
      refine ea_istore (pc := 54) (lv' := [(0, vR (some (b0 + 0))), (1, vI x1), (2, vI x2), (4, vI (ea_i h (b0 + 6) (Int32.toNatClampNeg (vX12_run (x1 : Int32) (x2 : Int32) h)))), (5, vI (vX12_sums b0 (ea_wi (ea_wi h (b0 + 6) (Int32.toNatClampNeg (vX12_run (x1 : Int32) (x2 : Int32) h)) x3) (b0 + 0) 12 0)))]) dX12_whatIf_54 (Nat.le_of_ble_eq_true rfl) [1, 2, 3, 5, 0] rfl ?_
      refine ea_aload_n (pc := 56) dX12_whatIf_56 rfl 0 rfl ?_
      refine ea_getR (pc := 57) dX12_whatIf_57 ec_12 (k := 8) (Nat.le_of_ble_eq_true rfl) rfl (Or.inl ew_1353) (hs9.1 0 (by decide)).1 (hs9.1 0 (by decide)).2.1 (hs9.2 0 8 rfl) ?_
      refine ea_iload_n (pc := 60) dX12_whatIf_60 rfl 1 rfl ?_
      refine ea_iload_n (pc := 61) dX12_whatIf_61 rfl 2 rfl ?_
      refine ea_callS (pc := 62) (d' := d - 1) (As := [vI x1, vI x2]) (st := [vR (some (b0 + 6))]) dX12_whatIf_62 kX12_run (sX12_run (d := d - 1) (by omega)) (by omega) rfl (Nat.le_of_ble_eq_true rfl) ew_1755 ew_1756 ?_
      refine ea_iload (pc := 65) dX12_whatIf_65 3 rfl ?_
      have z11 := K
      refine ea_iast (pc := 67) dX12_whatIf_67 (hs9.1 6 (by decide)).1 (hs9.1 6 (by decide)).2.1 (ea_vpl (hs9.1 6 (by decide)).2.2 z11) ?_
      have hs12 : ShM b0 (ea_wi (wX12_sums b0 (ea_wi (ea_wi h (b0 + 6) (Int32.toNatClampNeg (vX12_run (x1 : Int32) (x2 : Int32) h)) x3) (b0 + 0) 12 0)) (b0 + 6) (Int32.toNatClampNeg (vX12_run (x1 : Int32) (x2 : Int32) (wX12_sums b0 (ea_wi (ea_wi h (b0 + 6) (Int32.toNatClampNeg (vX12_run (x1 : Int32) (x2 : Int32) h)) x3) (b0 + 0) 12 0)))) (ea_i h (b0 + 6) (Int32.toNatClampNeg (vX12_run (x1 : Int32) (x2 : Int32) h)))) := ShM_wi hs9
      refine ea_aload_n (pc := 68) dX12_whatIf_68 rfl 0 rfl ?_
      refine ea_iconst (pc := 69) dX12_whatIf_69 (v := 0) rfl ?_
      refine ea_putI (pc := 70) dX12_whatIf_70 ec_12 (k := 12) (Nat.le_of_ble_eq_true rfl) rfl (Or.inl ⟨rfl, Or.inl ew_1357⟩) (ea_bn (Or.inl rfl)) (ea_bf (Or.inl rfl)) (hs12.1 0 (by decide)).1 (hs12.1 0 (by decide)).2.1 ?_
      have hs13 : ShM b0 (ea_wi (ea_wi (wX12_sums b0 (ea_wi (ea_wi h (b0 + 6) (Int32.toNatClampNeg (vX12_run (x1 : Int32) (x2 : Int32) h)) x3) (b0 + 0) 12 0)) (b0 + 6) (Int32.toNatClampNeg (vX12_run (x1 : Int32) (x2 : Int32) (wX12_sums b0 (ea_wi (ea_wi h (b0 + 6) (Int32.toNatClampNeg (vX12_run (x1 : Int32) (x2 : Int32) h)) x3) (b0 + 0) 12 0)))) (ea_i h (b0 + 6) (Int32.toNatClampNeg (vX12_run (x1 : Int32) (x2 : Int32) h)))) (b0 + 0) 12 0) := ShM_wi hs12
      refine ea_iload (pc := 73) dX12_whatIf_73 4 rfl ?_
      exact ea_iretE (pc := 75) dX12_whatIf_75 rfl rfl EX EY
    · have EX := EX.trans (if_pos c14)
      have EY := EY.trans (if_pos c14)
      refine ea_iconst (pc := 20) dX12_whatIf_20 (v := (-1)) rfl ?_
      exact ea_iretE (pc := 21) dX12_whatIf_21 rfl rfl EX EY
  · have EX := EX.trans (if_pos c17)
    have EY := EY.trans (if_pos c17)
    have K := K.1 c17
    refine ea_aload_n (pc := 5) dX12_whatIf_5 rfl 0 rfl ?_
    have z15 := K
    refine ea_callV (pc := 6) (d' := d - 1) (As := []) (st := []) dX12_whatIf_6 kX12_sums (sX12_sums (d := d - 1) (by omega) hs z15) (by omega) rfl (Nat.le_of_ble_eq_true rfl) ew_2175 ew_2177 ew_104 (ci := 12) rfl (by decide) (hs.1 0 (by decide)).1 (hs.1 0 (by decide)).2.1 ?_
    have hs16 : ShM b0 (wX12_sums b0 h) := shX12_sums hs
    exact ea_iretE (pc := 9) dX12_whatIf_9 rfl rfl EX EY
noncomputable def gX12_seats (b0 : Nat) : Nat → Nat → Int32 → Int32 → Int32 → Int32 → Int32 → Int32 → Int32 → Int32 → Int32 → Int32 → Int32 → ea_H → Option (Int32 × ea_H)
  | 0, _, _, _, _, _, _, _, _, _, _, _, _, _ => none
  | f + 1, lbl, sx0, sx1, sx2, x1, x2, x3, x4, x5, x6, x7, x8, h =>
    if lbl = 0 then (if (ea_i h (b0 + 0) 2) = (0 : Int32) then (some (((-1) : Int32), h)) else (if (ea_i h (b0 + 0) 92) = (0 : Int32) then (some (((-1) : Int32), h)) else (if x1 = (0 : Int32) then (gX12_seats b0 f 44 0 0 0 (x1 : Int32) 0 0 0 0 0 0 0 h) else (if (ea_i h (b0 + 0) 92) ≤ (1 : Int32) then (gX12_seats b0 f 36 (10 : Int32) (10 : Int32) (x1 : Int32) (x1 : Int32) 0 0 0 0 0 0 0 h) else (gX12_seats b0 f 36 (11 : Int32) (10 : Int32) (x1 : Int32) (x1 : Int32) 0 0 0 0 0 0 0 h))))) else
    if lbl = 36 then (if (vX12_isIn (sx2 : Int32) (sx1 : Int32) (sx0 : Int32) h) = (0 : Int32) then (some (((-1) : Int32), h)) else (gX12_seats b0 f 44 0 0 0 (x1 : Int32) 0 0 0 0 0 0 0 h)) else
    if lbl = 44 then (gX12_seats b0 f 70 0 0 0 (x1 : Int32) ((ea_i h (b0 + 68) 0) : Int32) ((ea_i h (b0 + 68) 1) : Int32) ((-1) : Int32) (0 : Int32) (0 : Int32) (0 : Int32) 0 h) else
    if lbl = 70 then (if (ea_i h (b0 + 0) 2) ≤ x7 then (gd (vp_in 0 8) (gd (vp_in 1 8) (if x1 = (0 : Int32) then (some (x4, (ea_wi (ea_wi h (b0 + 68) (Int32.toNatClampNeg 0) x2) (b0 + 68) (Int32.toNatClampNeg 1) x3))) else (if x1 = (10 : Int32) then (some (x5, (ea_wi (ea_wi h (b0 + 68) (Int32.toNatClampNeg 0) x2) (b0 + 68) (Int32.toNatClampNeg 1) x3))) else (some (x6, (ea_wi (ea_wi h (b0 + 68) (Int32.toNatClampNeg 0) x2) (b0 + 68) (Int32.toNatClampNeg 1) x3))))))) else (gX12_seats b0 f 82 0 0 0 (x1 : Int32) (x2 : Int32) (x3 : Int32) (x4 : Int32) (x5 : Int32) (x6 : Int32) (x7 : Int32) (0 : Int32) h)) else
    if lbl = 82 then (if (ea_i h (b0 + 0) 92) ≤ (1 : Int32) then (gX12_seats b0 f 100 (1 : Int32) (x8 : Int32) 0 (x1 : Int32) (x2 : Int32) (x3 : Int32) (x4 : Int32) (x5 : Int32) (x6 : Int32) (x7 : Int32) (x8 : Int32) h) else (gX12_seats b0 f 100 ((ea_i h (b0 + 0) 2) : Int32) (x8 : Int32) 0 (x1 : Int32) (x2 : Int32) (x3 : Int32) (x4 : Int32) (x5 : Int32) (x6 : Int32) (x7 : Int32) (x8 : Int32) h)) else
    if lbl = 100 then (if sx0 ≤ sx1 then (gX12_seats b0 f 70 0 0 0 (x1 : Int32) (x2 : Int32) (x3 : Int32) (x4 : Int32) (x5 : Int32) (x6 : Int32) ((x7 + (1 : Int32)) : Int32) 0 h) else (gd (vp_in 0 8) (if (ea_i (ea_wi h (b0 + 68) (Int32.toNatClampNeg 0) x7) (b0 + 0) 92) ≤ (1 : Int32) then (gX12_seats b0 f 127 0 0 0 (x1 : Int32) (x2 : Int32) (x3 : Int32) (x4 : Int32) (x5 : Int32) (x6 : Int32) (x7 : Int32) (x8 : Int32) (ea_wi h (b0 + 68) (Int32.toNatClampNeg 0) x7)) else (gd (vp_in 1 8) (gX12_seats b0 f 127 0 0 0 (x1 : Int32) (x2 : Int32) (x3 : Int32) (x4 : Int32) (x5 : Int32) (x6 : Int32) (x7 : Int32) (x8 : Int32) (ea_wi (ea_wi h (b0 + 68) (Int32.toNatClampNeg 0) x7) (b0 + 68) (Int32.toNatClampNeg 1) x8)))))) else
    if lbl = 127 then (gd ((okX12_sums b0 h)) (if x4 = ((-1) : Int32) then (gX12_seats b0 f 82 0 0 0 (x1 : Int32) (x2 : Int32) (x3 : Int32) ((vX12_sums b0 h) : Int32) (x7 : Int32) (x8 : Int32) (x7 : Int32) ((x8 + (1 : Int32)) : Int32) (wX12_sums b0 h)) else (if (vX12_sums b0 h) < x4 then (gX12_seats b0 f 82 0 0 0 (x1 : Int32) (x2 : Int32) (x3 : Int32) ((vX12_sums b0 h) : Int32) (x7 : Int32) (x8 : Int32) (x7 : Int32) ((x8 + (1 : Int32)) : Int32) (wX12_sums b0 h)) else (gX12_seats b0 f 82 0 0 0 (x1 : Int32) (x2 : Int32) (x3 : Int32) (x4 : Int32) (x5 : Int32) (x6 : Int32) (x7 : Int32) ((x8 + (1 : Int32)) : Int32) (wX12_sums b0 h))))) else none
theorem tX12_seats {d : Nat} {b0 : Nat} {h0 : ea_H} (hd : 9 ≤ d) : ∀ (f lbl : Nat) (sx0 : Int32) (sx1 : Int32) (sx2 : Int32) (x1 : Int32) (x2 : Int32) (x3 : Int32) (x4 : Int32) (x5 : Int32) (x6 : Int32) (x7 : Int32) (x8 : Int32) (h : ea_H) (r : Int32) (h' : ea_H), gX12_seats b0 f lbl sx0 sx1 sx2 x1 x2 x3 x4 x5 x6 x7 x8 h = some (r, h') → ShM b0 h → (lbl = 0 → ea_W mX12_seats d h0 (some (vI r)) h' 0 [(0, vR (some (b0 + 0))), (1, vI x1)] [] h) ∧ (lbl = 36 → ea_W mX12_seats d h0 (some (vI r)) h' 36 [(0, vR (some (b0 + 0))), (1, vI x1)] [vI sx0, vI sx1, vI sx2] h) ∧ (lbl = 44 → ea_W mX12_seats d h0 (some (vI r)) h' 44 [(0, vR (some (b0 + 0))), (1, vI x1)] [] h) ∧ (lbl = 70 → ea_W mX12_seats d h0 (some (vI r)) h' 70 [(0, vR (some (b0 + 0))), (1, vI x1), (2, vI x2), (3, vI x3), (4, vI x4), (5, vI x5), (6, vI x6), (7, vI x7)] [] h) ∧ (lbl = 82 → ea_W mX12_seats d h0 (some (vI r)) h' 82 [(0, vR (some (b0 + 0))), (1, vI x1), (2, vI x2), (3, vI x3), (4, vI x4), (5, vI x5), (6, vI x6), (7, vI x7), (8, vI x8)] [] h) ∧ (lbl = 100 → ea_W mX12_seats d h0 (some (vI r)) h' 100 [(0, vR (some (b0 + 0))), (1, vI x1), (2, vI x2), (3, vI x3), (4, vI x4), (5, vI x5), (6, vI x6), (7, vI x7), (8, vI x8)] [vI sx0, vI sx1] h) ∧ (lbl = 127 → ea_W mX12_seats d h0 (some (vI r)) h' 127 [(0, vR (some (b0 + 0))), (1, vI x1), (2, vI x2), (3, vI x3), (4, vI x4), (5, vI x5), (6, vI x6), (7, vI x7), (8, vI x8)] [] h) := by
  intro f
  induction f with
  | zero => intro lbl sx0 sx1 sx2 x1 x2 x3 x4 x5 x6 x7 x8 h r h' E; cases E
  | succ f ih =>
    intro lbl sx0 sx1 sx2 x1 x2 x3 x4 x5 x6 x7 x8 h r h' E hs
    unfold gX12_seats at E
    refine ⟨?_, ?_⟩
    · intro el
      subst el
      have E := (if_pos rfl).symm.trans E
      refine ea_aload_n (pc := 0) dX12_seats_0 rfl 0 rfl ?_
      refine ea_getI (pc := 1) dX12_seats_1 ec_12 (k := 2) (Nat.le_of_ble_eq_true rfl) rfl (Or.inl ew_1347) (hs.1 0 (by decide)).1 (hs.1 0 (by decide)).2.1 ?_
      refine ea_if_eq (pc := 4) (tgt := 42) dX12_seats_4 rfl (fun c4 => ?_) (fun c4 => ?_)
      · have E := (if_pos c4).symm.trans E
        refine ea_iconst (pc := 42) dX12_seats_42 (v := (-1)) rfl ?_
        exact ea_iretO (pc := 43) dX12_seats_43 rfl rfl E
      · have E := (if_neg c4).symm.trans E
        refine ea_aload_n (pc := 7) dX12_seats_7 rfl 0 rfl ?_
        refine ea_getI (pc := 8) dX12_seats_8 ec_12 (k := 92) (Nat.le_of_ble_eq_true rfl) rfl (Or.inl ew_1437) (hs.1 0 (by decide)).1 (hs.1 0 (by decide)).2.1 ?_
        refine ea_if_eq (pc := 11) (tgt := 42) dX12_seats_11 rfl (fun c3 => ?_) (fun c3 => ?_)
        · have E := (if_pos c3).symm.trans E
          refine ea_iconst (pc := 42) dX12_seats_42 (v := (-1)) rfl ?_
          exact ea_iretO (pc := 43) dX12_seats_43 rfl rfl E
        · have E := (if_neg c3).symm.trans E
          refine ea_iload_n (pc := 14) dX12_seats_14 rfl 1 rfl ?_
          refine ea_if_eq (pc := 15) (tgt := 44) dX12_seats_15 rfl (fun c2 => ?_) (fun c2 => ?_)
          · have E := (if_pos c2).symm.trans E
            exact ((ih 44 0 0 0 (x1 : Int32) 0 0 0 0 0 0 0 h _ _ E hs).2.2.1 rfl)
          · have E := (if_neg c2).symm.trans E
            refine ea_iload_n (pc := 18) dX12_seats_18 rfl 1 rfl ?_
            refine ea_bipush (pc := 19) dX12_seats_19 (v := 10) rfl ?_
            refine ea_aload_n (pc := 21) dX12_seats_21 rfl 0 rfl ?_
            refine ea_getI (pc := 22) dX12_seats_22 ec_12 (k := 92) (Nat.le_of_ble_eq_true rfl) rfl (Or.inl ew_1437) (hs.1 0 (by decide)).1 (hs.1 0 (by decide)).2.1 ?_
            refine ea_iconst (pc := 25) dX12_seats_25 (v := 1) rfl ?_
            refine ea_icmp_le (pc := 26) (tgt := 34) dX12_seats_26 rfl (fun c1 => ?_) (fun c1 => ?_)
            · have E := (if_pos c1).symm.trans E
              refine ea_bipush (pc := 34) dX12_seats_34 (v := 10) rfl ?_
              exact ((ih 36 (10 : Int32) (10 : Int32) (x1 : Int32) (x1 : Int32) 0 0 0 0 0 0 0 h _ _ E hs).2.1 rfl)
            · have E := (if_neg c1).symm.trans E
              refine ea_bipush (pc := 29) dX12_seats_29 (v := 11) rfl ?_
              refine ea_goto (pc := 31) (tgt := 36) dX12_seats_31 rfl ?_
              exact ((ih 36 (11 : Int32) (10 : Int32) (x1 : Int32) (x1 : Int32) 0 0 0 0 0 0 0 h _ _ E hs).2.1 rfl)
    refine ⟨?_, ?_⟩
    · intro el
      subst el
      have E := (if_neg (by decide)).symm.trans E
      have E := (if_pos rfl).symm.trans E
      refine ea_callS (pc := 36) (d' := d - 1) (As := [vI sx2, vI sx1, vI sx0]) (st := []) dX12_seats_36 kX12_isIn (sX12_isIn (d := d - 1) (by omega)) (by omega) rfl (Nat.le_of_ble_eq_true rfl) ew_1712 ew_1713 ?_
      refine ea_if_ne (pc := 39) (tgt := 44) dX12_seats_39 rfl (fun c6 => ?_) (fun c6 => ?_)
      · have E := (if_neg c6).symm.trans E
        exact ((ih 44 0 0 0 (x1 : Int32) 0 0 0 0 0 0 0 h _ _ E hs).2.2.1 rfl)
      · have E := (if_pos c6).symm.trans E
        refine ea_iconst (pc := 42) dX12_seats_42 (v := (-1)) rfl ?_
        exact ea_iretO (pc := 43) dX12_seats_43 rfl rfl E
    refine ⟨?_, ?_⟩
    · intro el
      subst el
      have E := (if_neg (by decide)).symm.trans E
      have E := (if_neg (by decide)).symm.trans E
      have E := (if_pos rfl).symm.trans E
      refine ea_aload_n (pc := 44) dX12_seats_44 rfl 0 rfl ?_
      refine ea_getR (pc := 45) dX12_seats_45 ec_12 (k := 95) (Nat.le_of_ble_eq_true rfl) rfl (Or.inl ew_1440) (hs.1 0 (by decide)).1 (hs.1 0 (by decide)).2.1 (hs.2 0 95 rfl) ?_
      refine ea_iconst (pc := 48) dX12_seats_48 (v := 0) rfl ?_
      refine ea_iald (pc := 49) dX12_seats_49 (hs.1 68 (by decide)).1 (hs.1 68 (by decide)).2.1 (ea_vpl (n := 8) (hs.1 68 (by decide)).2.2 (by unfold vp_in; decide)) ?_
      refine ea_istore_n (pc := 50) (lv' := [(0, vR (some (b0 + 0))), (1, vI x1), (2, vI (ea_i h (b0 + 68) 0))]) dX12_seats_50 rfl (Nat.le_of_ble_eq_true rfl) [1, 2, 0] rfl ?_
      refine ea_aload_n (pc := 51) dX12_seats_51 rfl 0 rfl ?_
      refine ea_getR (pc := 52) dX12_seats_52 ec_12 (k := 95) (Nat.le_of_ble_eq_true rfl) rfl (Or.inl ew_1440) (hs.1 0 (by decide)).1 (hs.1 0 (by decide)).2.1 (hs.2 0 95 rfl) ?_
      refine ea_iconst (pc := 55) dX12_seats_55 (v := 1) rfl ?_
      refine ea_iald (pc := 56) dX12_seats_56 (hs.1 68 (by decide)).1 (hs.1 68 (by decide)).2.1 (ea_vpl (n := 8) (hs.1 68 (by decide)).2.2 (by unfold vp_in; decide)) ?_
      refine ea_istore_n (pc := 57) (lv' := [(0, vR (some (b0 + 0))), (1, vI x1), (2, vI (ea_i h (b0 + 68) 0)), (3, vI (ea_i h (b0 + 68) 1))]) dX12_seats_57 rfl (Nat.le_of_ble_eq_true rfl) [1, 2, 3, 0] rfl ?_
      refine ea_iconst (pc := 58) dX12_seats_58 (v := (-1)) rfl ?_
      refine ea_istore (pc := 59) (lv' := [(0, vR (some (b0 + 0))), (1, vI x1), (2, vI (ea_i h (b0 + 68) 0)), (3, vI (ea_i h (b0 + 68) 1)), (4, vI (-1))]) dX12_seats_59 (Nat.le_of_ble_eq_true rfl) [1, 2, 3, 4, 0] rfl ?_
      refine ea_iconst (pc := 61) dX12_seats_61 (v := 0) rfl ?_
      refine ea_istore (pc := 62) (lv' := [(0, vR (some (b0 + 0))), (1, vI x1), (2, vI (ea_i h (b0 + 68) 0)), (3, vI (ea_i h (b0 + 68) 1)), (4, vI (-1)), (5, vI 0)]) dX12_seats_62 (Nat.le_of_ble_eq_true rfl) [1, 2, 3, 4, 5, 0] rfl ?_
      refine ea_iconst (pc := 64) dX12_seats_64 (v := 0) rfl ?_
      refine ea_istore (pc := 65) (lv' := [(0, vR (some (b0 + 0))), (1, vI x1), (2, vI (ea_i h (b0 + 68) 0)), (3, vI (ea_i h (b0 + 68) 1)), (4, vI (-1)), (5, vI 0), (6, vI 0)]) dX12_seats_65 (Nat.le_of_ble_eq_true rfl) [1, 2, 3, 4, 5, 6, 0] rfl ?_
      refine ea_iconst (pc := 67) dX12_seats_67 (v := 0) rfl ?_
      refine ea_istore (pc := 68) (lv' := [(0, vR (some (b0 + 0))), (1, vI x1), (2, vI (ea_i h (b0 + 68) 0)), (3, vI (ea_i h (b0 + 68) 1)), (4, vI (-1)), (5, vI 0), (6, vI 0), (7, vI 0)]) dX12_seats_68 (Nat.le_of_ble_eq_true rfl) [1, 2, 3, 4, 5, 6, 7, 0] rfl ?_
      exact ((ih 70 0 0 0 (x1 : Int32) ((ea_i h (b0 + 68) 0) : Int32) ((ea_i h (b0 + 68) 1) : Int32) ((-1) : Int32) (0 : Int32) (0 : Int32) (0 : Int32) 0 h _ _ E hs).2.2.2.1 rfl)
    refine ⟨?_, ?_⟩
    · intro el
      subst el
      have E := (if_neg (by decide)).symm.trans E
      have E := (if_neg (by decide)).symm.trans E
      have E := (if_neg (by decide)).symm.trans E
      have E := (if_pos rfl).symm.trans E
      refine ea_iload (pc := 70) dX12_seats_70 7 rfl ?_
      refine ea_aload_n (pc := 72) dX12_seats_72 rfl 0 rfl ?_
      refine ea_getI (pc := 73) dX12_seats_73 ec_12 (k := 2) (Nat.le_of_ble_eq_true rfl) rfl (Or.inl ew_1347) (hs.1 0 (by decide)).1 (hs.1 0 (by decide)).2.1 ?_
      refine ea_icmp_ge (pc := 76) (tgt := 173) dX12_seats_76 rfl (fun c13 => ?_) (fun c13 => ?_)
      · have E := (if_pos c13).symm.trans E
        refine ea_aload_n (pc := 173) dX12_seats_173 rfl 0 rfl ?_
        refine ea_getR (pc := 174) dX12_seats_174 ec_12 (k := 95) (Nat.le_of_ble_eq_true rfl) rfl (Or.inl ew_1440) (hs.1 0 (by decide)).1 (hs.1 0 (by decide)).2.1 (hs.2 0 95 rfl) ?_
        refine ea_iconst (pc := 177) dX12_seats_177 (v := 0) rfl ?_
        refine ea_iload_n (pc := 178) dX12_seats_178 rfl 2 rfl ?_
        obtain ⟨z7, E⟩ := gd_some E
        refine ea_iast (pc := 179) dX12_seats_179 (hs.1 68 (by decide)).1 (hs.1 68 (by decide)).2.1 (ea_vpl (hs.1 68 (by decide)).2.2 z7) ?_
        have hs8 : ShM b0 (ea_wi h (b0 + 68) (Int32.toNatClampNeg 0) x2) := ShM_wi hs
        refine ea_aload_n (pc := 180) dX12_seats_180 rfl 0 rfl ?_
        refine ea_getR (pc := 181) dX12_seats_181 ec_12 (k := 95) (Nat.le_of_ble_eq_true rfl) rfl (Or.inl ew_1440) (hs8.1 0 (by decide)).1 (hs8.1 0 (by decide)).2.1 (hs8.2 0 95 rfl) ?_
        refine ea_iconst (pc := 184) dX12_seats_184 (v := 1) rfl ?_
        refine ea_iload_n (pc := 185) dX12_seats_185 rfl 3 rfl ?_
        obtain ⟨z9, E⟩ := gd_some E
        refine ea_iast (pc := 186) dX12_seats_186 (hs8.1 68 (by decide)).1 (hs8.1 68 (by decide)).2.1 (ea_vpl (hs8.1 68 (by decide)).2.2 z9) ?_
        have hs10 : ShM b0 (ea_wi (ea_wi h (b0 + 68) (Int32.toNatClampNeg 0) x2) (b0 + 68) (Int32.toNatClampNeg 1) x3) := ShM_wi hs8
        refine ea_iload_n (pc := 187) dX12_seats_187 rfl 1 rfl ?_
        refine ea_if_ne (pc := 188) (tgt := 196) dX12_seats_188 rfl (fun c12 => ?_) (fun c12 => ?_)
        · have E := (if_neg c12).symm.trans E
          refine ea_iload_n (pc := 196) dX12_seats_196 rfl 1 rfl ?_
          refine ea_bipush (pc := 197) dX12_seats_197 (v := 10) rfl ?_
          refine ea_icmp_ne (pc := 199) (tgt := 207) dX12_seats_199 rfl (fun c11 => ?_) (fun c11 => ?_)
          · have E := (if_neg c11).symm.trans E
            refine ea_iload (pc := 207) dX12_seats_207 6 rfl ?_
            exact ea_iretO (pc := 209) dX12_seats_209 rfl rfl E
          · have E := (if_pos c11).symm.trans E
            refine ea_iload (pc := 202) dX12_seats_202 5 rfl ?_
            refine ea_goto (pc := 204) (tgt := 209) dX12_seats_204 rfl ?_
            exact ea_iretO (pc := 209) dX12_seats_209 rfl rfl E
        · have E := (if_pos c12).symm.trans E
          refine ea_iload (pc := 191) dX12_seats_191 4 rfl ?_
          refine ea_goto (pc := 193) (tgt := 209) dX12_seats_193 rfl ?_
          exact ea_iretO (pc := 209) dX12_seats_209 rfl rfl E
      · have E := (if_neg c13).symm.trans E
        refine ea_iconst (pc := 79) dX12_seats_79 (v := 0) rfl ?_
        refine ea_istore (pc := 80) (lv' := [(0, vR (some (b0 + 0))), (1, vI x1), (2, vI x2), (3, vI x3), (4, vI x4), (5, vI x5), (6, vI x6), (7, vI x7), (8, vI 0)]) dX12_seats_80 (Nat.le_of_ble_eq_true rfl) [1, 2, 3, 4, 5, 6, 7, 8, 0] rfl ?_
        exact ((ih 82 0 0 0 (x1 : Int32) (x2 : Int32) (x3 : Int32) (x4 : Int32) (x5 : Int32) (x6 : Int32) (x7 : Int32) (0 : Int32) h _ _ E hs).2.2.2.2.1 rfl)
    refine ⟨?_, ?_⟩
    · intro el
      subst el
      have E := (if_neg (by decide)).symm.trans E
      have E := (if_neg (by decide)).symm.trans E
      have E := (if_neg (by decide)).symm.trans E
      have E := (if_neg (by decide)).symm.trans E
      have E := (if_pos rfl).symm.trans E
      refine ea_iload (pc := 82) dX12_seats_82 8 rfl ?_
      refine ea_aload_n (pc := 84) dX12_seats_84 rfl 0 rfl ?_
      refine ea_getI (pc := 85) dX12_seats_85 ec_12 (k := 92) (Nat.le_of_ble_eq_true rfl) rfl (Or.inl ew_1437) (hs.1 0 (by decide)).1 (hs.1 0 (by decide)).2.1 ?_
      refine ea_iconst (pc := 88) dX12_seats_88 (v := 1) rfl ?_
      refine ea_icmp_le (pc := 89) (tgt := 99) dX12_seats_89 rfl (fun c14 => ?_) (fun c14 => ?_)
      · have E := (if_pos c14).symm.trans E
        refine ea_iconst (pc := 99) dX12_seats_99 (v := 1) rfl ?_
        exact ((ih 100 (1 : Int32) (x8 : Int32) 0 (x1 : Int32) (x2 : Int32) (x3 : Int32) (x4 : Int32) (x5 : Int32) (x6 : Int32) (x7 : Int32) (x8 : Int32) h _ _ E hs).2.2.2.2.2.1 rfl)
      · have E := (if_neg c14).symm.trans E
        refine ea_aload_n (pc := 92) dX12_seats_92 rfl 0 rfl ?_
        refine ea_getI (pc := 93) dX12_seats_93 ec_12 (k := 2) (Nat.le_of_ble_eq_true rfl) rfl (Or.inl ew_1347) (hs.1 0 (by decide)).1 (hs.1 0 (by decide)).2.1 ?_
        refine ea_goto (pc := 96) (tgt := 100) dX12_seats_96 rfl ?_
        exact ((ih 100 ((ea_i h (b0 + 0) 2) : Int32) (x8 : Int32) 0 (x1 : Int32) (x2 : Int32) (x3 : Int32) (x4 : Int32) (x5 : Int32) (x6 : Int32) (x7 : Int32) (x8 : Int32) h _ _ E hs).2.2.2.2.2.1 rfl)
    refine ⟨?_, ?_⟩
    · intro el
      subst el
      have E := (if_neg (by decide)).symm.trans E
      have E := (if_neg (by decide)).symm.trans E
      have E := (if_neg (by decide)).symm.trans E
      have E := (if_neg (by decide)).symm.trans E
      have E := (if_neg (by decide)).symm.trans E
      have E := (if_pos rfl).symm.trans E
      refine ea_icmp_ge (pc := 100) (tgt := 167) dX12_seats_100 rfl (fun c20 => ?_) (fun c20 => ?_)
      · have E := (if_pos c20).symm.trans E
        refine ea_iinc (pc := 167) (v := 1) (lv' := [(0, vR (some (b0 + 0))), (1, vI x1), (2, vI x2), (3, vI x3), (4, vI x4), (5, vI x5), (6, vI x6), (7, vI (x7 + (1 : Int32)))]) dX12_seats_167 7 rfl rfl (Nat.le_of_ble_eq_true rfl) [1, 2, 3, 4, 5, 6, 7, 0] rfl ?_
        refine ea_goto (pc := 170) (tgt := 70) dX12_seats_170 rfl ?_
        exact ((ih 70 0 0 0 (x1 : Int32) (x2 : Int32) (x3 : Int32) (x4 : Int32) (x5 : Int32) (x6 : Int32) ((x7 + (1 : Int32)) : Int32) 0 h _ _ E hs).2.2.2.1 rfl)
      · have E := (if_neg c20).symm.trans E
        refine ea_aload_n (pc := 103) dX12_seats_103 rfl 0 rfl ?_
        refine ea_getR (pc := 104) dX12_seats_104 ec_12 (k := 95) (Nat.le_of_ble_eq_true rfl) rfl (Or.inl ew_1440) (hs.1 0 (by decide)).1 (hs.1 0 (by decide)).2.1 (hs.2 0 95 rfl) ?_
        refine ea_iconst (pc := 107) dX12_seats_107 (v := 0) rfl ?_
        refine ea_iload (pc := 108) dX12_seats_108 7 rfl ?_
        obtain ⟨z15, E⟩ := gd_some E
        refine ea_iast (pc := 110) dX12_seats_110 (hs.1 68 (by decide)).1 (hs.1 68 (by decide)).2.1 (ea_vpl (hs.1 68 (by decide)).2.2 z15) ?_
        have hs16 : ShM b0 (ea_wi h (b0 + 68) (Int32.toNatClampNeg 0) x7) := ShM_wi hs
        refine ea_aload_n (pc := 111) dX12_seats_111 rfl 0 rfl ?_
        refine ea_getI (pc := 112) dX12_seats_112 ec_12 (k := 92) (Nat.le_of_ble_eq_true rfl) rfl (Or.inl ew_1437) (hs16.1 0 (by decide)).1 (hs16.1 0 (by decide)).2.1 ?_
        refine ea_iconst (pc := 115) dX12_seats_115 (v := 1) rfl ?_
        refine ea_icmp_le (pc := 116) (tgt := 127) dX12_seats_116 rfl (fun c19 => ?_) (fun c19 => ?_)
        · have E := (if_pos c19).symm.trans E
          exact ((ih 127 0 0 0 (x1 : Int32) (x2 : Int32) (x3 : Int32) (x4 : Int32) (x5 : Int32) (x6 : Int32) (x7 : Int32) (x8 : Int32) (ea_wi h (b0 + 68) (Int32.toNatClampNeg 0) x7) _ _ E hs16).2.2.2.2.2.2 rfl)
        · have E := (if_neg c19).symm.trans E
          refine ea_aload_n (pc := 119) dX12_seats_119 rfl 0 rfl ?_
          refine ea_getR (pc := 120) dX12_seats_120 ec_12 (k := 95) (Nat.le_of_ble_eq_true rfl) rfl (Or.inl ew_1440) (hs16.1 0 (by decide)).1 (hs16.1 0 (by decide)).2.1 (hs16.2 0 95 rfl) ?_
          refine ea_iconst (pc := 123) dX12_seats_123 (v := 1) rfl ?_
          refine ea_iload (pc := 124) dX12_seats_124 8 rfl ?_
          obtain ⟨z17, E⟩ := gd_some E
          refine ea_iast (pc := 126) dX12_seats_126 (hs16.1 68 (by decide)).1 (hs16.1 68 (by decide)).2.1 (ea_vpl (hs16.1 68 (by decide)).2.2 z17) ?_
          have hs18 : ShM b0 (ea_wi (ea_wi h (b0 + 68) (Int32.toNatClampNeg 0) x7) (b0 + 68) (Int32.toNatClampNeg 1) x8) := ShM_wi hs16
          exact ((ih 127 0 0 0 (x1 : Int32) (x2 : Int32) (x3 : Int32) (x4 : Int32) (x5 : Int32) (x6 : Int32) (x7 : Int32) (x8 : Int32) (ea_wi (ea_wi h (b0 + 68) (Int32.toNatClampNeg 0) x7) (b0 + 68) (Int32.toNatClampNeg 1) x8) _ _ E hs18).2.2.2.2.2.2 rfl)
    intro el
    subst el
    have E := (if_neg (by decide)).symm.trans E
    have E := (if_neg (by decide)).symm.trans E
    have E := (if_neg (by decide)).symm.trans E
    have E := (if_neg (by decide)).symm.trans E
    have E := (if_neg (by decide)).symm.trans E
    have E := (if_neg (by decide)).symm.trans E
    have E := (if_pos rfl).symm.trans E
    refine ea_aload_n (pc := 127) dX12_seats_127 rfl 0 rfl ?_
    obtain ⟨z21, E⟩ := gd_some E
    refine ea_callV (pc := 128) (d' := d - 1) (As := []) (st := []) dX12_seats_128 kX12_sums (sX12_sums (d := d - 1) (by omega) hs z21) (by omega) rfl (Nat.le_of_ble_eq_true rfl) ew_2175 ew_2177 ew_104 (ci := 12) rfl (by decide) (hs.1 0 (by decide)).1 (hs.1 0 (by decide)).2.1 ?_
    have hs22 : ShM b0 (wX12_sums b0 h) := shX12_sums hs
    refine ea_istore (pc := 131) (lv' := [(0, vR (some (b0 + 0))), (1, vI x1), (2, vI x2), (3, vI x3), (4, vI x4), (5, vI x5), (6, vI x6), (7, vI x7), (8, vI x8), (9, vI (vX12_sums b0 h))]) dX12_seats_131 (Nat.le_of_ble_eq_true rfl) [1, 2, 3, 4, 5, 6, 7, 8, 9, 0] rfl ?_
    refine ea_iload (pc := 133) dX12_seats_133 4 rfl ?_
    refine ea_iconst (pc := 135) dX12_seats_135 (v := (-1)) rfl ?_
    refine ea_icmp_eq (pc := 136) (tgt := 149) dX12_seats_136 rfl (fun c24 => ?_) (fun c24 => ?_)
    · have E := (if_pos c24).symm.trans E
      refine ea_iload (pc := 149) dX12_seats_149 9 rfl ?_
      refine ea_istore (pc := 151) (lv' := [(0, vR (some (b0 + 0))), (1, vI x1), (2, vI x2), (3, vI x3), (4, vI (vX12_sums b0 h)), (7, vI x7), (8, vI x8)]) dX12_seats_151 (Nat.le_of_ble_eq_true rfl) [1, 2, 3, 4, 0, 7, 8] rfl ?_
      refine ea_iload (pc := 153) dX12_seats_153 5 rfl ?_
      refine ea_istore (pc := 155) (lv' := [(0, vR (some (b0 + 0))), (1, vI x1), (2, vI x2), (3, vI x3), (4, vI (vX12_sums b0 h)), (5, vI x7), (7, vI x7), (8, vI x8)]) dX12_seats_155 (Nat.le_of_ble_eq_true rfl) [1, 2, 3, 4, 5, 0, 6, 7] rfl ?_
      refine ea_iload (pc := 157) dX12_seats_157 7 rfl ?_
      refine ea_istore (pc := 159) (lv' := [(0, vR (some (b0 + 0))), (1, vI x1), (2, vI x2), (3, vI x3), (4, vI (vX12_sums b0 h)), (5, vI x7), (6, vI x8), (7, vI x7), (8, vI x8)]) dX12_seats_159 (Nat.le_of_ble_eq_true rfl) [1, 2, 3, 4, 5, 6, 0, 7, 8] rfl ?_
      refine ea_iinc (pc := 161) (v := 1) (lv' := [(0, vR (some (b0 + 0))), (1, vI x1), (2, vI x2), (3, vI x3), (4, vI (vX12_sums b0 h)), (5, vI x7), (6, vI x8), (7, vI x7), (8, vI (x8 + (1 : Int32)))]) dX12_seats_161 8 rfl rfl (Nat.le_of_ble_eq_true rfl) [1, 2, 3, 4, 5, 6, 7, 8, 0] rfl ?_
      refine ea_goto (pc := 164) (tgt := 82) dX12_seats_164 rfl ?_
      exact ((ih 82 0 0 0 (x1 : Int32) (x2 : Int32) (x3 : Int32) ((vX12_sums b0 h) : Int32) (x7 : Int32) (x8 : Int32) (x7 : Int32) ((x8 + (1 : Int32)) : Int32) (wX12_sums b0 h) _ _ E hs22).2.2.2.2.1 rfl)
    · have E := (if_neg c24).symm.trans E
      refine ea_iload (pc := 139) dX12_seats_139 9 rfl ?_
      refine ea_iload (pc := 141) dX12_seats_141 4 rfl ?_
      refine ea_icmp_lt (pc := 143) (tgt := 149) dX12_seats_143 rfl (fun c23 => ?_) (fun c23 => ?_)
      · have E := (if_pos c23).symm.trans E
        refine ea_iload (pc := 149) dX12_seats_149 9 rfl ?_
        refine ea_istore (pc := 151) (lv' := [(0, vR (some (b0 + 0))), (1, vI x1), (2, vI x2), (3, vI x3), (4, vI (vX12_sums b0 h)), (7, vI x7), (8, vI x8)]) dX12_seats_151 (Nat.le_of_ble_eq_true rfl) [1, 2, 3, 4, 0, 7, 8] rfl ?_
        refine ea_iload (pc := 153) dX12_seats_153 5 rfl ?_
        refine ea_istore (pc := 155) (lv' := [(0, vR (some (b0 + 0))), (1, vI x1), (2, vI x2), (3, vI x3), (4, vI (vX12_sums b0 h)), (5, vI x7), (7, vI x7), (8, vI x8)]) dX12_seats_155 (Nat.le_of_ble_eq_true rfl) [1, 2, 3, 4, 5, 0, 6, 7] rfl ?_
        refine ea_iload (pc := 157) dX12_seats_157 7 rfl ?_
        refine ea_istore (pc := 159) (lv' := [(0, vR (some (b0 + 0))), (1, vI x1), (2, vI x2), (3, vI x3), (4, vI (vX12_sums b0 h)), (5, vI x7), (6, vI x8), (7, vI x7), (8, vI x8)]) dX12_seats_159 (Nat.le_of_ble_eq_true rfl) [1, 2, 3, 4, 5, 6, 0, 7, 8] rfl ?_
        refine ea_iinc (pc := 161) (v := 1) (lv' := [(0, vR (some (b0 + 0))), (1, vI x1), (2, vI x2), (3, vI x3), (4, vI (vX12_sums b0 h)), (5, vI x7), (6, vI x8), (7, vI x7), (8, vI (x8 + (1 : Int32)))]) dX12_seats_161 8 rfl rfl (Nat.le_of_ble_eq_true rfl) [1, 2, 3, 4, 5, 6, 7, 8, 0] rfl ?_
        refine ea_goto (pc := 164) (tgt := 82) dX12_seats_164 rfl ?_
        exact ((ih 82 0 0 0 (x1 : Int32) (x2 : Int32) (x3 : Int32) ((vX12_sums b0 h) : Int32) (x7 : Int32) (x8 : Int32) (x7 : Int32) ((x8 + (1 : Int32)) : Int32) (wX12_sums b0 h) _ _ E hs22).2.2.2.2.1 rfl)
      · have E := (if_neg c23).symm.trans E
        refine ea_goto (pc := 146) (tgt := 161) dX12_seats_146 rfl ?_
        refine ea_iinc (pc := 161) (v := 1) (lv' := [(0, vR (some (b0 + 0))), (1, vI x1), (2, vI x2), (3, vI x3), (4, vI x4), (5, vI x5), (6, vI x6), (7, vI x7), (8, vI (x8 + (1 : Int32)))]) dX12_seats_161 8 rfl rfl (Nat.le_of_ble_eq_true rfl) [1, 2, 3, 4, 5, 6, 7, 8, 0] rfl ?_
        refine ea_goto (pc := 164) (tgt := 82) dX12_seats_164 rfl ?_
        exact ((ih 82 0 0 0 (x1 : Int32) (x2 : Int32) (x3 : Int32) (x4 : Int32) (x5 : Int32) (x6 : Int32) (x7 : Int32) ((x8 + (1 : Int32)) : Int32) (wX12_sums b0 h) _ _ E hs22).2.2.2.2.1 rfl)
noncomputable def qX12_seats (b0 : Nat) (x1 : Int32) (h : ea_H) : Option (Int32 × ea_H) := gX12_seats b0 1000000000 0 0 0 0 x1 0 0 0 0 0 0 0 h
def okX12_seats (b0 : Nat) (x1 : Int32) (h : ea_H) : Prop := ∃ x, qX12_seats b0 x1 h = some x
noncomputable def vX12_seats (b0 : Nat) (x1 : Int32) (h : ea_H) : Int32 := ((qX12_seats b0 x1 h).getD (0, h)).1
noncomputable def wX12_seats (b0 : Nat) (x1 : Int32) (h : ea_H) : ea_H := ((qX12_seats b0 x1 h).getD (0, h)).2
theorem sX12_seats {d : Nat} {b0 : Nat} {x1 : Int32} {h : ea_H} (hd : 9 ≤ d) (hs : ShM b0 h) (K : okX12_seats b0 x1 h) : ea_Met mX12_seats d [vR (some (b0 + 0)), vI x1] h (some (vI (vX12_seats b0 x1 h))) (wX12_seats b0 x1 h) := by
  obtain ⟨⟨x, y⟩, K⟩ := K
  unfold wX12_seats vX12_seats
  rw [K]
  unfold qX12_seats at K
  exact ea_enter rfl (Nat.le_of_ble_eq_true rfl) ((tX12_seats hd 1000000000 0 0 0 0 x1 0 0 0 0 0 0 0 h x y K hs).1 rfl)
theorem zX12_seats {b0 : Nat} : ∀ (f lbl : Nat) (sx0 : Int32) (sx1 : Int32) (sx2 : Int32) (x1 : Int32) (x2 : Int32) (x3 : Int32) (x4 : Int32) (x5 : Int32) (x6 : Int32) (x7 : Int32) (x8 : Int32) (h : ea_H) (r : Int32) (h' : ea_H), gX12_seats b0 f lbl sx0 sx1 sx2 x1 x2 x3 x4 x5 x6 x7 x8 h = some (r, h') → ShM b0 h → ShM b0 h' := by
  intro f
  induction f with
  | zero => intro lbl sx0 sx1 sx2 x1 x2 x3 x4 x5 x6 x7 x8 h r h' E; cases E
  | succ f ih =>
    intro lbl sx0 sx1 sx2 x1 x2 x3 x4 x5 x6 x7 x8 h r h' E hs
    unfold gX12_seats at E
    by_cases el0 : lbl = 0
    · have E := (if_pos el0).symm.trans E
      by_cases c4 : (ea_i h (b0 + 0) 2) = (0 : Int32)
      · have E := (if_pos c4).symm.trans E
        exact ea_shO E hs
      have E := (if_neg c4).symm.trans E
      by_cases c3 : (ea_i h (b0 + 0) 92) = (0 : Int32)
      · have E := (if_pos c3).symm.trans E
        exact ea_shO E hs
      have E := (if_neg c3).symm.trans E
      by_cases c2 : x1 = (0 : Int32)
      · have E := (if_pos c2).symm.trans E
        exact ih 44 0 0 0 (x1 : Int32) 0 0 0 0 0 0 0 h _ _ E hs
      have E := (if_neg c2).symm.trans E
      by_cases c1 : (ea_i h (b0 + 0) 92) ≤ (1 : Int32)
      · have E := (if_pos c1).symm.trans E
        exact ih 36 (10 : Int32) (10 : Int32) (x1 : Int32) (x1 : Int32) 0 0 0 0 0 0 0 h _ _ E hs
      have E := (if_neg c1).symm.trans E
      exact ih 36 (11 : Int32) (10 : Int32) (x1 : Int32) (x1 : Int32) 0 0 0 0 0 0 0 h _ _ E hs
    have E := (if_neg el0).symm.trans E
    by_cases el1 : lbl = 36
    · have E := (if_pos el1).symm.trans E
      by_cases c6 : (vX12_isIn (sx2 : Int32) (sx1 : Int32) (sx0 : Int32) h) = (0 : Int32)
      · have E := (if_pos c6).symm.trans E
        exact ea_shO E hs
      have E := (if_neg c6).symm.trans E
      exact ih 44 0 0 0 (x1 : Int32) 0 0 0 0 0 0 0 h _ _ E hs
    have E := (if_neg el1).symm.trans E
    by_cases el2 : lbl = 44
    · have E := (if_pos el2).symm.trans E
      exact ih 70 0 0 0 (x1 : Int32) ((ea_i h (b0 + 68) 0) : Int32) ((ea_i h (b0 + 68) 1) : Int32) ((-1) : Int32) (0 : Int32) (0 : Int32) (0 : Int32) 0 h _ _ E hs
    have E := (if_neg el2).symm.trans E
    by_cases el3 : lbl = 70
    · have E := (if_pos el3).symm.trans E
      by_cases c13 : (ea_i h (b0 + 0) 2) ≤ x7
      · have E := (if_pos c13).symm.trans E
        obtain ⟨z7, E⟩ := gd_some E
        obtain ⟨z9, E⟩ := gd_some E
        by_cases c12 : x1 = (0 : Int32)
        · have E := (if_pos c12).symm.trans E
          exact ea_shO E (ShM_wi (ShM_wi hs))
        have E := (if_neg c12).symm.trans E
        by_cases c11 : x1 = (10 : Int32)
        · have E := (if_pos c11).symm.trans E
          exact ea_shO E (ShM_wi (ShM_wi hs))
        have E := (if_neg c11).symm.trans E
        exact ea_shO E (ShM_wi (ShM_wi hs))
      have E := (if_neg c13).symm.trans E
      exact ih 82 0 0 0 (x1 : Int32) (x2 : Int32) (x3 : Int32) (x4 : Int32) (x5 : Int32) (x6 : Int32) (x7 : Int32) (0 : Int32) h _ _ E hs
    have E := (if_neg el3).symm.trans E
    by_cases el4 : lbl = 82
    · have E := (if_pos el4).symm.trans E
      by_cases c14 : (ea_i h (b0 + 0) 92) ≤ (1 : Int32)
      · have E := (if_pos c14).symm.trans E
        exact ih 100 (1 : Int32) (x8 : Int32) 0 (x1 : Int32) (x2 : Int32) (x3 : Int32) (x4 : Int32) (x5 : Int32) (x6 : Int32) (x7 : Int32) (x8 : Int32) h _ _ E hs
      have E := (if_neg c14).symm.trans E
      exact ih 100 ((ea_i h (b0 + 0) 2) : Int32) (x8 : Int32) 0 (x1 : Int32) (x2 : Int32) (x3 : Int32) (x4 : Int32) (x5 : Int32) (x6 : Int32) (x7 : Int32) (x8 : Int32) h _ _ E hs
    have E := (if_neg el4).symm.trans E
    by_cases el5 : lbl = 100
    · have E := (if_pos el5).symm.trans E
      by_cases c20 : sx0 ≤ sx1
      · have E := (if_pos c20).symm.trans E
        exact ih 70 0 0 0 (x1 : Int32) (x2 : Int32) (x3 : Int32) (x4 : Int32) (x5 : Int32) (x6 : Int32) ((x7 + (1 : Int32)) : Int32) 0 h _ _ E hs
      have E := (if_neg c20).symm.trans E
      obtain ⟨z15, E⟩ := gd_some E
      by_cases c19 : (ea_i (ea_wi h (b0 + 68) (Int32.toNatClampNeg 0) x7) (b0 + 0) 92) ≤ (1 : Int32)
      · have E := (if_pos c19).symm.trans E
        exact ih 127 0 0 0 (x1 : Int32) (x2 : Int32) (x3 : Int32) (x4 : Int32) (x5 : Int32) (x6 : Int32) (x7 : Int32) (x8 : Int32) (ea_wi h (b0 + 68) (Int32.toNatClampNeg 0) x7) _ _ E (ShM_wi hs)
      have E := (if_neg c19).symm.trans E
      obtain ⟨z17, E⟩ := gd_some E
      exact ih 127 0 0 0 (x1 : Int32) (x2 : Int32) (x3 : Int32) (x4 : Int32) (x5 : Int32) (x6 : Int32) (x7 : Int32) (x8 : Int32) (ea_wi (ea_wi h (b0 + 68) (Int32.toNatClampNeg 0) x7) (b0 + 68) (Int32.toNatClampNeg 1) x8) _ _ E (ShM_wi (ShM_wi hs))
    have E := (if_neg el5).symm.trans E
    by_cases el6 : lbl = 127
    · have E := (if_pos el6).symm.trans E
      obtain ⟨z21, E⟩ := gd_some E
      by_cases c24 : x4 = ((-1) : Int32)
      · have E := (if_pos c24).symm.trans E
        exact ih 82 0 0 0 (x1 : Int32) (x2 : Int32) (x3 : Int32) ((vX12_sums b0 h) : Int32) (x7 : Int32) (x8 : Int32) (x7 : Int32) ((x8 + (1 : Int32)) : Int32) (wX12_sums b0 h) _ _ E (shX12_sums hs)
      have E := (if_neg c24).symm.trans E
      by_cases c23 : (vX12_sums b0 h) < x4
      · have E := (if_pos c23).symm.trans E
        exact ih 82 0 0 0 (x1 : Int32) (x2 : Int32) (x3 : Int32) ((vX12_sums b0 h) : Int32) (x7 : Int32) (x8 : Int32) (x7 : Int32) ((x8 + (1 : Int32)) : Int32) (wX12_sums b0 h) _ _ E (shX12_sums hs)
      have E := (if_neg c23).symm.trans E
      exact ih 82 0 0 0 (x1 : Int32) (x2 : Int32) (x3 : Int32) (x4 : Int32) (x5 : Int32) (x6 : Int32) (x7 : Int32) ((x8 + (1 : Int32)) : Int32) (wX12_sums b0 h) _ _ E (shX12_sums hs)
    have E := (if_neg el6).symm.trans E
    cases E
theorem shX12_seats {b0 : Nat} {x1 : Int32} {h : ea_H} (hs : ShM b0 h) : ShM b0 (wX12_seats b0 x1 h) := by
  unfold wX12_seats
  cases K : qX12_seats b0 x1 h with
  | none => exact hs
  | some x => obtain ⟨x, y⟩ := x; unfold qX12_seats at K; exact zX12_seats _ _ _ _ _ _ _ _ _ _ _ _ _ _ _ _ K hs
