/-! the class, 2 -/
noncomputable def BX9_add_0 (J48 : Int32 → Int32 → Int32 → Int32 → Int32 → Int32 → ea_H → Option (Int32 × ea_H)) (x1 : Int32) (x2 : Int32) (x3 : Int32) (x4 : Int32) (x5 : Int32) (h : ea_H) : Option (Int32 × ea_H) :=
  (gd (vp_in x1 10) (ea_let (ea_i h 6 (Int32.toNatClampNeg x1)) fun (v2 : Int32) => (if (8 : Int32) ≤ v2 then (some (((-1) : Int32), h)) else (if x3 < (0 : Int32) then (some (((-1) : Int32), h)) else (if x4 < x3 then (some (((-1) : Int32), h)) else (if x4 ≤ (2400 : Int32) then (if x5 = (0 : Int32) then (J48 (x1 : Int32) (x2 : Int32) (x3 : Int32) (x4 : Int32) (x5 : Int32) (v2 : Int32) h) else (if x3 = x4 then (J48 (x1 : Int32) (x2 : Int32) (x3 : Int32) (x4 : Int32) (x5 : Int32) (v2 : Int32) h) else (some (((-1) : Int32), h)))) else (some (((-1) : Int32), h))))))))
theorem tBX9_add_0 {d : Nat} {h0 : ea_H} (hd : 1 ≤ d) {J48 : Int32 → Int32 → Int32 → Int32 → Int32 → Int32 → ea_H → Option (Int32 × ea_H)}  (kJ48 : ∀ (x1 : Int32) (x2 : Int32) (x3 : Int32) (x4 : Int32) (x5 : Int32) (x6 : Int32) (h : ea_H) (r : Int32) (h' : ea_H), J48 x1 x2 x3 x4 x5 x6 h = some (r, h') → ShC h → ea_W mX9_add d h0 (some (vI r)) h' 48 [(0, vR (some 5)), (1, vI x1), (2, vI x2), (3, vI x3), (4, vI x4), (5, vI x5), (6, vI x6)] [] h) {x1 : Int32} {x2 : Int32} {x3 : Int32} {x4 : Int32} {x5 : Int32} {h : ea_H} {r : Int32} {h' : ea_H} (E : BX9_add_0 J48 x1 x2 x3 x4 x5 h = some (r, h')) (hs : ShC h) : ea_W mX9_add d h0 (some (vI r)) h' 0 [(0, vR (some 5)), (1, vI x1), (2, vI x2), (3, vI x3), (4, vI x4), (5, vI x5)] [] h := by
  unfold BX9_add_0 at E
  obtain ⟨z1, E⟩ := gd_some E
  refine ea_aload_n (pc := 0) dX9_add_0 rfl 0 rfl ?_
  refine ea_getR (pc := 1) dX9_add_1 ec_9 (k := 1) (Nat.le_of_ble_eq_true rfl) rfl (Or.inl ew_187) (cShC_5 hs).1 (cShC_5 hs).2.1 (rShC_5_1 hs) ?_
  refine ea_iload_n (pc := 4) dX9_add_4 rfl 1 rfl ?_
  obtain ⟨v2, ev2, E⟩ := let_some E
  refine ea_iald (pc := 5) dX9_add_5 (cShC_6 hs).1 (cShC_6 hs).2.1 (ea_vpl (cShC_6 hs).2.2 z1) ?_
  refine ea_istore (pc := 6) (lv' := [(0, vR (some 5)), (1, vI x1), (2, vI x2), (3, vI x3), (4, vI x4), (5, vI x5), (6, vI v2)]) dX9_add_6 (Nat.le_of_ble_eq_true rfl) [1, 2, 3, 4, 5, 6, 0] (by rw [ev2]; rfl) ?_
  refine ea_iload (pc := 8) dX9_add_8 6 rfl ?_
  refine ea_bipush (pc := 10) dX9_add_10 (v := 8) rfl ?_
  refine ea_icmp_ge (pc := 12) (tgt := 33) dX9_add_12 rfl (fun c8 => ?_) (fun c8 => ?_)
  · have E := (if_pos c8).symm.trans E
    refine ea_iconst (pc := 33) dX9_add_33 (v := (-1)) rfl ?_
    exact ea_iretO (pc := 34) dX9_add_34 rfl rfl E
  · have E := (if_neg c8).symm.trans E
    refine ea_iload_n (pc := 15) dX9_add_15 rfl 3 rfl ?_
    refine ea_if_lt (pc := 16) (tgt := 33) dX9_add_16 rfl (fun c7 => ?_) (fun c7 => ?_)
    · have E := (if_pos c7).symm.trans E
      refine ea_iconst (pc := 33) dX9_add_33 (v := (-1)) rfl ?_
      exact ea_iretO (pc := 34) dX9_add_34 rfl rfl E
    · have E := (if_neg c7).symm.trans E
      refine ea_iload (pc := 19) dX9_add_19 4 rfl ?_
      refine ea_iload_n (pc := 21) dX9_add_21 rfl 3 rfl ?_
      refine ea_icmp_lt (pc := 22) (tgt := 33) dX9_add_22 rfl (fun c6 => ?_) (fun c6 => ?_)
      · have E := (if_pos c6).symm.trans E
        refine ea_iconst (pc := 33) dX9_add_33 (v := (-1)) rfl ?_
        exact ea_iretO (pc := 34) dX9_add_34 rfl rfl E
      · have E := (if_neg c6).symm.trans E
        refine ea_iload (pc := 25) dX9_add_25 4 rfl ?_
        refine ea_sipush (pc := 27) dX9_add_27 (v := 2400) rfl ?_
        refine ea_icmp_le (pc := 30) (tgt := 35) dX9_add_30 rfl (fun c5 => ?_) (fun c5 => ?_)
        · have E := (if_pos c5).symm.trans E
          refine ea_iload (pc := 35) dX9_add_35 5 rfl ?_
          refine ea_if_eq (pc := 37) (tgt := 48) dX9_add_37 rfl (fun c4 => ?_) (fun c4 => ?_)
          · have E := (if_pos c4).symm.trans E
            exact (kJ48 (x1 : Int32) (x2 : Int32) (x3 : Int32) (x4 : Int32) (x5 : Int32) (v2 : Int32) h _ _ E hs)
          · have E := (if_neg c4).symm.trans E
            refine ea_iload_n (pc := 40) dX9_add_40 rfl 3 rfl ?_
            refine ea_iload (pc := 41) dX9_add_41 4 rfl ?_
            refine ea_icmp_eq (pc := 43) (tgt := 48) dX9_add_43 rfl (fun c3 => ?_) (fun c3 => ?_)
            · have E := (if_pos c3).symm.trans E
              exact (kJ48 (x1 : Int32) (x2 : Int32) (x3 : Int32) (x4 : Int32) (x5 : Int32) (v2 : Int32) h _ _ E hs)
            · have E := (if_neg c3).symm.trans E
              refine ea_iconst (pc := 46) dX9_add_46 (v := (-1)) rfl ?_
              exact ea_iretO (pc := 47) dX9_add_47 rfl rfl E
        · have E := (if_neg c5).symm.trans E
          refine ea_iconst (pc := 33) dX9_add_33 (v := (-1)) rfl ?_
          exact ea_iretO (pc := 34) dX9_add_34 rfl rfl E
theorem kBX9_add_0 {J48 : Int32 → Int32 → Int32 → Int32 → Int32 → Int32 → ea_H → Option (Int32 × ea_H)}  (cJ48 : ∀ (x1 : Int32) (x2 : Int32) (x3 : Int32) (x4 : Int32) (x5 : Int32) (x6 : Int32) (h : ea_H), kp (ea_core h) (J48 x1 x2 x3 x4 x5 x6 h)) {x1 : Int32} {x2 : Int32} {x3 : Int32} {x4 : Int32} {x5 : Int32} {h : ea_H} : kp (ea_core h) (BX9_add_0 J48 x1 x2 x3 x4 x5 h) :=
  (kp_gd (kp_let (kp_ite (kp_ret rfl) (kp_ite (kp_ret rfl) (kp_ite (kp_ret rfl) (kp_ite (kp_ite (kp_tw (cJ48 _ _ _ _ _ _ _) rfl) (kp_ite (kp_tw (cJ48 _ _ _ _ _ _ _) rfl) (kp_ret rfl))) (kp_ret rfl)))))))
theorem lBX9_add_0 {J48 : Int32 → Int32 → Int32 → Int32 → Int32 → Int32 → ea_H → Option (Int32 × ea_H)} {J48_ : Int32 → Int32 → Int32 → Int32 → Int32 → Int32 → ea_H → Option (Int32 × ea_H)}  (mJ48 : ∀ (x1 : Int32) (x2 : Int32) (x3 : Int32) (x4 : Int32) (x5 : Int32) (x6 : Int32) (h : ea_H), fle (J48 x1 x2 x3 x4 x5 x6 h) (J48_ x1 x2 x3 x4 x5 x6 h)) {x1 : Int32} {x2 : Int32} {x3 : Int32} {x4 : Int32} {x5 : Int32} {h : ea_H} : fle (BX9_add_0 J48 x1 x2 x3 x4 x5 h) (BX9_add_0 J48_ x1 x2 x3 x4 x5 h) :=
  (fle_gd (fle_let fun _ => (fle_ite (fle_rfl _) (fle_ite (fle_rfl _) (fle_ite (fle_rfl _) (fle_ite (fle_ite (mJ48 _ _ _ _ _ _ _) (fle_ite (mJ48 _ _ _ _ _ _ _) (fle_rfl _))) (fle_rfl _)))))))
theorem nBX9_add_0 {J48 : Int32 → Int32 → Int32 → Int32 → Int32 → Int32 → ea_H → Option (Int32 × ea_H)} {J48_ : Nat → (Int32 → Int32 → Int32 → Int32 → Int32 → Int32 → ea_H → Option (Int32 × ea_H))}  (mJ48 : ∀ (x1 : Int32) (x2 : Int32) (x3 : Int32) (x4 : Int32) (x5 : Int32) (x6 : Int32) (h : ea_H), fct (J48 x1 x2 x3 x4 x5 x6 h) (fun f => J48_ f x1 x2 x3 x4 x5 x6 h)) {x1 : Int32} {x2 : Int32} {x3 : Int32} {x4 : Int32} {x5 : Int32} {h : ea_H} : fct (BX9_add_0 J48 x1 x2 x3 x4 x5 h) (fun f => BX9_add_0 (J48_ f) x1 x2 x3 x4 x5 h) :=
  (fct_gd (fct_let fun _ => (fct_ite (fct_rfl _) (fct_ite (fct_rfl _) (fct_ite (fct_rfl _) (fct_ite (fct_ite (mJ48 _ _ _ _ _ _ _) (fct_ite (mJ48 _ _ _ _ _ _ _) (fct_rfl _))) (fct_rfl _)))))))
noncomputable def BX9_add_48 (J90 : Int32 → Int32 → Int32 → Int32 → Int32 → Int32 → Int32 → ea_H → Option (Int32 × ea_H)) (x1 : Int32) (x2 : Int32) (x3 : Int32) (x4 : Int32) (x5 : Int32) (x6 : Int32) (h : ea_H) : Option (Int32 × ea_H) :=
  (ea_let (((8 : Int32) * x1) + x6) fun (v9 : Int32) => (if x6 ≤ (0 : Int32) then (J90 (x1 : Int32) (x2 : Int32) (x3 : Int32) (x4 : Int32) (x5 : Int32) (x6 : Int32) (v9 : Int32) h) else (gd (vp_in (v9 - (1 : Int32)) 80) (if (ea_i h 7 (Int32.toNatClampNeg (v9 - (1 : Int32)))) = x2 then (some (((-1) : Int32), h)) else (gd (vp_in (v9 - (1 : Int32)) 80) (if (ea_i h 9 (Int32.toNatClampNeg (v9 - (1 : Int32)))) < x3 then (J90 (x1 : Int32) (x2 : Int32) (x3 : Int32) (x4 : Int32) (x5 : Int32) (x6 : Int32) (v9 : Int32) h) else (some (((-1) : Int32), h))))))))
theorem tBX9_add_48 {d : Nat} {h0 : ea_H} (hd : 1 ≤ d) {J90 : Int32 → Int32 → Int32 → Int32 → Int32 → Int32 → Int32 → ea_H → Option (Int32 × ea_H)}  (kJ90 : ∀ (x1 : Int32) (x2 : Int32) (x3 : Int32) (x4 : Int32) (x5 : Int32) (x6 : Int32) (x7 : Int32) (h : ea_H) (r : Int32) (h' : ea_H), J90 x1 x2 x3 x4 x5 x6 x7 h = some (r, h') → ShC h → ea_W mX9_add d h0 (some (vI r)) h' 90 [(0, vR (some 5)), (1, vI x1), (2, vI x2), (3, vI x3), (4, vI x4), (5, vI x5), (6, vI x6), (7, vI x7)] [] h) {x1 : Int32} {x2 : Int32} {x3 : Int32} {x4 : Int32} {x5 : Int32} {x6 : Int32} {h : ea_H} {r : Int32} {h' : ea_H} (E : BX9_add_48 J90 x1 x2 x3 x4 x5 x6 h = some (r, h')) (hs : ShC h) : ea_W mX9_add d h0 (some (vI r)) h' 48 [(0, vR (some 5)), (1, vI x1), (2, vI x2), (3, vI x3), (4, vI x4), (5, vI x5), (6, vI x6)] [] h := by
  unfold BX9_add_48 at E
  obtain ⟨v9, ev9, E⟩ := let_some E
  refine ea_bipush (pc := 48) dX9_add_48 (v := 8) rfl ?_
  refine ea_iload_n (pc := 50) dX9_add_50 rfl 1 rfl ?_
  refine ea_imul (pc := 51) dX9_add_51 ?_
  refine ea_iload (pc := 52) dX9_add_52 6 rfl ?_
  refine ea_iadd (pc := 54) dX9_add_54 ?_
  refine ea_istore (pc := 55) (lv' := [(0, vR (some 5)), (1, vI x1), (2, vI x2), (3, vI x3), (4, vI x4), (5, vI x5), (6, vI x6), (7, vI v9)]) dX9_add_55 (Nat.le_of_ble_eq_true rfl) [1, 2, 3, 4, 5, 6, 7, 0] (by rw [ev9]; rfl) ?_
  refine ea_iload (pc := 57) dX9_add_57 6 rfl ?_
  refine ea_if_le (pc := 59) (tgt := 90) dX9_add_59 rfl (fun c14 => ?_) (fun c14 => ?_)
  · have E := (if_pos c14).symm.trans E
    exact (kJ90 (x1 : Int32) (x2 : Int32) (x3 : Int32) (x4 : Int32) (x5 : Int32) (x6 : Int32) (v9 : Int32) h _ _ E hs)
  · have E := (if_neg c14).symm.trans E
    obtain ⟨z10, E⟩ := gd_some E
    refine ea_aload_n (pc := 62) dX9_add_62 rfl 0 rfl ?_
    refine ea_getR (pc := 63) dX9_add_63 ec_9 (k := 2) (Nat.le_of_ble_eq_true rfl) rfl (Or.inl ew_191) (cShC_5 hs).1 (cShC_5 hs).2.1 (rShC_5_2 hs) ?_
    refine ea_iload (pc := 66) dX9_add_66 7 rfl ?_
    refine ea_iconst (pc := 68) dX9_add_68 (v := 1) rfl ?_
    refine ea_isub (pc := 69) dX9_add_69 ?_
    refine ea_iald (pc := 70) dX9_add_70 (cShC_7 hs).1 (cShC_7 hs).2.1 (ea_vpl (cShC_7 hs).2.2 z10) ?_
    refine ea_iload_n (pc := 71) dX9_add_71 rfl 2 rfl ?_
    refine ea_icmp_eq (pc := 72) (tgt := 88) dX9_add_72 rfl (fun c13 => ?_) (fun c13 => ?_)
    · have E := (if_pos c13).symm.trans E
      refine ea_iconst (pc := 88) dX9_add_88 (v := (-1)) rfl ?_
      exact ea_iretO (pc := 89) dX9_add_89 rfl rfl E
    · have E := (if_neg c13).symm.trans E
      obtain ⟨z11, E⟩ := gd_some E
      refine ea_iload_n (pc := 75) dX9_add_75 rfl 3 rfl ?_
      refine ea_aload_n (pc := 76) dX9_add_76 rfl 0 rfl ?_
      refine ea_getR (pc := 77) dX9_add_77 ec_9 (k := 4) (Nat.le_of_ble_eq_true rfl) rfl (Or.inl ew_199) (cShC_5 hs).1 (cShC_5 hs).2.1 (rShC_5_4 hs) ?_
      refine ea_iload (pc := 80) dX9_add_80 7 rfl ?_
      refine ea_iconst (pc := 82) dX9_add_82 (v := 1) rfl ?_
      refine ea_isub (pc := 83) dX9_add_83 ?_
      refine ea_iald (pc := 84) dX9_add_84 (cShC_9 hs).1 (cShC_9 hs).2.1 (ea_vpl (cShC_9 hs).2.2 z11) ?_
      refine ea_icmp_gt (pc := 85) (tgt := 90) dX9_add_85 rfl (fun c12 => ?_) (fun c12 => ?_)
      · have E := (if_pos c12).symm.trans E
        exact (kJ90 (x1 : Int32) (x2 : Int32) (x3 : Int32) (x4 : Int32) (x5 : Int32) (x6 : Int32) (v9 : Int32) h _ _ E hs)
      · have E := (if_neg c12).symm.trans E
        refine ea_iconst (pc := 88) dX9_add_88 (v := (-1)) rfl ?_
        exact ea_iretO (pc := 89) dX9_add_89 rfl rfl E
theorem kBX9_add_48 {J90 : Int32 → Int32 → Int32 → Int32 → Int32 → Int32 → Int32 → ea_H → Option (Int32 × ea_H)}  (cJ90 : ∀ (x1 : Int32) (x2 : Int32) (x3 : Int32) (x4 : Int32) (x5 : Int32) (x6 : Int32) (x7 : Int32) (h : ea_H), kp (ea_core h) (J90 x1 x2 x3 x4 x5 x6 x7 h)) {x1 : Int32} {x2 : Int32} {x3 : Int32} {x4 : Int32} {x5 : Int32} {x6 : Int32} {h : ea_H} : kp (ea_core h) (BX9_add_48 J90 x1 x2 x3 x4 x5 x6 h) :=
  (kp_let (kp_ite (kp_tw (cJ90 _ _ _ _ _ _ _ _) rfl) (kp_gd (kp_ite (kp_ret rfl) (kp_gd (kp_ite (kp_tw (cJ90 _ _ _ _ _ _ _ _) rfl) (kp_ret rfl)))))))
theorem lBX9_add_48 {J90 : Int32 → Int32 → Int32 → Int32 → Int32 → Int32 → Int32 → ea_H → Option (Int32 × ea_H)} {J90_ : Int32 → Int32 → Int32 → Int32 → Int32 → Int32 → Int32 → ea_H → Option (Int32 × ea_H)}  (mJ90 : ∀ (x1 : Int32) (x2 : Int32) (x3 : Int32) (x4 : Int32) (x5 : Int32) (x6 : Int32) (x7 : Int32) (h : ea_H), fle (J90 x1 x2 x3 x4 x5 x6 x7 h) (J90_ x1 x2 x3 x4 x5 x6 x7 h)) {x1 : Int32} {x2 : Int32} {x3 : Int32} {x4 : Int32} {x5 : Int32} {x6 : Int32} {h : ea_H} : fle (BX9_add_48 J90 x1 x2 x3 x4 x5 x6 h) (BX9_add_48 J90_ x1 x2 x3 x4 x5 x6 h) :=
  (fle_let fun _ => (fle_ite (mJ90 _ _ _ _ _ _ _ _) (fle_gd (fle_ite (fle_rfl _) (fle_gd (fle_ite (mJ90 _ _ _ _ _ _ _ _) (fle_rfl _)))))))
theorem nBX9_add_48 {J90 : Int32 → Int32 → Int32 → Int32 → Int32 → Int32 → Int32 → ea_H → Option (Int32 × ea_H)} {J90_ : Nat → (Int32 → Int32 → Int32 → Int32 → Int32 → Int32 → Int32 → ea_H → Option (Int32 × ea_H))}  (mJ90 : ∀ (x1 : Int32) (x2 : Int32) (x3 : Int32) (x4 : Int32) (x5 : Int32) (x6 : Int32) (x7 : Int32) (h : ea_H), fct (J90 x1 x2 x3 x4 x5 x6 x7 h) (fun f => J90_ f x1 x2 x3 x4 x5 x6 x7 h)) {x1 : Int32} {x2 : Int32} {x3 : Int32} {x4 : Int32} {x5 : Int32} {x6 : Int32} {h : ea_H} : fct (BX9_add_48 J90 x1 x2 x3 x4 x5 x6 h) (fun f => BX9_add_48 (J90_ f) x1 x2 x3 x4 x5 x6 h) :=
  (fct_let fun _ => (fct_ite (mJ90 _ _ _ _ _ _ _ _) (fct_gd (fct_ite (fct_rfl _) (fct_gd (fct_ite (mJ90 _ _ _ _ _ _ _ _) (fct_rfl _)))))))
noncomputable def BX9_add_90 (x1 : Int32) (x2 : Int32) (x3 : Int32) (x4 : Int32) (x5 : Int32) (x6 : Int32) (x7 : Int32) (h : ea_H) : Option (Int32 × ea_H) :=
  (gd (vp_in x7 80) (ea_let (ea_wi h 7 (Int32.toNatClampNeg x7) x2) fun H16 => (gd (vp_in x7 80) (ea_let (ea_wi H16 8 (Int32.toNatClampNeg x7) x3) fun H18 => (gd (vp_in x7 80) (ea_let (ea_wi H18 9 (Int32.toNatClampNeg x7) x4) fun H20 => (gd (vp_in x7 80) (gd ((x5 = 0 ∨ x5 = 1)) (ea_let (ea_wi H20 10 (Int32.toNatClampNeg x7) x5) fun H23 => (gd (vp_in x1 10) (gd (vp_in x1 10) (ea_let (ea_wi H23 6 (Int32.toNatClampNeg x1) ((ea_i H23 6 (Int32.toNatClampNeg x1)) + (1 : Int32))) fun H26 => (some (x6, H26))))))))))))))
theorem tBX9_add_90 {d : Nat} {h0 : ea_H} (hd : 1 ≤ d)  {x1 : Int32} {x2 : Int32} {x3 : Int32} {x4 : Int32} {x5 : Int32} {x6 : Int32} {x7 : Int32} {h : ea_H} {r : Int32} {h' : ea_H} (E : BX9_add_90 x1 x2 x3 x4 x5 x6 x7 h = some (r, h')) (hs : ShC h) : ea_W mX9_add d h0 (some (vI r)) h' 90 [(0, vR (some 5)), (1, vI x1), (2, vI x2), (3, vI x3), (4, vI x4), (5, vI x5), (6, vI x6), (7, vI x7)] [] h := by
  unfold BX9_add_90 at E
  obtain ⟨z15, E⟩ := gd_some E
  refine ea_aload_n (pc := 90) dX9_add_90 rfl 0 rfl ?_
  refine ea_getR (pc := 91) dX9_add_91 ec_9 (k := 2) (Nat.le_of_ble_eq_true rfl) rfl (Or.inl ew_191) (cShC_5 hs).1 (cShC_5 hs).2.1 (rShC_5_2 hs) ?_
  refine ea_iload (pc := 94) dX9_add_94 7 rfl ?_
  refine ea_iload_n (pc := 96) dX9_add_96 rfl 2 rfl ?_
  obtain ⟨H16, eH16, E⟩ := let_some E
  refine ea_iast (pc := 97) dX9_add_97 (cShC_7 hs).1 (cShC_7 hs).2.1 (ea_vpl (cShC_7 hs).2.2 z15) ?_
  refine ea_nm eH16 ?_
  have hsH16 : ShC H16 := by rw [eH16]; exact hs
  obtain ⟨z17, E⟩ := gd_some E
  refine ea_aload_n (pc := 98) dX9_add_98 rfl 0 rfl ?_
  refine ea_getR (pc := 99) dX9_add_99 ec_9 (k := 3) (Nat.le_of_ble_eq_true rfl) rfl (Or.inl ew_196) (cShC_5 hsH16).1 (cShC_5 hsH16).2.1 (rShC_5_3 hsH16) ?_
  refine ea_iload (pc := 102) dX9_add_102 7 rfl ?_
  refine ea_iload_n (pc := 104) dX9_add_104 rfl 3 rfl ?_
  obtain ⟨H18, eH18, E⟩ := let_some E
  refine ea_iast (pc := 105) dX9_add_105 (cShC_8 hsH16).1 (cShC_8 hsH16).2.1 (ea_vpl (cShC_8 hsH16).2.2 z17) ?_
  refine ea_nm eH18 ?_
  have hsH18 : ShC H18 := by rw [eH18]; exact hsH16
  obtain ⟨z19, E⟩ := gd_some E
  refine ea_aload_n (pc := 106) dX9_add_106 rfl 0 rfl ?_
  refine ea_getR (pc := 107) dX9_add_107 ec_9 (k := 4) (Nat.le_of_ble_eq_true rfl) rfl (Or.inl ew_199) (cShC_5 hsH18).1 (cShC_5 hsH18).2.1 (rShC_5_4 hsH18) ?_
  refine ea_iload (pc := 110) dX9_add_110 7 rfl ?_
  refine ea_iload (pc := 112) dX9_add_112 4 rfl ?_
  obtain ⟨H20, eH20, E⟩ := let_some E
  refine ea_iast (pc := 114) dX9_add_114 (cShC_9 hsH18).1 (cShC_9 hsH18).2.1 (ea_vpl (cShC_9 hsH18).2.2 z19) ?_
  refine ea_nm eH20 ?_
  have hsH20 : ShC H20 := by rw [eH20]; exact hsH18
  obtain ⟨z21, E⟩ := gd_some E
  refine ea_aload_n (pc := 115) dX9_add_115 rfl 0 rfl ?_
  refine ea_getR (pc := 116) dX9_add_116 ec_9 (k := 5) (Nat.le_of_ble_eq_true rfl) rfl (Or.inl ew_202) (cShC_5 hsH20).1 (cShC_5 hsH20).2.1 (rShC_5_5 hsH20) ?_
  refine ea_iload (pc := 119) dX9_add_119 7 rfl ?_
  refine ea_iload (pc := 121) dX9_add_121 5 rfl ?_
  obtain ⟨z22, E⟩ := gd_some E
  obtain ⟨H23, eH23, E⟩ := let_some E
  refine ea_zast (pc := 123) dX9_add_123 (y := x5) (ea_bn z22) (cShC_10 hsH20).1 (cShC_10 hsH20).2.1 (ea_vpl (cShC_10 hsH20).2.2 z21) ?_
  refine ea_nm eH23 ?_
  have hsH23 : ShC H23 := by rw [eH23]; exact hsH20
  obtain ⟨z24, E⟩ := gd_some E
  refine ea_aload_n (pc := 124) dX9_add_124 rfl 0 rfl ?_
  refine ea_getR (pc := 125) dX9_add_125 ec_9 (k := 1) (Nat.le_of_ble_eq_true rfl) rfl (Or.inl ew_187) (cShC_5 hsH23).1 (cShC_5 hsH23).2.1 (rShC_5_1 hsH23) ?_
  refine ea_iload_n (pc := 128) dX9_add_128 rfl 1 rfl ?_
  refine ea_dup2 (pc := 129) dX9_add_129 rfl rfl ?_
  obtain ⟨z25, E⟩ := gd_some E
  refine ea_iald (pc := 130) dX9_add_130 (cShC_6 hsH23).1 (cShC_6 hsH23).2.1 (ea_vpl (cShC_6 hsH23).2.2 z24) ?_
  refine ea_iconst (pc := 131) dX9_add_131 (v := 1) rfl ?_
  refine ea_iadd (pc := 132) dX9_add_132 ?_
  obtain ⟨H26, eH26, E⟩ := let_some E
  refine ea_iast (pc := 133) dX9_add_133 (cShC_6 hsH23).1 (cShC_6 hsH23).2.1 (ea_vpl (cShC_6 hsH23).2.2 z25) ?_
  refine ea_nm eH26 ?_
  have hsH26 : ShC H26 := by rw [eH26]; exact hsH23
  refine ea_iload (pc := 134) dX9_add_134 6 rfl ?_
  exact ea_iretO (pc := 136) dX9_add_136 rfl rfl E
theorem kBX9_add_90  {x1 : Int32} {x2 : Int32} {x3 : Int32} {x4 : Int32} {x5 : Int32} {x6 : Int32} {x7 : Int32} {h : ea_H} : kp (ea_core h) (BX9_add_90 x1 x2 x3 x4 x5 x6 x7 h) :=
  (kp_gd (kp_let (kp_gd (kp_let (kp_gd (kp_let (kp_gd (kp_gd (kp_let (kp_gd (kp_gd (kp_let (kp_ret rfl)))))))))))))
theorem lBX9_add_90  {x1 : Int32} {x2 : Int32} {x3 : Int32} {x4 : Int32} {x5 : Int32} {x6 : Int32} {x7 : Int32} {h : ea_H} : fle (BX9_add_90 x1 x2 x3 x4 x5 x6 x7 h) (BX9_add_90 x1 x2 x3 x4 x5 x6 x7 h) :=
  (fle_rfl _)
theorem nBX9_add_90  {x1 : Int32} {x2 : Int32} {x3 : Int32} {x4 : Int32} {x5 : Int32} {x6 : Int32} {x7 : Int32} {h : ea_H} : fct (BX9_add_90 x1 x2 x3 x4 x5 x6 x7 h) (fun f => BX9_add_90 x1 x2 x3 x4 x5 x6 x7 h) :=
  (fct_rfl _)
noncomputable def gX9_add : Nat → (Int32 → Int32 → Int32 → Int32 → Int32 → ea_H → Option (Int32 × ea_H)) × (Int32 → Int32 → Int32 → Int32 → Int32 → Int32 → ea_H → Option (Int32 × ea_H)) × (Int32 → Int32 → Int32 → Int32 → Int32 → Int32 → Int32 → ea_H → Option (Int32 × ea_H))
  | 0 => (fun _ _ _ _ _ _ => none, fun _ _ _ _ _ _ _ => none, fun _ _ _ _ _ _ _ _ => none)
  | f + 1 => (BX9_add_0 (gX9_add f).2.1, BX9_add_48 (gX9_add f).2.2, BX9_add_90)
theorem mgX9_add : ∀ f : Nat, (∀ (x1 : Int32) (x2 : Int32) (x3 : Int32) (x4 : Int32) (x5 : Int32) (h : ea_H), fle ((gX9_add f).1 x1 x2 x3 x4 x5 h) ((gX9_add (f + 1)).1 x1 x2 x3 x4 x5 h)) ∧ (∀ (x1 : Int32) (x2 : Int32) (x3 : Int32) (x4 : Int32) (x5 : Int32) (x6 : Int32) (h : ea_H), fle ((gX9_add f).2.1 x1 x2 x3 x4 x5 x6 h) ((gX9_add (f + 1)).2.1 x1 x2 x3 x4 x5 x6 h)) ∧ (∀ (x1 : Int32) (x2 : Int32) (x3 : Int32) (x4 : Int32) (x5 : Int32) (x6 : Int32) (x7 : Int32) (h : ea_H), fle ((gX9_add f).2.2 x1 x2 x3 x4 x5 x6 x7 h) ((gX9_add (f + 1)).2.2 x1 x2 x3 x4 x5 x6 x7 h)) := by
  intro f
  induction f with
  | zero => exact ⟨fun _ _ _ _ _ _ => fle_none _, fun _ _ _ _ _ _ _ => fle_none _, fun _ _ _ _ _ _ _ _ => fle_none _⟩
  | succ f ih => exact ⟨fun _ _ _ _ _ _ => lBX9_add_0 ih.2.1, fun _ _ _ _ _ _ _ => lBX9_add_48 ih.2.2, fun _ _ _ _ _ _ _ _ => lBX9_add_90⟩
noncomputable def qX9_add_0 (x1 : Int32) (x2 : Int32) (x3 : Int32) (x4 : Int32) (x5 : Int32) (h : ea_H) : Option (Int32 × ea_H) := flim fun f => (gX9_add f).1 x1 x2 x3 x4 x5 h
noncomputable def qX9_add_48 (x1 : Int32) (x2 : Int32) (x3 : Int32) (x4 : Int32) (x5 : Int32) (x6 : Int32) (h : ea_H) : Option (Int32 × ea_H) := flim fun f => (gX9_add f).2.1 x1 x2 x3 x4 x5 x6 h
noncomputable def qX9_add_90 (x1 : Int32) (x2 : Int32) (x3 : Int32) (x4 : Int32) (x5 : Int32) (x6 : Int32) (x7 : Int32) (h : ea_H) : Option (Int32 × ea_H) := flim fun f => (gX9_add f).2.2 x1 x2 x3 x4 x5 x6 x7 h
theorem fqX9_add_0 (x1 : Int32) (x2 : Int32) (x3 : Int32) (x4 : Int32) (x5 : Int32) (h : ea_H) : fct (qX9_add_0 x1 x2 x3 x4 x5 h) fun f => (gX9_add f).1 x1 x2 x3 x4 x5 h := flim_ct fun f => (mgX9_add f).1 x1 x2 x3 x4 x5 h
theorem fqX9_add_48 (x1 : Int32) (x2 : Int32) (x3 : Int32) (x4 : Int32) (x5 : Int32) (x6 : Int32) (h : ea_H) : fct (qX9_add_48 x1 x2 x3 x4 x5 x6 h) fun f => (gX9_add f).2.1 x1 x2 x3 x4 x5 x6 h := flim_ct fun f => (mgX9_add f).2.1 x1 x2 x3 x4 x5 x6 h
theorem fqX9_add_90 (x1 : Int32) (x2 : Int32) (x3 : Int32) (x4 : Int32) (x5 : Int32) (x6 : Int32) (x7 : Int32) (h : ea_H) : fct (qX9_add_90 x1 x2 x3 x4 x5 x6 x7 h) fun f => (gX9_add f).2.2 x1 x2 x3 x4 x5 x6 x7 h := flim_ct fun f => (mgX9_add f).2.2 x1 x2 x3 x4 x5 x6 x7 h
/-- how a block opens -/
theorem uqX9_add_0 {x1 : Int32} {x2 : Int32} {x3 : Int32} {x4 : Int32} {x5 : Int32} {h : ea_H} {P : Int32 × ea_H → Prop} (H : sat (BX9_add_0 qX9_add_48 x1 x2 x3 x4 x5 h) P) : sat (qX9_add_0 x1 x2 x3 x4 x5 h) P := by
  obtain ⟨x, e, hp⟩ := H
  obtain ⟨n, hn⟩ := nBX9_add_0 fqX9_add_48 x e
  exact ⟨x, flim_at (fun f => (mgX9_add f).1 x1 x2 x3 x4 x5 h) (f := n + 1) (hn n (Nat.le_refl _)), hp⟩
/-- how a block opens -/
theorem uqX9_add_48 {x1 : Int32} {x2 : Int32} {x3 : Int32} {x4 : Int32} {x5 : Int32} {x6 : Int32} {h : ea_H} {P : Int32 × ea_H → Prop} (H : sat (BX9_add_48 qX9_add_90 x1 x2 x3 x4 x5 x6 h) P) : sat (qX9_add_48 x1 x2 x3 x4 x5 x6 h) P := by
  obtain ⟨x, e, hp⟩ := H
  obtain ⟨n, hn⟩ := nBX9_add_48 fqX9_add_90 x e
  exact ⟨x, flim_at (fun f => (mgX9_add f).2.1 x1 x2 x3 x4 x5 x6 h) (f := n + 1) (hn n (Nat.le_refl _)), hp⟩
/-- how a block opens -/
theorem uqX9_add_90 {x1 : Int32} {x2 : Int32} {x3 : Int32} {x4 : Int32} {x5 : Int32} {x6 : Int32} {x7 : Int32} {h : ea_H} {P : Int32 × ea_H → Prop} (H : sat (BX9_add_90 x1 x2 x3 x4 x5 x6 x7 h) P) : sat (qX9_add_90 x1 x2 x3 x4 x5 x6 x7 h) P := by
  obtain ⟨x, e, hp⟩ := H
  obtain ⟨n, hn⟩ := nBX9_add_90 x e
  exact ⟨x, flim_at (fun f => (mgX9_add f).2.2 x1 x2 x3 x4 x5 x6 x7 h) (f := n + 1) (hn n (Nat.le_refl _)), hp⟩
theorem kgX9_add : ∀ f : Nat, (∀ (x1 : Int32) (x2 : Int32) (x3 : Int32) (x4 : Int32) (x5 : Int32) (h : ea_H), kp (ea_core h) ((gX9_add f).1 x1 x2 x3 x4 x5 h)) ∧ (∀ (x1 : Int32) (x2 : Int32) (x3 : Int32) (x4 : Int32) (x5 : Int32) (x6 : Int32) (h : ea_H), kp (ea_core h) ((gX9_add f).2.1 x1 x2 x3 x4 x5 x6 h)) ∧ (∀ (x1 : Int32) (x2 : Int32) (x3 : Int32) (x4 : Int32) (x5 : Int32) (x6 : Int32) (x7 : Int32) (h : ea_H), kp (ea_core h) ((gX9_add f).2.2 x1 x2 x3 x4 x5 x6 x7 h)) := by
  intro f
  induction f with
  | zero => exact ⟨fun _ _ _ _ _ _ => kp_none _, fun _ _ _ _ _ _ _ => kp_none _, fun _ _ _ _ _ _ _ _ => kp_none _⟩
  | succ f ih => exact ⟨fun _ _ _ _ _ _ => kBX9_add_0 ih.2.1, fun _ _ _ _ _ _ _ => kBX9_add_48 ih.2.2, fun _ _ _ _ _ _ _ _ => kBX9_add_90⟩
theorem tgX9_add {d : Nat} {h0 : ea_H} (hd : 1 ≤ d) : ∀ f : Nat, (∀ (x1 : Int32) (x2 : Int32) (x3 : Int32) (x4 : Int32) (x5 : Int32) (h : ea_H) (r : Int32) (h' : ea_H), (gX9_add f).1 x1 x2 x3 x4 x5 h = some (r, h') → ShC h → ea_W mX9_add d h0 (some (vI r)) h' 0 [(0, vR (some 5)), (1, vI x1), (2, vI x2), (3, vI x3), (4, vI x4), (5, vI x5)] [] h) ∧ (∀ (x1 : Int32) (x2 : Int32) (x3 : Int32) (x4 : Int32) (x5 : Int32) (x6 : Int32) (h : ea_H) (r : Int32) (h' : ea_H), (gX9_add f).2.1 x1 x2 x3 x4 x5 x6 h = some (r, h') → ShC h → ea_W mX9_add d h0 (some (vI r)) h' 48 [(0, vR (some 5)), (1, vI x1), (2, vI x2), (3, vI x3), (4, vI x4), (5, vI x5), (6, vI x6)] [] h) ∧ (∀ (x1 : Int32) (x2 : Int32) (x3 : Int32) (x4 : Int32) (x5 : Int32) (x6 : Int32) (x7 : Int32) (h : ea_H) (r : Int32) (h' : ea_H), (gX9_add f).2.2 x1 x2 x3 x4 x5 x6 x7 h = some (r, h') → ShC h → ea_W mX9_add d h0 (some (vI r)) h' 90 [(0, vR (some 5)), (1, vI x1), (2, vI x2), (3, vI x3), (4, vI x4), (5, vI x5), (6, vI x6), (7, vI x7)] [] h) := by
  intro f
  induction f with
  | zero => exact ⟨fun _ _ _ _ _ _ _ _ E => no_some E, fun _ _ _ _ _ _ _ _ _ E => no_some E, fun _ _ _ _ _ _ _ _ _ _ E => no_some E⟩
  | succ f ih => exact ⟨fun _ _ _ _ _ _ _ _ E hs => tBX9_add_0 hd ih.2.1 E hs, fun _ _ _ _ _ _ _ _ _ E hs => tBX9_add_48 hd ih.2.2 E hs, fun _ _ _ _ _ _ _ _ _ _ E hs => tBX9_add_90 hd E hs⟩
noncomputable def qX9_add (x1 : Int32) (x2 : Int32) (x3 : Int32) (x4 : Int32) (x5 : Int32) (h : ea_H) : Option (Int32 × ea_H) := qX9_add_0 x1 x2 x3 x4 x5 h
theorem sX9_add {d : Nat} {x1 : Int32} {x2 : Int32} {x3 : Int32} {x4 : Int32} {x5 : Int32} {h : ea_H} {r : Int32} {h' : ea_H} (hd : 1 ≤ d) (hs : ShC h) (K : qX9_add x1 x2 x3 x4 x5 h = some (r, h')) : ea_Met mX9_add d [vR (some 5), vI x1, vI x2, vI x3, vI x4, vI x5] h (some (vI r)) h' := by
  unfold qX9_add at K
  obtain ⟨n, hn⟩ := fqX9_add_0 x1 x2 x3 x4 x5 h _ K
  have W := (tgX9_add (d := d) (h0 := h) hd n).1 x1 x2 x3 x4 x5 h _ _ (hn n (Nat.le_refl _)) hs
  exact ea_enter rfl (Nat.le_of_ble_eq_true rfl) W
theorem kpX9_add (x1 : Int32) (x2 : Int32) (x3 : Int32) (x4 : Int32) (x5 : Int32) (h : ea_H) : kp (ea_core h) (qX9_add x1 x2 x3 x4 x5 h) := fun x e => by
  obtain ⟨n, hn⟩ := fqX9_add_0 x1 x2 x3 x4 x5 h x e
  exact (kgX9_add n).1 x1 x2 x3 x4 x5 h x (hn n (Nat.le_refl _))
noncomputable def BX9_comesAt_0 (x1 : Int32) (x2 : Int32) (x3 : Int32) (h : ea_H) : Option (Int32 × ea_H) :=
  (gd (vp_in (((8 : Int32) * x1) + x3) 80) (gd (vp_in (((10 : Int32) * x2) + x1) 70) (some (((((1440 : Int32) * x2) + (ea_i h 8 (Int32.toNatClampNeg (((8 : Int32) * x1) + x3)))) + (ea_i h 11 (Int32.toNatClampNeg (((10 : Int32) * x2) + x1)))), h))))
theorem tBX9_comesAt_0 {d : Nat} {h0 : ea_H} (hd : 1 ≤ d)  {x1 : Int32} {x2 : Int32} {x3 : Int32} {h : ea_H} {r : Int32} {h' : ea_H} (E : BX9_comesAt_0 x1 x2 x3 h = some (r, h')) (hs : ShC h) : ea_W mX9_comesAt d h0 (some (vI r)) h' 0 [(0, vR (some 5)), (1, vI x1), (2, vI x2), (3, vI x3)] [] h := by
  unfold BX9_comesAt_0 at E
  obtain ⟨z1, E⟩ := gd_some E
  refine ea_sipush (pc := 0) dX9_comesAt_0 (v := 1440) rfl ?_
  refine ea_iload_n (pc := 3) dX9_comesAt_3 rfl 2 rfl ?_
  refine ea_imul (pc := 4) dX9_comesAt_4 ?_
  refine ea_aload_n (pc := 5) dX9_comesAt_5 rfl 0 rfl ?_
  refine ea_getR (pc := 6) dX9_comesAt_6 ec_9 (k := 3) (Nat.le_of_ble_eq_true rfl) rfl (Or.inl ew_196) (cShC_5 hs).1 (cShC_5 hs).2.1 (rShC_5_3 hs) ?_
  refine ea_bipush (pc := 9) dX9_comesAt_9 (v := 8) rfl ?_
  refine ea_iload_n (pc := 11) dX9_comesAt_11 rfl 1 rfl ?_
  refine ea_imul (pc := 12) dX9_comesAt_12 ?_
  refine ea_iload_n (pc := 13) dX9_comesAt_13 rfl 3 rfl ?_
  refine ea_iadd (pc := 14) dX9_comesAt_14 ?_
  obtain ⟨z2, E⟩ := gd_some E
  refine ea_iald (pc := 15) dX9_comesAt_15 (cShC_8 hs).1 (cShC_8 hs).2.1 (ea_vpl (cShC_8 hs).2.2 z1) ?_
  refine ea_iadd (pc := 16) dX9_comesAt_16 ?_
  refine ea_aload_n (pc := 17) dX9_comesAt_17 rfl 0 rfl ?_
  refine ea_getR (pc := 18) dX9_comesAt_18 ec_9 (k := 6) (Nat.le_of_ble_eq_true rfl) rfl (Or.inl ew_204) (cShC_5 hs).1 (cShC_5 hs).2.1 (rShC_5_6 hs) ?_
  refine ea_bipush (pc := 21) dX9_comesAt_21 (v := 10) rfl ?_
  refine ea_iload_n (pc := 23) dX9_comesAt_23 rfl 2 rfl ?_
  refine ea_imul (pc := 24) dX9_comesAt_24 ?_
  refine ea_iload_n (pc := 25) dX9_comesAt_25 rfl 1 rfl ?_
  refine ea_iadd (pc := 26) dX9_comesAt_26 ?_
  refine ea_iald (pc := 27) dX9_comesAt_27 (cShC_11 hs).1 (cShC_11 hs).2.1 (ea_vpl (cShC_11 hs).2.2 z2) ?_
  refine ea_iadd (pc := 28) dX9_comesAt_28 ?_
  exact ea_iretO (pc := 29) dX9_comesAt_29 rfl rfl E
theorem kBX9_comesAt_0  {x1 : Int32} {x2 : Int32} {x3 : Int32} {h : ea_H} : kp (ea_core h) (BX9_comesAt_0 x1 x2 x3 h) :=
  (kp_gd (kp_gd (kp_ret rfl)))
noncomputable def qX9_comesAt (x1 : Int32) (x2 : Int32) (x3 : Int32) (h : ea_H) : Option (Int32 × ea_H) := BX9_comesAt_0 x1 x2 x3 h
theorem sX9_comesAt {d : Nat} {x1 : Int32} {x2 : Int32} {x3 : Int32} {h : ea_H} {r : Int32} {h' : ea_H} (hd : 1 ≤ d) (hs : ShC h) (K : qX9_comesAt x1 x2 x3 h = some (r, h')) : ea_Met mX9_comesAt d [vR (some 5), vI x1, vI x2, vI x3] h (some (vI r)) h' := by
  unfold qX9_comesAt at K
  have W := tBX9_comesAt_0 hd (h0 := h) K hs
  exact ea_enter rfl (Nat.le_of_ble_eq_true rfl) W
theorem kpX9_comesAt (x1 : Int32) (x2 : Int32) (x3 : Int32) (h : ea_H) : kp (ea_core h) (qX9_comesAt x1 x2 x3 h) := kBX9_comesAt_0
noncomputable def BX9_goesAt_0 (x1 : Int32) (x2 : Int32) (x3 : Int32) (h : ea_H) : Option (Int32 × ea_H) :=
  (gd (vp_in (((8 : Int32) * x1) + x3) 80) (gd (vp_in (((10 : Int32) * x2) + x1) 70) (some (((((1440 : Int32) * x2) + (ea_i h 9 (Int32.toNatClampNeg (((8 : Int32) * x1) + x3)))) + (ea_i h 11 (Int32.toNatClampNeg (((10 : Int32) * x2) + x1)))), h))))
theorem tBX9_goesAt_0 {d : Nat} {h0 : ea_H} (hd : 1 ≤ d)  {x1 : Int32} {x2 : Int32} {x3 : Int32} {h : ea_H} {r : Int32} {h' : ea_H} (E : BX9_goesAt_0 x1 x2 x3 h = some (r, h')) (hs : ShC h) : ea_W mX9_goesAt d h0 (some (vI r)) h' 0 [(0, vR (some 5)), (1, vI x1), (2, vI x2), (3, vI x3)] [] h := by
  unfold BX9_goesAt_0 at E
  obtain ⟨z1, E⟩ := gd_some E
  refine ea_sipush (pc := 0) dX9_goesAt_0 (v := 1440) rfl ?_
  refine ea_iload_n (pc := 3) dX9_goesAt_3 rfl 2 rfl ?_
  refine ea_imul (pc := 4) dX9_goesAt_4 ?_
  refine ea_aload_n (pc := 5) dX9_goesAt_5 rfl 0 rfl ?_
  refine ea_getR (pc := 6) dX9_goesAt_6 ec_9 (k := 4) (Nat.le_of_ble_eq_true rfl) rfl (Or.inl ew_199) (cShC_5 hs).1 (cShC_5 hs).2.1 (rShC_5_4 hs) ?_
  refine ea_bipush (pc := 9) dX9_goesAt_9 (v := 8) rfl ?_
  refine ea_iload_n (pc := 11) dX9_goesAt_11 rfl 1 rfl ?_
  refine ea_imul (pc := 12) dX9_goesAt_12 ?_
  refine ea_iload_n (pc := 13) dX9_goesAt_13 rfl 3 rfl ?_
  refine ea_iadd (pc := 14) dX9_goesAt_14 ?_
  obtain ⟨z2, E⟩ := gd_some E
  refine ea_iald (pc := 15) dX9_goesAt_15 (cShC_9 hs).1 (cShC_9 hs).2.1 (ea_vpl (cShC_9 hs).2.2 z1) ?_
  refine ea_iadd (pc := 16) dX9_goesAt_16 ?_
  refine ea_aload_n (pc := 17) dX9_goesAt_17 rfl 0 rfl ?_
  refine ea_getR (pc := 18) dX9_goesAt_18 ec_9 (k := 6) (Nat.le_of_ble_eq_true rfl) rfl (Or.inl ew_204) (cShC_5 hs).1 (cShC_5 hs).2.1 (rShC_5_6 hs) ?_
  refine ea_bipush (pc := 21) dX9_goesAt_21 (v := 10) rfl ?_
  refine ea_iload_n (pc := 23) dX9_goesAt_23 rfl 2 rfl ?_
  refine ea_imul (pc := 24) dX9_goesAt_24 ?_
  refine ea_iload_n (pc := 25) dX9_goesAt_25 rfl 1 rfl ?_
  refine ea_iadd (pc := 26) dX9_goesAt_26 ?_
  refine ea_iald (pc := 27) dX9_goesAt_27 (cShC_11 hs).1 (cShC_11 hs).2.1 (ea_vpl (cShC_11 hs).2.2 z2) ?_
  refine ea_iadd (pc := 28) dX9_goesAt_28 ?_
  exact ea_iretO (pc := 29) dX9_goesAt_29 rfl rfl E
theorem kBX9_goesAt_0  {x1 : Int32} {x2 : Int32} {x3 : Int32} {h : ea_H} : kp (ea_core h) (BX9_goesAt_0 x1 x2 x3 h) :=
  (kp_gd (kp_gd (kp_ret rfl)))
noncomputable def qX9_goesAt (x1 : Int32) (x2 : Int32) (x3 : Int32) (h : ea_H) : Option (Int32 × ea_H) := BX9_goesAt_0 x1 x2 x3 h
theorem sX9_goesAt {d : Nat} {x1 : Int32} {x2 : Int32} {x3 : Int32} {h : ea_H} {r : Int32} {h' : ea_H} (hd : 1 ≤ d) (hs : ShC h) (K : qX9_goesAt x1 x2 x3 h = some (r, h')) : ea_Met mX9_goesAt d [vR (some 5), vI x1, vI x2, vI x3] h (some (vI r)) h' := by
  unfold qX9_goesAt at K
  have W := tBX9_goesAt_0 hd (h0 := h) K hs
  exact ea_enter rfl (Nat.le_of_ble_eq_true rfl) W
theorem kpX9_goesAt (x1 : Int32) (x2 : Int32) (x3 : Int32) (h : ea_H) : kp (ea_core h) (qX9_goesAt x1 x2 x3 h) := kBX9_goesAt_0
noncomputable def BX9_goneFrom_0 (J6 : Int32 → Int32 → Int32 → Int32 → Int32 → ea_H → Option (Int32 × ea_H)) (x1 : Int32) (x2 : Int32) (x3 : Int32) (h : ea_H) : Option (Int32 × ea_H) :=
  (J6 (x1 : Int32) (x2 : Int32) (x3 : Int32) ((-1) : Int32) (0 : Int32) h)
theorem tBX9_goneFrom_0 {d : Nat} {h0 : ea_H} (hd : 2 ≤ d) {J6 : Int32 → Int32 → Int32 → Int32 → Int32 → ea_H → Option (Int32 × ea_H)}  (kJ6 : ∀ (x1 : Int32) (x2 : Int32) (x3 : Int32) (x4 : Int32) (x5 : Int32) (h : ea_H) (r : Int32) (h' : ea_H), J6 x1 x2 x3 x4 x5 h = some (r, h') → ShC h → ea_W mX9_goneFrom d h0 (some (vI r)) h' 6 [(0, vR (some 5)), (1, vI x1), (2, vI x2), (3, vI x3), (4, vI x4), (5, vI x5)] [] h) {x1 : Int32} {x2 : Int32} {x3 : Int32} {h : ea_H} {r : Int32} {h' : ea_H} (E : BX9_goneFrom_0 J6 x1 x2 x3 h = some (r, h')) (hs : ShC h) : ea_W mX9_goneFrom d h0 (some (vI r)) h' 0 [(0, vR (some 5)), (1, vI x1), (2, vI x2), (3, vI x3)] [] h := by
  unfold BX9_goneFrom_0 at E
  refine ea_iconst (pc := 0) dX9_goneFrom_0 (v := (-1)) rfl ?_
  refine ea_istore (pc := 1) (lv' := [(0, vR (some 5)), (1, vI x1), (2, vI x2), (3, vI x3), (4, vI (-1))]) dX9_goneFrom_1 (Nat.le_of_ble_eq_true rfl) [1, 2, 3, 4, 0] rfl ?_
  refine ea_iconst (pc := 3) dX9_goneFrom_3 (v := 0) rfl ?_
  refine ea_istore (pc := 4) (lv' := [(0, vR (some 5)), (1, vI x1), (2, vI x2), (3, vI x3), (4, vI (-1)), (5, vI 0)]) dX9_goneFrom_4 (Nat.le_of_ble_eq_true rfl) [1, 2, 3, 4, 5, 0] rfl ?_
  exact (kJ6 (x1 : Int32) (x2 : Int32) (x3 : Int32) ((-1) : Int32) (0 : Int32) h _ _ E hs)
theorem kBX9_goneFrom_0 {J6 : Int32 → Int32 → Int32 → Int32 → Int32 → ea_H → Option (Int32 × ea_H)}  (cJ6 : ∀ (x1 : Int32) (x2 : Int32) (x3 : Int32) (x4 : Int32) (x5 : Int32) (h : ea_H), kp (ea_core h) (J6 x1 x2 x3 x4 x5 h)) {x1 : Int32} {x2 : Int32} {x3 : Int32} {h : ea_H} : kp (ea_core h) (BX9_goneFrom_0 J6 x1 x2 x3 h) :=
  (kp_tw (cJ6 _ _ _ _ _ _) rfl)
theorem lBX9_goneFrom_0 {J6 : Int32 → Int32 → Int32 → Int32 → Int32 → ea_H → Option (Int32 × ea_H)} {J6_ : Int32 → Int32 → Int32 → Int32 → Int32 → ea_H → Option (Int32 × ea_H)}  (mJ6 : ∀ (x1 : Int32) (x2 : Int32) (x3 : Int32) (x4 : Int32) (x5 : Int32) (h : ea_H), fle (J6 x1 x2 x3 x4 x5 h) (J6_ x1 x2 x3 x4 x5 h)) {x1 : Int32} {x2 : Int32} {x3 : Int32} {h : ea_H} : fle (BX9_goneFrom_0 J6 x1 x2 x3 h) (BX9_goneFrom_0 J6_ x1 x2 x3 h) :=
  (mJ6 _ _ _ _ _ _)
theorem nBX9_goneFrom_0 {J6 : Int32 → Int32 → Int32 → Int32 → Int32 → ea_H → Option (Int32 × ea_H)} {J6_ : Nat → (Int32 → Int32 → Int32 → Int32 → Int32 → ea_H → Option (Int32 × ea_H))}  (mJ6 : ∀ (x1 : Int32) (x2 : Int32) (x3 : Int32) (x4 : Int32) (x5 : Int32) (h : ea_H), fct (J6 x1 x2 x3 x4 x5 h) (fun f => J6_ f x1 x2 x3 x4 x5 h)) {x1 : Int32} {x2 : Int32} {x3 : Int32} {h : ea_H} : fct (BX9_goneFrom_0 J6 x1 x2 x3 h) (fun f => BX9_goneFrom_0 (J6_ f) x1 x2 x3 h) :=
  (mJ6 _ _ _ _ _ _)
noncomputable def BX9_goneFrom_6 (J6 : Int32 → Int32 → Int32 → Int32 → Int32 → ea_H → Option (Int32 × ea_H)) (x1 : Int32) (x2 : Int32) (x3 : Int32) (x4 : Int32) (x5 : Int32) (h : ea_H) : Option (Int32 × ea_H) :=
  (gd (vp_in x1 10) (if ((ea_i h 6 (Int32.toNatClampNeg x1)) - (1 : Int32)) ≤ x5 then (some (x4, h)) else (Option.bind (qX9_goesAt (x1 : Int32) (x2 : Int32) (x5 : Int32) h) fun w2 => (if x3 < w2.1 then (J6 (x1 : Int32) (x2 : Int32) (x3 : Int32) (x4 : Int32) ((x5 + (1 : Int32)) : Int32) w2.2) else (J6 (x1 : Int32) (x2 : Int32) (x3 : Int32) (x5 : Int32) ((x5 + (1 : Int32)) : Int32) w2.2)))))
theorem tBX9_goneFrom_6 {d : Nat} {h0 : ea_H} (hd : 2 ≤ d) {J6 : Int32 → Int32 → Int32 → Int32 → Int32 → ea_H → Option (Int32 × ea_H)}  (kJ6 : ∀ (x1 : Int32) (x2 : Int32) (x3 : Int32) (x4 : Int32) (x5 : Int32) (h : ea_H) (r : Int32) (h' : ea_H), J6 x1 x2 x3 x4 x5 h = some (r, h') → ShC h → ea_W mX9_goneFrom d h0 (some (vI r)) h' 6 [(0, vR (some 5)), (1, vI x1), (2, vI x2), (3, vI x3), (4, vI x4), (5, vI x5)] [] h) {x1 : Int32} {x2 : Int32} {x3 : Int32} {x4 : Int32} {x5 : Int32} {h : ea_H} {r : Int32} {h' : ea_H} (E : BX9_goneFrom_6 J6 x1 x2 x3 x4 x5 h = some (r, h')) (hs : ShC h) : ea_W mX9_goneFrom d h0 (some (vI r)) h' 6 [(0, vR (some 5)), (1, vI x1), (2, vI x2), (3, vI x3), (4, vI x4), (5, vI x5)] [] h := by
  unfold BX9_goneFrom_6 at E
  obtain ⟨z1, E⟩ := gd_some E
  refine ea_iload (pc := 6) dX9_goneFrom_6 5 rfl ?_
  refine ea_aload_n (pc := 8) dX9_goneFrom_8 rfl 0 rfl ?_
  refine ea_getR (pc := 9) dX9_goneFrom_9 ec_9 (k := 1) (Nat.le_of_ble_eq_true rfl) rfl (Or.inl ew_187) (cShC_5 hs).1 (cShC_5 hs).2.1 (rShC_5_1 hs) ?_
  refine ea_iload_n (pc := 12) dX9_goneFrom_12 rfl 1 rfl ?_
  refine ea_iald (pc := 13) dX9_goneFrom_13 (cShC_6 hs).1 (cShC_6 hs).2.1 (ea_vpl (cShC_6 hs).2.2 z1) ?_
  refine ea_iconst (pc := 14) dX9_goneFrom_14 (v := 1) rfl ?_
  refine ea_isub (pc := 15) dX9_goneFrom_15 ?_
  refine ea_icmp_ge (pc := 16) (tgt := 41) dX9_goneFrom_16 rfl (fun c4 => ?_) (fun c4 => ?_)
  · have E := (if_pos c4).symm.trans E
    refine ea_iload (pc := 41) dX9_goneFrom_41 4 rfl ?_
    exact ea_iretO (pc := 43) dX9_goneFrom_43 rfl rfl E
  · have E := (if_neg c4).symm.trans E
    obtain ⟨w2, Ew2, E⟩ := bd_some E
    have hsw2 : ShC w2.2 := ShC_core ((kpX9_goesAt _ _ _ _) _ Ew2) hs
    refine ea_aload_n (pc := 19) dX9_goneFrom_19 rfl 0 rfl ?_
    refine ea_iload_n (pc := 20) dX9_goneFrom_20 rfl 1 rfl ?_
    refine ea_iload_n (pc := 21) dX9_goneFrom_21 rfl 2 rfl ?_
    refine ea_iload (pc := 22) dX9_goneFrom_22 5 rfl ?_
    refine ea_callV (pc := 24) (d' := d - 1) (As := [vI x1, vI x2, vI x5]) (st := []) dX9_goneFrom_24 kX9_goesAt (sX9_goesAt (d := d - 1) (by omega) hs Ew2) (by omega) rfl (Nat.le_of_ble_eq_true rfl) ew_1232 ew_763 ew_764 (ci := 9) rfl (by decide) (cShC_5 hs).1 (cShC_5 hs).2.1 ?_
    refine ea_iload_n (pc := 27) dX9_goneFrom_27 rfl 3 rfl ?_
    refine ea_icmp_gt (pc := 28) (tgt := 35) dX9_goneFrom_28 rfl (fun c3 => ?_) (fun c3 => ?_)
    · have E := (if_pos c3).symm.trans E
      refine ea_iinc (pc := 35) (v := 1) (lv' := [(0, vR (some 5)), (1, vI x1), (2, vI x2), (3, vI x3), (4, vI x4), (5, vI (x5 + (1 : Int32)))]) dX9_goneFrom_35 5 rfl rfl (Nat.le_of_ble_eq_true rfl) [1, 2, 3, 4, 5, 0] rfl ?_
      refine ea_goto (pc := 38) (tgt := 6) dX9_goneFrom_38 rfl ?_
      exact (kJ6 (x1 : Int32) (x2 : Int32) (x3 : Int32) (x4 : Int32) ((x5 + (1 : Int32)) : Int32) w2.2 _ _ E hsw2)
    · have E := (if_neg c3).symm.trans E
      refine ea_iload (pc := 31) dX9_goneFrom_31 5 rfl ?_
      refine ea_istore (pc := 33) (lv' := [(0, vR (some 5)), (1, vI x1), (2, vI x2), (3, vI x3), (4, vI x5), (5, vI x5)]) dX9_goneFrom_33 (Nat.le_of_ble_eq_true rfl) [1, 2, 3, 4, 0, 5] rfl ?_
      refine ea_iinc (pc := 35) (v := 1) (lv' := [(0, vR (some 5)), (1, vI x1), (2, vI x2), (3, vI x3), (4, vI x5), (5, vI (x5 + (1 : Int32)))]) dX9_goneFrom_35 5 rfl rfl (Nat.le_of_ble_eq_true rfl) [1, 2, 3, 4, 5, 0] rfl ?_
      refine ea_goto (pc := 38) (tgt := 6) dX9_goneFrom_38 rfl ?_
      exact (kJ6 (x1 : Int32) (x2 : Int32) (x3 : Int32) (x5 : Int32) ((x5 + (1 : Int32)) : Int32) w2.2 _ _ E hsw2)
theorem kBX9_goneFrom_6 {J6 : Int32 → Int32 → Int32 → Int32 → Int32 → ea_H → Option (Int32 × ea_H)}  (cJ6 : ∀ (x1 : Int32) (x2 : Int32) (x3 : Int32) (x4 : Int32) (x5 : Int32) (h : ea_H), kp (ea_core h) (J6 x1 x2 x3 x4 x5 h)) {x1 : Int32} {x2 : Int32} {x3 : Int32} {x4 : Int32} {x5 : Int32} {h : ea_H} : kp (ea_core h) (BX9_goneFrom_6 J6 x1 x2 x3 x4 x5 h) :=
  (kp_gd (kp_ite (kp_ret rfl) (kp_bind (kp_tw (kpX9_goesAt _ _ _ _) rfl) fun w2 hcw2 => (kp_ite (kp_tw (cJ6 _ _ _ _ _ _) hcw2) (kp_tw (cJ6 _ _ _ _ _ _) hcw2)))))
theorem lBX9_goneFrom_6 {J6 : Int32 → Int32 → Int32 → Int32 → Int32 → ea_H → Option (Int32 × ea_H)} {J6_ : Int32 → Int32 → Int32 → Int32 → Int32 → ea_H → Option (Int32 × ea_H)}  (mJ6 : ∀ (x1 : Int32) (x2 : Int32) (x3 : Int32) (x4 : Int32) (x5 : Int32) (h : ea_H), fle (J6 x1 x2 x3 x4 x5 h) (J6_ x1 x2 x3 x4 x5 h)) {x1 : Int32} {x2 : Int32} {x3 : Int32} {x4 : Int32} {x5 : Int32} {h : ea_H} : fle (BX9_goneFrom_6 J6 x1 x2 x3 x4 x5 h) (BX9_goneFrom_6 J6_ x1 x2 x3 x4 x5 h) :=
  (fle_gd (fle_ite (fle_rfl _) (fle_bind (fle_rfl _) fun _ => (fle_ite (mJ6 _ _ _ _ _ _) (mJ6 _ _ _ _ _ _)))))
theorem nBX9_goneFrom_6 {J6 : Int32 → Int32 → Int32 → Int32 → Int32 → ea_H → Option (Int32 × ea_H)} {J6_ : Nat → (Int32 → Int32 → Int32 → Int32 → Int32 → ea_H → Option (Int32 × ea_H))}  (mJ6 : ∀ (x1 : Int32) (x2 : Int32) (x3 : Int32) (x4 : Int32) (x5 : Int32) (h : ea_H), fct (J6 x1 x2 x3 x4 x5 h) (fun f => J6_ f x1 x2 x3 x4 x5 h)) {x1 : Int32} {x2 : Int32} {x3 : Int32} {x4 : Int32} {x5 : Int32} {h : ea_H} : fct (BX9_goneFrom_6 J6 x1 x2 x3 x4 x5 h) (fun f => BX9_goneFrom_6 (J6_ f) x1 x2 x3 x4 x5 h) :=
  (fct_gd (fct_ite (fct_rfl _) (fct_bind (fct_rfl _) fun _ => (fct_ite (mJ6 _ _ _ _ _ _) (mJ6 _ _ _ _ _ _)))))
noncomputable def gX9_goneFrom : Nat → (Int32 → Int32 → Int32 → ea_H → Option (Int32 × ea_H)) × (Int32 → Int32 → Int32 → Int32 → Int32 → ea_H → Option (Int32 × ea_H))
  | 0 => (fun _ _ _ _ => none, fun _ _ _ _ _ _ => none)
  | f + 1 => (BX9_goneFrom_0 (gX9_goneFrom f).2, BX9_goneFrom_6 (gX9_goneFrom f).2)
theorem mgX9_goneFrom : ∀ f : Nat, (∀ (x1 : Int32) (x2 : Int32) (x3 : Int32) (h : ea_H), fle ((gX9_goneFrom f).1 x1 x2 x3 h) ((gX9_goneFrom (f + 1)).1 x1 x2 x3 h)) ∧ (∀ (x1 : Int32) (x2 : Int32) (x3 : Int32) (x4 : Int32) (x5 : Int32) (h : ea_H), fle ((gX9_goneFrom f).2 x1 x2 x3 x4 x5 h) ((gX9_goneFrom (f + 1)).2 x1 x2 x3 x4 x5 h)) := by
  intro f
  induction f with
  | zero => exact ⟨fun _ _ _ _ => fle_none _, fun _ _ _ _ _ _ => fle_none _⟩
  | succ f ih => exact ⟨fun _ _ _ _ => lBX9_goneFrom_0 ih.2, fun _ _ _ _ _ _ => lBX9_goneFrom_6 ih.2⟩
noncomputable def qX9_goneFrom_0 (x1 : Int32) (x2 : Int32) (x3 : Int32) (h : ea_H) : Option (Int32 × ea_H) := flim fun f => (gX9_goneFrom f).1 x1 x2 x3 h
noncomputable def qX9_goneFrom_6 (x1 : Int32) (x2 : Int32) (x3 : Int32) (x4 : Int32) (x5 : Int32) (h : ea_H) : Option (Int32 × ea_H) := flim fun f => (gX9_goneFrom f).2 x1 x2 x3 x4 x5 h
theorem fqX9_goneFrom_0 (x1 : Int32) (x2 : Int32) (x3 : Int32) (h : ea_H) : fct (qX9_goneFrom_0 x1 x2 x3 h) fun f => (gX9_goneFrom f).1 x1 x2 x3 h := flim_ct fun f => (mgX9_goneFrom f).1 x1 x2 x3 h
theorem fqX9_goneFrom_6 (x1 : Int32) (x2 : Int32) (x3 : Int32) (x4 : Int32) (x5 : Int32) (h : ea_H) : fct (qX9_goneFrom_6 x1 x2 x3 x4 x5 h) fun f => (gX9_goneFrom f).2 x1 x2 x3 x4 x5 h := flim_ct fun f => (mgX9_goneFrom f).2 x1 x2 x3 x4 x5 h
/-- how a block opens -/
theorem uqX9_goneFrom_0 {x1 : Int32} {x2 : Int32} {x3 : Int32} {h : ea_H} {P : Int32 × ea_H → Prop} (H : sat (BX9_goneFrom_0 qX9_goneFrom_6 x1 x2 x3 h) P) : sat (qX9_goneFrom_0 x1 x2 x3 h) P := by
  obtain ⟨x, e, hp⟩ := H
  obtain ⟨n, hn⟩ := nBX9_goneFrom_0 fqX9_goneFrom_6 x e
  exact ⟨x, flim_at (fun f => (mgX9_goneFrom f).1 x1 x2 x3 h) (f := n + 1) (hn n (Nat.le_refl _)), hp⟩
/-- how a block opens -/
theorem uqX9_goneFrom_6 {x1 : Int32} {x2 : Int32} {x3 : Int32} {x4 : Int32} {x5 : Int32} {h : ea_H} {P : Int32 × ea_H → Prop} (H : sat (BX9_goneFrom_6 qX9_goneFrom_6 x1 x2 x3 x4 x5 h) P) : sat (qX9_goneFrom_6 x1 x2 x3 x4 x5 h) P := by
  obtain ⟨x, e, hp⟩ := H
  obtain ⟨n, hn⟩ := nBX9_goneFrom_6 fqX9_goneFrom_6 x e
  exact ⟨x, flim_at (fun f => (mgX9_goneFrom f).2 x1 x2 x3 x4 x5 h) (f := n + 1) (hn n (Nat.le_refl _)), hp⟩
theorem kgX9_goneFrom : ∀ f : Nat, (∀ (x1 : Int32) (x2 : Int32) (x3 : Int32) (h : ea_H), kp (ea_core h) ((gX9_goneFrom f).1 x1 x2 x3 h)) ∧ (∀ (x1 : Int32) (x2 : Int32) (x3 : Int32) (x4 : Int32) (x5 : Int32) (h : ea_H), kp (ea_core h) ((gX9_goneFrom f).2 x1 x2 x3 x4 x5 h)) := by
  intro f
  induction f with
  | zero => exact ⟨fun _ _ _ _ => kp_none _, fun _ _ _ _ _ _ => kp_none _⟩
  | succ f ih => exact ⟨fun _ _ _ _ => kBX9_goneFrom_0 ih.2, fun _ _ _ _ _ _ => kBX9_goneFrom_6 ih.2⟩
theorem tgX9_goneFrom {d : Nat} {h0 : ea_H} (hd : 2 ≤ d) : ∀ f : Nat, (∀ (x1 : Int32) (x2 : Int32) (x3 : Int32) (h : ea_H) (r : Int32) (h' : ea_H), (gX9_goneFrom f).1 x1 x2 x3 h = some (r, h') → ShC h → ea_W mX9_goneFrom d h0 (some (vI r)) h' 0 [(0, vR (some 5)), (1, vI x1), (2, vI x2), (3, vI x3)] [] h) ∧ (∀ (x1 : Int32) (x2 : Int32) (x3 : Int32) (x4 : Int32) (x5 : Int32) (h : ea_H) (r : Int32) (h' : ea_H), (gX9_goneFrom f).2 x1 x2 x3 x4 x5 h = some (r, h') → ShC h → ea_W mX9_goneFrom d h0 (some (vI r)) h' 6 [(0, vR (some 5)), (1, vI x1), (2, vI x2), (3, vI x3), (4, vI x4), (5, vI x5)] [] h) := by
  intro f
  induction f with
  | zero => exact ⟨fun _ _ _ _ _ _ E => no_some E, fun _ _ _ _ _ _ _ _ E => no_some E⟩
  | succ f ih => exact ⟨fun _ _ _ _ _ _ E hs => tBX9_goneFrom_0 hd ih.2 E hs, fun _ _ _ _ _ _ _ _ E hs => tBX9_goneFrom_6 hd ih.2 E hs⟩
noncomputable def qX9_goneFrom (x1 : Int32) (x2 : Int32) (x3 : Int32) (h : ea_H) : Option (Int32 × ea_H) := qX9_goneFrom_0 x1 x2 x3 h
theorem sX9_goneFrom {d : Nat} {x1 : Int32} {x2 : Int32} {x3 : Int32} {h : ea_H} {r : Int32} {h' : ea_H} (hd : 2 ≤ d) (hs : ShC h) (K : qX9_goneFrom x1 x2 x3 h = some (r, h')) : ea_Met mX9_goneFrom d [vR (some 5), vI x1, vI x2, vI x3] h (some (vI r)) h' := by
  unfold qX9_goneFrom at K
  obtain ⟨n, hn⟩ := fqX9_goneFrom_0 x1 x2 x3 h _ K
  have W := (tgX9_goneFrom (d := d) (h0 := h) hd n).1 x1 x2 x3 h _ _ (hn n (Nat.le_refl _)) hs
  exact ea_enter rfl (Nat.le_of_ble_eq_true rfl) W
theorem kpX9_goneFrom (x1 : Int32) (x2 : Int32) (x3 : Int32) (h : ea_H) : kp (ea_core h) (qX9_goneFrom x1 x2 x3 h) := fun x e => by
  obtain ⟨n, hn⟩ := fqX9_goneFrom_0 x1 x2 x3 h x e
  exact (kgX9_goneFrom n).1 x1 x2 x3 h x (hn n (Nat.le_refl _))
noncomputable def BX10_init_0 (a0 : Nat) (r1 : Option Nat) (h : ea_H) : Option (Unit × ea_H) :=
  (ea_let (ea_new h 20 980 980) fun H1 => (gd ((a0 < ea_n H1 ∧ ea_c H1 a0 = 10)) (ea_let (ea_wr H1 a0 3 (some (ea_n h))) fun H3 => (ea_let (ea_new H3 22 560 560) fun H4 => (gd ((a0 < ea_n H4 ∧ ea_c H4 a0 = 10)) (ea_let (ea_wr H4 a0 4 (some (ea_n H3))) fun H6 => (ea_let (ea_new H6 22 840 840) fun H7 => (gd ((a0 < ea_n H7 ∧ ea_c H7 a0 = 10)) (ea_let (ea_wr H7 a0 5 (some (ea_n H6))) fun H9 => (ea_let (ea_new H9 22 144 144) fun H10 => (gd ((a0 < ea_n H10 ∧ ea_c H10 a0 = 10)) (ea_let (ea_wr H10 a0 6 (some (ea_n H9))) fun H12 => (gd ((a0 < ea_n H12 ∧ ea_c H12 a0 = 10)) (ea_let (ea_wr H12 a0 2 r1) fun H14 => (some ((), H14))))))))))))))))
theorem tBX10_init_0 {d : Nat} {a0 : Nat} {h0 : ea_H} (hd : 2 ≤ d)  {r1 : Option Nat} {h : ea_H} {r : Unit} {h' : ea_H} (E : BX10_init_0 a0 r1 h = some (r, h')) : ea_W mX10_init d h0 none h' 0 [(0, vR (some a0)), (1, vR r1)] [] h := by
  unfold BX10_init_0 at E
  obtain ⟨H1, eH1, E⟩ := let_some E
  refine ea_aload_n (pc := 0) dX10_init_0 rfl 0 rfl ?_
  refine ea_objInit (pc := 1) dX10_init_1 ew_231 ew_141 ew_142 (by omega) (Nat.le_of_ble_eq_true rfl) ?_
  refine ea_aload_n (pc := 4) dX10_init_4 rfl 0 rfl ?_
  refine ea_sipush (pc := 5) dX10_init_5 (v := 980) rfl ?_
  refine ea_newI (pc := 8) (N := 980) dX10_init_8 ew_177 (by decide) rfl (Nat.le_of_ble_eq_true rfl) ?_
  refine ea_nm eH1 ?_
  obtain ⟨f2, E⟩ := gd_some E
  obtain ⟨H3, eH3, E⟩ := let_some E
  refine ea_putR (pc := 10) dX10_init_10 ec_10 (k := 3) (Nat.le_of_ble_eq_true rfl) rfl (Or.inr ⟨rfl, rfl, rfl, ew_238⟩) f2.1 f2.2 ?_
  refine ea_nm eH3 ?_
  obtain ⟨H4, eH4, E⟩ := let_some E
  refine ea_aload_n (pc := 13) dX10_init_13 rfl 0 rfl ?_
  refine ea_sipush (pc := 14) dX10_init_14 (v := 560) rfl ?_
  refine ea_newJ (pc := 17) (N := 560) dX10_init_17 ew_257 (by decide) rfl (Nat.le_of_ble_eq_true rfl) ?_
  refine ea_nm eH4 ?_
  obtain ⟨f5, E⟩ := gd_some E
  obtain ⟨H6, eH6, E⟩ := let_some E
  refine ea_putR (pc := 19) dX10_init_19 ec_10 (k := 4) (Nat.le_of_ble_eq_true rfl) rfl (Or.inr ⟨rfl, rfl, rfl, ew_239⟩) f5.1 f5.2 ?_
  refine ea_nm eH6 ?_
  obtain ⟨H7, eH7, E⟩ := let_some E
  refine ea_aload_n (pc := 22) dX10_init_22 rfl 0 rfl ?_
  refine ea_sipush (pc := 23) dX10_init_23 (v := 840) rfl ?_
  refine ea_newJ (pc := 26) (N := 840) dX10_init_26 ew_257 (by decide) rfl (Nat.le_of_ble_eq_true rfl) ?_
  refine ea_nm eH7 ?_
  obtain ⟨f8, E⟩ := gd_some E
  obtain ⟨H9, eH9, E⟩ := let_some E
  refine ea_putR (pc := 28) dX10_init_28 ec_10 (k := 5) (Nat.le_of_ble_eq_true rfl) rfl (Or.inr ⟨rfl, rfl, rfl, ew_240⟩) f8.1 f8.2 ?_
  refine ea_nm eH9 ?_
  obtain ⟨H10, eH10, E⟩ := let_some E
  refine ea_aload_n (pc := 31) dX10_init_31 rfl 0 rfl ?_
  refine ea_sipush (pc := 32) dX10_init_32 (v := 144) rfl ?_
  refine ea_newJ (pc := 35) (N := 144) dX10_init_35 ew_257 (by decide) rfl (Nat.le_of_ble_eq_true rfl) ?_
  refine ea_nm eH10 ?_
  obtain ⟨f11, E⟩ := gd_some E
  obtain ⟨H12, eH12, E⟩ := let_some E
  refine ea_putR (pc := 37) dX10_init_37 ec_10 (k := 6) (Nat.le_of_ble_eq_true rfl) rfl (Or.inr ⟨rfl, rfl, rfl, ew_241⟩) f11.1 f11.2 ?_
  refine ea_nm eH12 ?_
  obtain ⟨f13, E⟩ := gd_some E
  refine ea_aload_n (pc := 40) dX10_init_40 rfl 0 rfl ?_
  refine ea_aload_n (pc := 41) dX10_init_41 rfl 1 rfl ?_
  obtain ⟨H14, eH14, E⟩ := let_some E
  refine ea_putR (pc := 42) dX10_init_42 ec_10 (k := 2) (Nat.le_of_ble_eq_true rfl) rfl (Or.inr ⟨rfl, rfl, rfl, ew_237⟩) f13.1 f13.2 ?_
  refine ea_nm eH14 ?_
  exact ea_vretO (pc := 45) dX10_init_45 rfl E
noncomputable def qX10_init (a0 : Nat) (r1 : Option Nat) (h : ea_H) : Option (Unit × ea_H) := BX10_init_0 a0 r1 h
theorem sX10_init {d : Nat} {a0 : Nat} {r1 : Option Nat} {h : ea_H} {r : Unit} {h' : ea_H} (hd : 2 ≤ d) (K : qX10_init a0 r1 h = some (r, h')) : ea_Met mX10_init d [vR (some a0), vR r1] h none h' := by
  unfold qX10_init at K
  have W := tBX10_init_0 hd (h0 := h) K
  exact ea_enter rfl (Nat.le_of_ble_eq_true rfl) W
noncomputable def BX10_minuteOf_0 (y0 : Int64) (h : ea_H) : Option (Int32 × ea_H) :=
  (some ((Int64.toInt32 (y0 >>> (Int32.toInt64 21 &&& 63))), h))
theorem tBX10_minuteOf_0 {d : Nat} {h0 : ea_H} (hd : 1 ≤ d)  {y0 : Int64} {h : ea_H} {r : Int32} {h' : ea_H} (E : BX10_minuteOf_0 y0 h = some (r, h')) : ea_W mX10_minuteOf d h0 (some (vI r)) h' 0 [(0, vJ y0)] [] h := by
  unfold BX10_minuteOf_0 at E
  refine ea_lload_n (pc := 0) dX10_minuteOf_0 rfl 0 rfl ?_
  refine ea_bipush (pc := 1) dX10_minuteOf_1 (v := 21) rfl ?_
  refine ea_lshr (pc := 3) dX10_minuteOf_3 ?_
  refine ea_l2i (pc := 4) dX10_minuteOf_4 ?_
  exact ea_iretO (pc := 5) dX10_minuteOf_5 rfl rfl E
theorem kBX10_minuteOf_0  {y0 : Int64} {h : ea_H} : kp (ea_core h) (BX10_minuteOf_0 y0 h) :=
  (kp_ret rfl)
noncomputable def qX10_minuteOf (y0 : Int64) (h : ea_H) : Option (Int32 × ea_H) := BX10_minuteOf_0 y0 h
theorem sX10_minuteOf {d : Nat} {y0 : Int64} {h : ea_H} {r : Int32} {h' : ea_H} (hd : 1 ≤ d) (K : qX10_minuteOf y0 h = some (r, h')) : ea_Met mX10_minuteOf d [vJ y0] h (some (vI r)) h' := by
  unfold qX10_minuteOf at K
  have W := tBX10_minuteOf_0 hd (h0 := h) K
  exact ea_enter rfl (Nat.le_of_ble_eq_true rfl) W
theorem kpX10_minuteOf (y0 : Int64) (h : ea_H) : kp (ea_core h) (qX10_minuteOf y0 h) := kBX10_minuteOf_0
noncomputable def BX10_runsOf_0 (y0 : Int64) (h : ea_H) : Option (Int32 × ea_H) :=
  (some (((Int64.toInt32 (y0 >>> (Int32.toInt64 13 &&& 63))) &&& (255 : Int32)), h))
theorem tBX10_runsOf_0 {d : Nat} {h0 : ea_H} (hd : 1 ≤ d)  {y0 : Int64} {h : ea_H} {r : Int32} {h' : ea_H} (E : BX10_runsOf_0 y0 h = some (r, h')) : ea_W mX10_runsOf d h0 (some (vI r)) h' 0 [(0, vJ y0)] [] h := by
  unfold BX10_runsOf_0 at E
  refine ea_lload_n (pc := 0) dX10_runsOf_0 rfl 0 rfl ?_
  refine ea_bipush (pc := 1) dX10_runsOf_1 (v := 13) rfl ?_
  refine ea_lshr (pc := 3) dX10_runsOf_3 ?_
  refine ea_l2i (pc := 4) dX10_runsOf_4 ?_
  refine ea_sipush (pc := 5) dX10_runsOf_5 (v := 255) rfl ?_
  refine ea_iand (pc := 8) dX10_runsOf_8 ?_
  exact ea_iretO (pc := 9) dX10_runsOf_9 rfl rfl E
theorem kBX10_runsOf_0  {y0 : Int64} {h : ea_H} : kp (ea_core h) (BX10_runsOf_0 y0 h) :=
  (kp_ret rfl)
noncomputable def qX10_runsOf (y0 : Int64) (h : ea_H) : Option (Int32 × ea_H) := BX10_runsOf_0 y0 h
theorem sX10_runsOf {d : Nat} {y0 : Int64} {h : ea_H} {r : Int32} {h' : ea_H} (hd : 1 ≤ d) (K : qX10_runsOf y0 h = some (r, h')) : ea_Met mX10_runsOf d [vJ y0] h (some (vI r)) h' := by
  unfold qX10_runsOf at K
  have W := tBX10_runsOf_0 hd (h0 := h) K
  exact ea_enter rfl (Nat.le_of_ble_eq_true rfl) W
theorem kpX10_runsOf (y0 : Int64) (h : ea_H) : kp (ea_core h) (qX10_runsOf y0 h) := kBX10_runsOf_0
noncomputable def BX10_trainOf_0 (y0 : Int64) (h : ea_H) : Option (Int32 × ea_H) :=
  (some (((Int64.toInt32 (y0 >>> (Int32.toInt64 9 &&& 63))) &&& (15 : Int32)), h))
theorem tBX10_trainOf_0 {d : Nat} {h0 : ea_H} (hd : 1 ≤ d)  {y0 : Int64} {h : ea_H} {r : Int32} {h' : ea_H} (E : BX10_trainOf_0 y0 h = some (r, h')) : ea_W mX10_trainOf d h0 (some (vI r)) h' 0 [(0, vJ y0)] [] h := by
  unfold BX10_trainOf_0 at E
  refine ea_lload_n (pc := 0) dX10_trainOf_0 rfl 0 rfl ?_
  refine ea_bipush (pc := 1) dX10_trainOf_1 (v := 9) rfl ?_
  refine ea_lshr (pc := 3) dX10_trainOf_3 ?_
  refine ea_l2i (pc := 4) dX10_trainOf_4 ?_
  refine ea_bipush (pc := 5) dX10_trainOf_5 (v := 15) rfl ?_
  refine ea_iand (pc := 7) dX10_trainOf_7 ?_
  exact ea_iretO (pc := 8) dX10_trainOf_8 rfl rfl E
theorem kBX10_trainOf_0  {y0 : Int64} {h : ea_H} : kp (ea_core h) (BX10_trainOf_0 y0 h) :=
  (kp_ret rfl)
noncomputable def qX10_trainOf (y0 : Int64) (h : ea_H) : Option (Int32 × ea_H) := BX10_trainOf_0 y0 h
theorem sX10_trainOf {d : Nat} {y0 : Int64} {h : ea_H} {r : Int32} {h' : ea_H} (hd : 1 ≤ d) (K : qX10_trainOf y0 h = some (r, h')) : ea_Met mX10_trainOf d [vJ y0] h (some (vI r)) h' := by
  unfold qX10_trainOf at K
  have W := tBX10_trainOf_0 hd (h0 := h) K
  exact ea_enter rfl (Nat.le_of_ble_eq_true rfl) W
theorem kpX10_trainOf (y0 : Int64) (h : ea_H) : kp (ea_core h) (qX10_trainOf y0 h) := kBX10_trainOf_0
noncomputable def BX10_dayOf_0 (y0 : Int64) (h : ea_H) : Option (Int32 × ea_H) :=
  (some (((Int64.toInt32 (y0 >>> (Int32.toInt64 6 &&& 63))) &&& (7 : Int32)), h))
theorem tBX10_dayOf_0 {d : Nat} {h0 : ea_H} (hd : 1 ≤ d)  {y0 : Int64} {h : ea_H} {r : Int32} {h' : ea_H} (E : BX10_dayOf_0 y0 h = some (r, h')) : ea_W mX10_dayOf d h0 (some (vI r)) h' 0 [(0, vJ y0)] [] h := by
  unfold BX10_dayOf_0 at E
  refine ea_lload_n (pc := 0) dX10_dayOf_0 rfl 0 rfl ?_
  refine ea_bipush (pc := 1) dX10_dayOf_1 (v := 6) rfl ?_
  refine ea_lshr (pc := 3) dX10_dayOf_3 ?_
  refine ea_l2i (pc := 4) dX10_dayOf_4 ?_
  refine ea_bipush (pc := 5) dX10_dayOf_5 (v := 7) rfl ?_
  refine ea_iand (pc := 7) dX10_dayOf_7 ?_
  exact ea_iretO (pc := 8) dX10_dayOf_8 rfl rfl E
theorem kBX10_dayOf_0  {y0 : Int64} {h : ea_H} : kp (ea_core h) (BX10_dayOf_0 y0 h) :=
  (kp_ret rfl)
noncomputable def qX10_dayOf (y0 : Int64) (h : ea_H) : Option (Int32 × ea_H) := BX10_dayOf_0 y0 h
theorem sX10_dayOf {d : Nat} {y0 : Int64} {h : ea_H} {r : Int32} {h' : ea_H} (hd : 1 ≤ d) (K : qX10_dayOf y0 h = some (r, h')) : ea_Met mX10_dayOf d [vJ y0] h (some (vI r)) h' := by
  unfold qX10_dayOf at K
  have W := tBX10_dayOf_0 hd (h0 := h) K
  exact ea_enter rfl (Nat.le_of_ble_eq_true rfl) W
theorem kpX10_dayOf (y0 : Int64) (h : ea_H) : kp (ea_core h) (qX10_dayOf y0 h) := kBX10_dayOf_0
noncomputable def BX10_takenOf_0 (y0 : Int64) (h : ea_H) : Option (Int32 × ea_H) :=
  (some (((Int64.toInt32 (y0 >>> (Int32.toInt64 3 &&& 63))) &&& (7 : Int32)), h))
theorem tBX10_takenOf_0 {d : Nat} {h0 : ea_H} (hd : 1 ≤ d)  {y0 : Int64} {h : ea_H} {r : Int32} {h' : ea_H} (E : BX10_takenOf_0 y0 h = some (r, h')) : ea_W mX10_takenOf d h0 (some (vI r)) h' 0 [(0, vJ y0)] [] h := by
  unfold BX10_takenOf_0 at E
  refine ea_lload_n (pc := 0) dX10_takenOf_0 rfl 0 rfl ?_
  refine ea_iconst (pc := 1) dX10_takenOf_1 (v := 3) rfl ?_
  refine ea_lshr (pc := 2) dX10_takenOf_2 ?_
  refine ea_l2i (pc := 3) dX10_takenOf_3 ?_
  refine ea_bipush (pc := 4) dX10_takenOf_4 (v := 7) rfl ?_
  refine ea_iand (pc := 6) dX10_takenOf_6 ?_
  exact ea_iretO (pc := 7) dX10_takenOf_7 rfl rfl E
theorem kBX10_takenOf_0  {y0 : Int64} {h : ea_H} : kp (ea_core h) (BX10_takenOf_0 y0 h) :=
  (kp_ret rfl)
noncomputable def qX10_takenOf (y0 : Int64) (h : ea_H) : Option (Int32 × ea_H) := BX10_takenOf_0 y0 h
theorem sX10_takenOf {d : Nat} {y0 : Int64} {h : ea_H} {r : Int32} {h' : ea_H} (hd : 1 ≤ d) (K : qX10_takenOf y0 h = some (r, h')) : ea_Met mX10_takenOf d [vJ y0] h (some (vI r)) h' := by
  unfold qX10_takenOf at K
  have W := tBX10_takenOf_0 hd (h0 := h) K
  exact ea_enter rfl (Nat.le_of_ble_eq_true rfl) W
theorem kpX10_takenOf (y0 : Int64) (h : ea_H) : kp (ea_core h) (qX10_takenOf y0 h) := kBX10_takenOf_0
noncomputable def BX10_leftOf_0 (y0 : Int64) (h : ea_H) : Option (Int32 × ea_H) :=
  (some (((Int64.toInt32 y0) &&& (7 : Int32)), h))
theorem tBX10_leftOf_0 {d : Nat} {h0 : ea_H} (hd : 1 ≤ d)  {y0 : Int64} {h : ea_H} {r : Int32} {h' : ea_H} (E : BX10_leftOf_0 y0 h = some (r, h')) : ea_W mX10_leftOf d h0 (some (vI r)) h' 0 [(0, vJ y0)] [] h := by
  unfold BX10_leftOf_0 at E
  refine ea_lload_n (pc := 0) dX10_leftOf_0 rfl 0 rfl ?_
  refine ea_l2i (pc := 1) dX10_leftOf_1 ?_
  refine ea_bipush (pc := 2) dX10_leftOf_2 (v := 7) rfl ?_
  refine ea_iand (pc := 4) dX10_leftOf_4 ?_
  exact ea_iretO (pc := 5) dX10_leftOf_5 rfl rfl E
theorem kBX10_leftOf_0  {y0 : Int64} {h : ea_H} : kp (ea_core h) (BX10_leftOf_0 y0 h) :=
  (kp_ret rfl)
noncomputable def qX10_leftOf (y0 : Int64) (h : ea_H) : Option (Int32 × ea_H) := BX10_leftOf_0 y0 h
theorem sX10_leftOf {d : Nat} {y0 : Int64} {h : ea_H} {r : Int32} {h' : ea_H} (hd : 1 ≤ d) (K : qX10_leftOf y0 h = some (r, h')) : ea_Met mX10_leftOf d [vJ y0] h (some (vI r)) h' := by
  unfold qX10_leftOf at K
  have W := tBX10_leftOf_0 hd (h0 := h) K
  exact ea_enter rfl (Nat.le_of_ble_eq_true rfl) W
theorem kpX10_leftOf (y0 : Int64) (h : ea_H) : kp (ea_core h) (qX10_leftOf y0 h) := kBX10_leftOf_0
noncomputable def BX10_keyAt_0 (x1 : Int32) (h : ea_H) : Option (Int32 × ea_H) :=
  (if x1 < (0 : Int32) then (some ((0 : Int32), h)) else (if (ea_i h 13 1) ≤ x1 then (some ((0 : Int32), h)) else (gd (vp_in x1 980) (some ((ea_i h 14 (Int32.toNatClampNeg x1)), h)))))
theorem tBX10_keyAt_0 {d : Nat} {h0 : ea_H} (hd : 1 ≤ d)  {x1 : Int32} {h : ea_H} {r : Int32} {h' : ea_H} (E : BX10_keyAt_0 x1 h = some (r, h')) (hs : ShC h) : ea_W mX10_keyAt d h0 (some (vI r)) h' 0 [(0, vR (some 13)), (1, vI x1)] [] h := by
  unfold BX10_keyAt_0 at E
  refine ea_iload_n (pc := 0) dX10_keyAt_0 rfl 1 rfl ?_
  refine ea_if_lt (pc := 1) (tgt := 21) dX10_keyAt_1 rfl (fun c3 => ?_) (fun c3 => ?_)
  · have E := (if_pos c3).symm.trans E
    refine ea_iconst (pc := 21) dX10_keyAt_21 (v := 0) rfl ?_
    exact ea_iretO (pc := 22) dX10_keyAt_22 rfl rfl E
  · have E := (if_neg c3).symm.trans E
    refine ea_iload_n (pc := 4) dX10_keyAt_4 rfl 1 rfl ?_
    refine ea_aload_n (pc := 5) dX10_keyAt_5 rfl 0 rfl ?_
    refine ea_getI (pc := 6) dX10_keyAt_6 ec_10 (k := 1) (Nat.le_of_ble_eq_true rfl) rfl (Or.inl ew_235) (cShC_13 hs).1 (cShC_13 hs).2.1 ?_
    refine ea_icmp_ge (pc := 9) (tgt := 21) dX10_keyAt_9 rfl (fun c2 => ?_) (fun c2 => ?_)
    · have E := (if_pos c2).symm.trans E
      refine ea_iconst (pc := 21) dX10_keyAt_21 (v := 0) rfl ?_
      exact ea_iretO (pc := 22) dX10_keyAt_22 rfl rfl E
    · have E := (if_neg c2).symm.trans E
      obtain ⟨z1, E⟩ := gd_some E
      refine ea_aload_n (pc := 12) dX10_keyAt_12 rfl 0 rfl ?_
      refine ea_getR (pc := 13) dX10_keyAt_13 ec_10 (k := 3) (Nat.le_of_ble_eq_true rfl) rfl (Or.inl ew_238) (cShC_13 hs).1 (cShC_13 hs).2.1 (rShC_13_3 hs) ?_
      refine ea_iload_n (pc := 16) dX10_keyAt_16 rfl 1 rfl ?_
      refine ea_iald (pc := 17) dX10_keyAt_17 (cShC_14 hs).1 (cShC_14 hs).2.1 (ea_vpl (cShC_14 hs).2.2 z1) ?_
      refine ea_goto (pc := 18) (tgt := 22) dX10_keyAt_18 rfl ?_
      exact ea_iretO (pc := 22) dX10_keyAt_22 rfl rfl E
theorem kBX10_keyAt_0  {x1 : Int32} {h : ea_H} : kp (ea_core h) (BX10_keyAt_0 x1 h) :=
  (kp_ite (kp_ret rfl) (kp_ite (kp_ret rfl) (kp_gd (kp_ret rfl))))
noncomputable def qX10_keyAt (x1 : Int32) (h : ea_H) : Option (Int32 × ea_H) := BX10_keyAt_0 x1 h
theorem sX10_keyAt {d : Nat} {x1 : Int32} {h : ea_H} {r : Int32} {h' : ea_H} (hd : 1 ≤ d) (hs : ShC h) (K : qX10_keyAt x1 h = some (r, h')) : ea_Met mX10_keyAt d [vR (some 13), vI x1] h (some (vI r)) h' := by
  unfold qX10_keyAt at K
  have W := tBX10_keyAt_0 hd (h0 := h) K hs
  exact ea_enter rfl (Nat.le_of_ble_eq_true rfl) W
theorem kpX10_keyAt (x1 : Int32) (h : ea_H) : kp (ea_core h) (qX10_keyAt x1 h) := kBX10_keyAt_0
noncomputable def BX10_minuteIn_0 (x0 : Int32) (h : ea_H) : Option (Int32 × ea_H) :=
  (some ((x0 >>> ((11 : Int32) &&& 31)), h))
theorem tBX10_minuteIn_0 {d : Nat} {h0 : ea_H} (hd : 1 ≤ d)  {x0 : Int32} {h : ea_H} {r : Int32} {h' : ea_H} (E : BX10_minuteIn_0 x0 h = some (r, h')) : ea_W mX10_minuteIn d h0 (some (vI r)) h' 0 [(0, vI x0)] [] h := by
  unfold BX10_minuteIn_0 at E
  refine ea_iload_n (pc := 0) dX10_minuteIn_0 rfl 0 rfl ?_
  refine ea_bipush (pc := 1) dX10_minuteIn_1 (v := 11) rfl ?_
  refine ea_ishr (pc := 3) dX10_minuteIn_3 ?_
  exact ea_iretO (pc := 4) dX10_minuteIn_4 rfl rfl E
theorem kBX10_minuteIn_0  {x0 : Int32} {h : ea_H} : kp (ea_core h) (BX10_minuteIn_0 x0 h) :=
  (kp_ret rfl)
noncomputable def qX10_minuteIn (x0 : Int32) (h : ea_H) : Option (Int32 × ea_H) := BX10_minuteIn_0 x0 h
theorem sX10_minuteIn {d : Nat} {x0 : Int32} {h : ea_H} {r : Int32} {h' : ea_H} (hd : 1 ≤ d) (K : qX10_minuteIn x0 h = some (r, h')) : ea_Met mX10_minuteIn d [vI x0] h (some (vI r)) h' := by
  unfold qX10_minuteIn at K
  have W := tBX10_minuteIn_0 hd (h0 := h) K
  exact ea_enter rfl (Nat.le_of_ble_eq_true rfl) W
theorem kpX10_minuteIn (x0 : Int32) (h : ea_H) : kp (ea_core h) (qX10_minuteIn x0 h) := kBX10_minuteIn_0
noncomputable def BX10_isGoing_0 (x0 : Int32) (h : ea_H) : Option (Int32 × ea_H) :=
  (if (x0 &&& (1024 : Int32)) = (0 : Int32) then (some ((0 : Int32), h)) else (some ((1 : Int32), h)))
theorem tBX10_isGoing_0 {d : Nat} {h0 : ea_H} (hd : 1 ≤ d)  {x0 : Int32} {h : ea_H} {r : Int32} {h' : ea_H} (E : BX10_isGoing_0 x0 h = some (r, h')) : ea_W mX10_isGoing d h0 (some (vI r)) h' 0 [(0, vI x0)] [] h := by
  unfold BX10_isGoing_0 at E
  refine ea_iload_n (pc := 0) dX10_isGoing_0 rfl 0 rfl ?_
  refine ea_sipush (pc := 1) dX10_isGoing_1 (v := 1024) rfl ?_
  refine ea_iand (pc := 4) dX10_isGoing_4 ?_
  refine ea_if_eq (pc := 5) (tgt := 12) dX10_isGoing_5 rfl (fun c1 => ?_) (fun c1 => ?_)
  · have E := (if_pos c1).symm.trans E
    refine ea_iconst (pc := 12) dX10_isGoing_12 (v := 0) rfl ?_
    exact ea_iretO (pc := 13) dX10_isGoing_13 rfl (ea_bn (Or.inl rfl)) E
  · have E := (if_neg c1).symm.trans E
    refine ea_iconst (pc := 8) dX10_isGoing_8 (v := 1) rfl ?_
    refine ea_goto (pc := 9) (tgt := 13) dX10_isGoing_9 rfl ?_
    exact ea_iretO (pc := 13) dX10_isGoing_13 rfl (ea_bn (Or.inr rfl)) E
theorem kBX10_isGoing_0  {x0 : Int32} {h : ea_H} : kp (ea_core h) (BX10_isGoing_0 x0 h) :=
  (kp_ite (kp_ret rfl) (kp_ret rfl))
noncomputable def qX10_isGoing (x0 : Int32) (h : ea_H) : Option (Int32 × ea_H) := BX10_isGoing_0 x0 h
theorem sX10_isGoing {d : Nat} {x0 : Int32} {h : ea_H} {r : Int32} {h' : ea_H} (hd : 1 ≤ d) (K : qX10_isGoing x0 h = some (r, h')) : ea_Met mX10_isGoing d [vI x0] h (some (vI r)) h' := by
  unfold qX10_isGoing at K
  have W := tBX10_isGoing_0 hd (h0 := h) K
  exact ea_enter rfl (Nat.le_of_ble_eq_true rfl) W
theorem kpX10_isGoing (x0 : Int32) (h : ea_H) : kp (ea_core h) (qX10_isGoing x0 h) := kBX10_isGoing_0
noncomputable def BX10_trainIn_0 (x0 : Int32) (h : ea_H) : Option (Int32 × ea_H) :=
  (some (((x0 >>> ((6 : Int32) &&& 31)) &&& (15 : Int32)), h))
theorem tBX10_trainIn_0 {d : Nat} {h0 : ea_H} (hd : 1 ≤ d)  {x0 : Int32} {h : ea_H} {r : Int32} {h' : ea_H} (E : BX10_trainIn_0 x0 h = some (r, h')) : ea_W mX10_trainIn d h0 (some (vI r)) h' 0 [(0, vI x0)] [] h := by
  unfold BX10_trainIn_0 at E
  refine ea_iload_n (pc := 0) dX10_trainIn_0 rfl 0 rfl ?_
  refine ea_bipush (pc := 1) dX10_trainIn_1 (v := 6) rfl ?_
  refine ea_ishr (pc := 3) dX10_trainIn_3 ?_
  refine ea_bipush (pc := 4) dX10_trainIn_4 (v := 15) rfl ?_
  refine ea_iand (pc := 6) dX10_trainIn_6 ?_
  exact ea_iretO (pc := 7) dX10_trainIn_7 rfl rfl E
theorem kBX10_trainIn_0  {x0 : Int32} {h : ea_H} : kp (ea_core h) (BX10_trainIn_0 x0 h) :=
  (kp_ret rfl)
noncomputable def qX10_trainIn (x0 : Int32) (h : ea_H) : Option (Int32 × ea_H) := BX10_trainIn_0 x0 h
theorem sX10_trainIn {d : Nat} {x0 : Int32} {h : ea_H} {r : Int32} {h' : ea_H} (hd : 1 ≤ d) (K : qX10_trainIn x0 h = some (r, h')) : ea_Met mX10_trainIn d [vI x0] h (some (vI r)) h' := by
  unfold qX10_trainIn at K
  have W := tBX10_trainIn_0 hd (h0 := h) K
  exact ea_enter rfl (Nat.le_of_ble_eq_true rfl) W
theorem kpX10_trainIn (x0 : Int32) (h : ea_H) : kp (ea_core h) (qX10_trainIn x0 h) := kBX10_trainIn_0
noncomputable def BX10_dayIn_0 (x0 : Int32) (h : ea_H) : Option (Int32 × ea_H) :=
  (some (((x0 >>> ((3 : Int32) &&& 31)) &&& (7 : Int32)), h))
theorem tBX10_dayIn_0 {d : Nat} {h0 : ea_H} (hd : 1 ≤ d)  {x0 : Int32} {h : ea_H} {r : Int32} {h' : ea_H} (E : BX10_dayIn_0 x0 h = some (r, h')) : ea_W mX10_dayIn d h0 (some (vI r)) h' 0 [(0, vI x0)] [] h := by
  unfold BX10_dayIn_0 at E
  refine ea_iload_n (pc := 0) dX10_dayIn_0 rfl 0 rfl ?_
  refine ea_iconst (pc := 1) dX10_dayIn_1 (v := 3) rfl ?_
  refine ea_ishr (pc := 2) dX10_dayIn_2 ?_
  refine ea_bipush (pc := 3) dX10_dayIn_3 (v := 7) rfl ?_
  refine ea_iand (pc := 5) dX10_dayIn_5 ?_
  exact ea_iretO (pc := 6) dX10_dayIn_6 rfl rfl E
theorem kBX10_dayIn_0  {x0 : Int32} {h : ea_H} : kp (ea_core h) (BX10_dayIn_0 x0 h) :=
  (kp_ret rfl)
noncomputable def qX10_dayIn (x0 : Int32) (h : ea_H) : Option (Int32 × ea_H) := BX10_dayIn_0 x0 h
theorem sX10_dayIn {d : Nat} {x0 : Int32} {h : ea_H} {r : Int32} {h' : ea_H} (hd : 1 ≤ d) (K : qX10_dayIn x0 h = some (r, h')) : ea_Met mX10_dayIn d [vI x0] h (some (vI r)) h' := by
  unfold qX10_dayIn at K
  have W := tBX10_dayIn_0 hd (h0 := h) K
  exact ea_enter rfl (Nat.le_of_ble_eq_true rfl) W
theorem kpX10_dayIn (x0 : Int32) (h : ea_H) : kp (ea_core h) (qX10_dayIn x0 h) := kBX10_dayIn_0
noncomputable def BX10_stopIn_0 (x0 : Int32) (h : ea_H) : Option (Int32 × ea_H) :=
  (some ((x0 &&& (7 : Int32)), h))
theorem tBX10_stopIn_0 {d : Nat} {h0 : ea_H} (hd : 1 ≤ d)  {x0 : Int32} {h : ea_H} {r : Int32} {h' : ea_H} (E : BX10_stopIn_0 x0 h = some (r, h')) : ea_W mX10_stopIn d h0 (some (vI r)) h' 0 [(0, vI x0)] [] h := by
  unfold BX10_stopIn_0 at E
  refine ea_iload_n (pc := 0) dX10_stopIn_0 rfl 0 rfl ?_
  refine ea_bipush (pc := 1) dX10_stopIn_1 (v := 7) rfl ?_
  refine ea_iand (pc := 3) dX10_stopIn_3 ?_
  exact ea_iretO (pc := 4) dX10_stopIn_4 rfl rfl E
theorem kBX10_stopIn_0  {x0 : Int32} {h : ea_H} : kp (ea_core h) (BX10_stopIn_0 x0 h) :=
  (kp_ret rfl)
noncomputable def qX10_stopIn (x0 : Int32) (h : ea_H) : Option (Int32 × ea_H) := BX10_stopIn_0 x0 h
theorem sX10_stopIn {d : Nat} {x0 : Int32} {h : ea_H} {r : Int32} {h' : ea_H} (hd : 1 ≤ d) (K : qX10_stopIn x0 h = some (r, h')) : ea_Met mX10_stopIn d [vI x0] h (some (vI r)) h' := by
  unfold qX10_stopIn at K
  have W := tBX10_stopIn_0 hd (h0 := h) K
  exact ea_enter rfl (Nat.le_of_ble_eq_true rfl) W
theorem kpX10_stopIn (x0 : Int32) (h : ea_H) : kp (ea_core h) (qX10_stopIn x0 h) := kBX10_stopIn_0
noncomputable def BX10_townIn_0 (x1 : Int32) (h : ea_H) : Option (Int32 × ea_H) :=
  (Option.bind (qX10_trainIn (x1 : Int32) h) fun w1 => (Option.bind (qX10_stopIn (x1 : Int32) w1.2) fun w2 => (gd (vp_in (((8 : Int32) * w1.1) + w2.1) 80) (some ((ea_i w2.2 7 (Int32.toNatClampNeg (((8 : Int32) * w1.1) + w2.1))), w2.2)))))
theorem tBX10_townIn_0 {d : Nat} {h0 : ea_H} (hd : 2 ≤ d)  {x1 : Int32} {h : ea_H} {r : Int32} {h' : ea_H} (E : BX10_townIn_0 x1 h = some (r, h')) (hs : ShC h) : ea_W mX10_townIn d h0 (some (vI r)) h' 0 [(0, vR (some 13)), (1, vI x1)] [] h := by
  unfold BX10_townIn_0 at E
  obtain ⟨w1, Ew1, E⟩ := bd_some E
  have hsw1 : ShC w1.2 := ShC_core ((kpX10_trainIn _ _) _ Ew1) hs
  refine ea_aload_n (pc := 0) dX10_townIn_0 rfl 0 rfl ?_
  refine ea_getR (pc := 1) dX10_townIn_1 ec_10 (k := 2) (Nat.le_of_ble_eq_true rfl) rfl (Or.inl ew_237) (cShC_13 hs).1 (cShC_13 hs).2.1 (rShC_13_2 hs) ?_
  refine ea_getR (pc := 4) dX10_townIn_4 ec_9 (k := 2) (Nat.le_of_ble_eq_true rfl) rfl (Or.inl ew_195) (cShC_5 hs).1 (cShC_5 hs).2.1 (rShC_5_2 hs) ?_
  refine ea_bipush (pc := 7) dX10_townIn_7 (v := 8) rfl ?_
  refine ea_iload_n (pc := 9) dX10_townIn_9 rfl 1 rfl ?_
  refine ea_callS (pc := 10) (d' := d - 1) (As := [vI x1]) (st := [vI 8, vR (some 7)]) dX10_townIn_10 kX10_trainIn (sX10_trainIn (d := d - 1) (by omega) Ew1) (by omega) rfl (Nat.le_of_ble_eq_true rfl) ew_785 ew_786 ?_
  obtain ⟨w2, Ew2, E⟩ := bd_some E
  have hsw2 : ShC w2.2 := ShC_core ((kpX10_stopIn _ _) _ Ew2) hsw1
  refine ea_imul (pc := 13) dX10_townIn_13 ?_
  refine ea_iload_n (pc := 14) dX10_townIn_14 rfl 1 rfl ?_
  refine ea_callS (pc := 15) (d' := d - 1) (As := [vI x1]) (st := [vI ((8 : Int32) * w1.1), vR (some 7)]) dX10_townIn_15 kX10_stopIn (sX10_stopIn (d := d - 1) (by omega) Ew2) (by omega) rfl (Nat.le_of_ble_eq_true rfl) ew_788 ew_789 ?_
  obtain ⟨z3, E⟩ := gd_some E
  refine ea_iadd (pc := 18) dX10_townIn_18 ?_
  refine ea_iald (pc := 19) dX10_townIn_19 (cShC_7 hsw2).1 (cShC_7 hsw2).2.1 (ea_vpl (cShC_7 hsw2).2.2 z3) ?_
  exact ea_iretO (pc := 20) dX10_townIn_20 rfl rfl E
theorem kBX10_townIn_0  {x1 : Int32} {h : ea_H} : kp (ea_core h) (BX10_townIn_0 x1 h) :=
  (kp_bind (kp_tw (kpX10_trainIn _ _) rfl) fun w1 hcw1 => (kp_bind (kp_tw (kpX10_stopIn _ _) hcw1) fun w2 hcw2 => (kp_gd (kp_ret hcw2))))
noncomputable def qX10_townIn (x1 : Int32) (h : ea_H) : Option (Int32 × ea_H) := BX10_townIn_0 x1 h
theorem sX10_townIn {d : Nat} {x1 : Int32} {h : ea_H} {r : Int32} {h' : ea_H} (hd : 2 ≤ d) (hs : ShC h) (K : qX10_townIn x1 h = some (r, h')) : ea_Met mX10_townIn d [vR (some 13), vI x1] h (some (vI r)) h' := by
  unfold qX10_townIn at K
  have W := tBX10_townIn_0 hd (h0 := h) K hs
  exact ea_enter rfl (Nat.le_of_ble_eq_true rfl) W
theorem kpX10_townIn (x1 : Int32) (h : ea_H) : kp (ea_core h) (qX10_townIn x1 h) := kBX10_townIn_0
noncomputable def BX10_slotIn_0 (x0 : Int32) (h : ea_H) : Option (Int32 × ea_H) :=
  (some ((((8 : Int32) * (((10 : Int32) * ((x0 >>> ((3 : Int32) &&& 31)) &&& (7 : Int32))) + ((x0 >>> ((6 : Int32) &&& 31)) &&& (15 : Int32)))) + (x0 &&& (7 : Int32))), h))
theorem tBX10_slotIn_0 {d : Nat} {h0 : ea_H} (hd : 1 ≤ d)  {x0 : Int32} {h : ea_H} {r : Int32} {h' : ea_H} (E : BX10_slotIn_0 x0 h = some (r, h')) : ea_W mX10_slotIn d h0 (some (vI r)) h' 0 [(0, vI x0)] [] h := by
  unfold BX10_slotIn_0 at E
  refine ea_bipush (pc := 0) dX10_slotIn_0 (v := 8) rfl ?_
  refine ea_bipush (pc := 2) dX10_slotIn_2 (v := 10) rfl ?_
  refine ea_iload_n (pc := 4) dX10_slotIn_4 rfl 0 rfl ?_
  refine ea_iconst (pc := 5) dX10_slotIn_5 (v := 3) rfl ?_
  refine ea_ishr (pc := 6) dX10_slotIn_6 ?_
  refine ea_bipush (pc := 7) dX10_slotIn_7 (v := 7) rfl ?_
  refine ea_iand (pc := 9) dX10_slotIn_9 ?_
  refine ea_imul (pc := 10) dX10_slotIn_10 ?_
  refine ea_iload_n (pc := 11) dX10_slotIn_11 rfl 0 rfl ?_
  refine ea_bipush (pc := 12) dX10_slotIn_12 (v := 6) rfl ?_
  refine ea_ishr (pc := 14) dX10_slotIn_14 ?_
  refine ea_bipush (pc := 15) dX10_slotIn_15 (v := 15) rfl ?_
  refine ea_iand (pc := 17) dX10_slotIn_17 ?_
  refine ea_iadd (pc := 18) dX10_slotIn_18 ?_
  refine ea_imul (pc := 19) dX10_slotIn_19 ?_
  refine ea_iload_n (pc := 20) dX10_slotIn_20 rfl 0 rfl ?_
  refine ea_bipush (pc := 21) dX10_slotIn_21 (v := 7) rfl ?_
  refine ea_iand (pc := 23) dX10_slotIn_23 ?_
  refine ea_iadd (pc := 24) dX10_slotIn_24 ?_
  exact ea_iretO (pc := 25) dX10_slotIn_25 rfl rfl E
theorem kBX10_slotIn_0  {x0 : Int32} {h : ea_H} : kp (ea_core h) (BX10_slotIn_0 x0 h) :=
  (kp_ret rfl)
noncomputable def qX10_slotIn (x0 : Int32) (h : ea_H) : Option (Int32 × ea_H) := BX10_slotIn_0 x0 h
theorem sX10_slotIn {d : Nat} {x0 : Int32} {h : ea_H} {r : Int32} {h' : ea_H} (hd : 1 ≤ d) (K : qX10_slotIn x0 h = some (r, h')) : ea_Met mX10_slotIn d [vI x0] h (some (vI r)) h' := by
  unfold qX10_slotIn at K
  have W := tBX10_slotIn_0 hd (h0 := h) K
  exact ea_enter rfl (Nat.le_of_ble_eq_true rfl) W
theorem kpX10_slotIn (x0 : Int32) (h : ea_H) : kp (ea_core h) (qX10_slotIn x0 h) := kBX10_slotIn_0
noncomputable def BX10_leftBehind_0 (x1 : Int32) (x2 : Int32) (h : ea_H) : Option (Int32 × ea_H) :=
  (Option.bind (qX10_slotIn (x1 : Int32) h) fun w1 => (gd (vp_in w1.1 560) (some (((Int64.toInt32 ((ea_j w1.2 15 (Int32.toNatClampNeg w1.1)) >>> (Int32.toInt64 ((3 : Int32) * x2) &&& 63))) &&& (7 : Int32)), w1.2))))
theorem tBX10_leftBehind_0 {d : Nat} {h0 : ea_H} (hd : 2 ≤ d)  {x1 : Int32} {x2 : Int32} {h : ea_H} {r : Int32} {h' : ea_H} (E : BX10_leftBehind_0 x1 x2 h = some (r, h')) (hs : ShC h) : ea_W mX10_leftBehind d h0 (some (vI r)) h' 0 [(0, vR (some 13)), (1, vI x1), (2, vI x2)] [] h := by
  unfold BX10_leftBehind_0 at E
  obtain ⟨w1, Ew1, E⟩ := bd_some E
  have hsw1 : ShC w1.2 := ShC_core ((kpX10_slotIn _ _) _ Ew1) hs
  refine ea_aload_n (pc := 0) dX10_leftBehind_0 rfl 0 rfl ?_
  refine ea_getR (pc := 1) dX10_leftBehind_1 ec_10 (k := 4) (Nat.le_of_ble_eq_true rfl) rfl (Or.inl ew_239) (cShC_13 hs).1 (cShC_13 hs).2.1 (rShC_13_4 hs) ?_
  refine ea_iload_n (pc := 4) dX10_leftBehind_4 rfl 1 rfl ?_
  refine ea_callS (pc := 5) (d' := d - 1) (As := [vI x1]) (st := [vR (some 15)]) dX10_leftBehind_5 kX10_slotIn (sX10_slotIn (d := d - 1) (by omega) Ew1) (by omega) rfl (Nat.le_of_ble_eq_true rfl) ew_795 ew_796 ?_
  obtain ⟨z2, E⟩ := gd_some E
  refine ea_lald (pc := 8) dX10_leftBehind_8 (cShC_15 hsw1).1 (cShC_15 hsw1).2.1 (ea_vpl (cShC_15 hsw1).2.2 z2) ?_
  refine ea_iconst (pc := 9) dX10_leftBehind_9 (v := 3) rfl ?_
  refine ea_iload_n (pc := 10) dX10_leftBehind_10 rfl 2 rfl ?_
  refine ea_imul (pc := 11) dX10_leftBehind_11 ?_
  refine ea_lshr (pc := 12) dX10_leftBehind_12 ?_
  refine ea_l2i (pc := 13) dX10_leftBehind_13 ?_
  refine ea_bipush (pc := 14) dX10_leftBehind_14 (v := 7) rfl ?_
  refine ea_iand (pc := 16) dX10_leftBehind_16 ?_
  exact ea_iretO (pc := 17) dX10_leftBehind_17 rfl rfl E
theorem kBX10_leftBehind_0  {x1 : Int32} {x2 : Int32} {h : ea_H} : kp (ea_core h) (BX10_leftBehind_0 x1 x2 h) :=
  (kp_bind (kp_tw (kpX10_slotIn _ _) rfl) fun w1 hcw1 => (kp_gd (kp_ret hcw1)))
noncomputable def qX10_leftBehind (x1 : Int32) (x2 : Int32) (h : ea_H) : Option (Int32 × ea_H) := BX10_leftBehind_0 x1 x2 h
theorem sX10_leftBehind {d : Nat} {x1 : Int32} {x2 : Int32} {h : ea_H} {r : Int32} {h' : ea_H} (hd : 2 ≤ d) (hs : ShC h) (K : qX10_leftBehind x1 x2 h = some (r, h')) : ea_Met mX10_leftBehind d [vR (some 13), vI x1, vI x2] h (some (vI r)) h' := by
  unfold qX10_leftBehind at K
  have W := tBX10_leftBehind_0 hd (h0 := h) K hs
  exact ea_enter rfl (Nat.le_of_ble_eq_true rfl) W
theorem kpX10_leftBehind (x1 : Int32) (x2 : Int32) (h : ea_H) : kp (ea_core h) (qX10_leftBehind x1 x2 h) := kBX10_leftBehind_0
noncomputable def BX10_firstTaken_0 (J3 : Int32 → Int32 → Int32 → Int32 → ea_H → Option (Int32 × ea_H)) (x1 : Int32) (x2 : Int32) (x3 : Int32) (h : ea_H) : Option (Int32 × ea_H) :=
  (J3 (x1 : Int32) (x2 : Int32) (x3 : Int32) (0 : Int32) h)
theorem tBX10_firstTaken_0 {d : Nat} {h0 : ea_H} (hd : 3 ≤ d) {J3 : Int32 → Int32 → Int32 → Int32 → ea_H → Option (Int32 × ea_H)}  (kJ3 : ∀ (x1 : Int32) (x2 : Int32) (x3 : Int32) (x4 : Int32) (h : ea_H) (r : Int32) (h' : ea_H), J3 x1 x2 x3 x4 h = some (r, h') → ShC h → ea_W mX10_firstTaken d h0 (some (vI r)) h' 3 [(0, vR (some 13)), (1, vI x1), (2, vI x2), (3, vI x3), (4, vI x4)] [] h) {x1 : Int32} {x2 : Int32} {x3 : Int32} {h : ea_H} {r : Int32} {h' : ea_H} (E : BX10_firstTaken_0 J3 x1 x2 x3 h = some (r, h')) (hs : ShC h) : ea_W mX10_firstTaken d h0 (some (vI r)) h' 0 [(0, vR (some 13)), (1, vI x1), (2, vI x2), (3, vI x3)] [] h := by
  unfold BX10_firstTaken_0 at E
  refine ea_iconst (pc := 0) dX10_firstTaken_0 (v := 0) rfl ?_
  refine ea_istore (pc := 1) (lv' := [(0, vR (some 13)), (1, vI x1), (2, vI x2), (3, vI x3), (4, vI 0)]) dX10_firstTaken_1 (Nat.le_of_ble_eq_true rfl) [1, 2, 3, 4, 0] rfl ?_
  exact (kJ3 (x1 : Int32) (x2 : Int32) (x3 : Int32) (0 : Int32) h _ _ E hs)
theorem kBX10_firstTaken_0 {J3 : Int32 → Int32 → Int32 → Int32 → ea_H → Option (Int32 × ea_H)}  (cJ3 : ∀ (x1 : Int32) (x2 : Int32) (x3 : Int32) (x4 : Int32) (h : ea_H), kp (ea_core h) (J3 x1 x2 x3 x4 h)) {x1 : Int32} {x2 : Int32} {x3 : Int32} {h : ea_H} : kp (ea_core h) (BX10_firstTaken_0 J3 x1 x2 x3 h) :=
  (kp_tw (cJ3 _ _ _ _ _) rfl)
theorem lBX10_firstTaken_0 {J3 : Int32 → Int32 → Int32 → Int32 → ea_H → Option (Int32 × ea_H)} {J3_ : Int32 → Int32 → Int32 → Int32 → ea_H → Option (Int32 × ea_H)}  (mJ3 : ∀ (x1 : Int32) (x2 : Int32) (x3 : Int32) (x4 : Int32) (h : ea_H), fle (J3 x1 x2 x3 x4 h) (J3_ x1 x2 x3 x4 h)) {x1 : Int32} {x2 : Int32} {x3 : Int32} {h : ea_H} : fle (BX10_firstTaken_0 J3 x1 x2 x3 h) (BX10_firstTaken_0 J3_ x1 x2 x3 h) :=
  (mJ3 _ _ _ _ _)
theorem nBX10_firstTaken_0 {J3 : Int32 → Int32 → Int32 → Int32 → ea_H → Option (Int32 × ea_H)} {J3_ : Nat → (Int32 → Int32 → Int32 → Int32 → ea_H → Option (Int32 × ea_H))}  (mJ3 : ∀ (x1 : Int32) (x2 : Int32) (x3 : Int32) (x4 : Int32) (h : ea_H), fct (J3 x1 x2 x3 x4 h) (fun f => J3_ f x1 x2 x3 x4 h)) {x1 : Int32} {x2 : Int32} {x3 : Int32} {h : ea_H} : fct (BX10_firstTaken_0 J3 x1 x2 x3 h) (fun f => BX10_firstTaken_0 (J3_ f) x1 x2 x3 h) :=
  (mJ3 _ _ _ _ _)
noncomputable def BX10_firstTaken_3 (J3 : Int32 → Int32 → Int32 → Int32 → ea_H → Option (Int32 × ea_H)) (x1 : Int32) (x2 : Int32) (x3 : Int32) (x4 : Int32) (h : ea_H) : Option (Int32 × ea_H) :=
  (if (ea_i h 13 1) ≤ x4 then (some (((-1) : Int32), h)) else (gd (vp_in x4 980) (ea_let (ea_i h 14 (Int32.toNatClampNeg x4)) fun (v2 : Int32) => (Option.bind (qX10_isGoing (v2 : Int32) h) fun w3 => (if w3.1 = (0 : Int32) then (J3 (x1 : Int32) (x2 : Int32) (x3 : Int32) ((x4 + (1 : Int32)) : Int32) w3.2) else (Option.bind (qX10_minuteIn (v2 : Int32) w3.2) fun w4 => (if w4.1 < x2 then (J3 (x1 : Int32) (x2 : Int32) (x3 : Int32) ((x4 + (1 : Int32)) : Int32) w4.2) else (Option.bind (qX10_townIn (v2 : Int32) w4.2) fun w5 => (if w5.1 = x1 then (Option.bind (qX10_leftBehind (v2 : Int32) (x3 : Int32) w5.2) fun w6 => (if w6.1 ≤ (0 : Int32) then (J3 (x1 : Int32) (x2 : Int32) (x3 : Int32) ((x4 + (1 : Int32)) : Int32) w6.2) else (some (v2, w6.2)))) else (J3 (x1 : Int32) (x2 : Int32) (x3 : Int32) ((x4 + (1 : Int32)) : Int32) w5.2))))))))))
theorem tBX10_firstTaken_3 {d : Nat} {h0 : ea_H} (hd : 3 ≤ d) {J3 : Int32 → Int32 → Int32 → Int32 → ea_H → Option (Int32 × ea_H)}  (kJ3 : ∀ (x1 : Int32) (x2 : Int32) (x3 : Int32) (x4 : Int32) (h : ea_H) (r : Int32) (h' : ea_H), J3 x1 x2 x3 x4 h = some (r, h') → ShC h → ea_W mX10_firstTaken d h0 (some (vI r)) h' 3 [(0, vR (some 13)), (1, vI x1), (2, vI x2), (3, vI x3), (4, vI x4)] [] h) {x1 : Int32} {x2 : Int32} {x3 : Int32} {x4 : Int32} {h : ea_H} {r : Int32} {h' : ea_H} (E : BX10_firstTaken_3 J3 x1 x2 x3 x4 h = some (r, h')) (hs : ShC h) : ea_W mX10_firstTaken d h0 (some (vI r)) h' 3 [(0, vR (some 13)), (1, vI x1), (2, vI x2), (3, vI x3), (4, vI x4)] [] h := by
  unfold BX10_firstTaken_3 at E
  refine ea_iload (pc := 3) dX10_firstTaken_3 4 rfl ?_
  refine ea_aload_n (pc := 5) dX10_firstTaken_5 rfl 0 rfl ?_
  refine ea_getI (pc := 6) dX10_firstTaken_6 ec_10 (k := 1) (Nat.le_of_ble_eq_true rfl) rfl (Or.inl ew_235) (cShC_13 hs).1 (cShC_13 hs).2.1 ?_
  refine ea_icmp_ge (pc := 9) (tgt := 67) dX10_firstTaken_9 rfl (fun c11 => ?_) (fun c11 => ?_)
  · have E := (if_pos c11).symm.trans E
    refine ea_iconst (pc := 67) dX10_firstTaken_67 (v := (-1)) rfl ?_
    exact ea_iretO (pc := 68) dX10_firstTaken_68 rfl rfl E
  · have E := (if_neg c11).symm.trans E
    obtain ⟨z1, E⟩ := gd_some E
    refine ea_aload_n (pc := 12) dX10_firstTaken_12 rfl 0 rfl ?_
    refine ea_getR (pc := 13) dX10_firstTaken_13 ec_10 (k := 3) (Nat.le_of_ble_eq_true rfl) rfl (Or.inl ew_238) (cShC_13 hs).1 (cShC_13 hs).2.1 (rShC_13_3 hs) ?_
    refine ea_iload (pc := 16) dX10_firstTaken_16 4 rfl ?_
    obtain ⟨v2, ev2, E⟩ := let_some E
    refine ea_iald (pc := 18) dX10_firstTaken_18 (cShC_14 hs).1 (cShC_14 hs).2.1 (ea_vpl (cShC_14 hs).2.2 z1) ?_
    obtain ⟨w3, Ew3, E⟩ := bd_some E
    have hsw3 : ShC w3.2 := ShC_core ((kpX10_isGoing _ _) _ Ew3) hs
    refine ea_istore (pc := 19) (lv' := [(0, vR (some 13)), (1, vI x1), (2, vI x2), (3, vI x3), (4, vI x4), (5, vI v2)]) dX10_firstTaken_19 (Nat.le_of_ble_eq_true rfl) [1, 2, 3, 4, 5, 0] (by rw [ev2]; rfl) ?_
    refine ea_iload (pc := 21) dX10_firstTaken_21 5 rfl ?_
    refine ea_callS (pc := 23) (d' := d - 1) (As := [vI v2]) (st := []) dX10_firstTaken_23 kX10_isGoing (sX10_isGoing (d := d - 1) (by omega) Ew3) (by omega) rfl (Nat.le_of_ble_eq_true rfl) ew_778 ew_779 ?_
    refine ea_if_eq (pc := 26) (tgt := 61) dX10_firstTaken_26 rfl (fun c10 => ?_) (fun c10 => ?_)
    · have E := (if_pos c10).symm.trans E
      refine ea_iinc (pc := 61) (v := 1) (lv' := [(0, vR (some 13)), (1, vI x1), (2, vI x2), (3, vI x3), (4, vI (x4 + (1 : Int32)))]) dX10_firstTaken_61 4 rfl rfl (Nat.le_of_ble_eq_true rfl) [1, 2, 3, 4, 0] rfl ?_
      refine ea_goto (pc := 64) (tgt := 3) dX10_firstTaken_64 rfl ?_
      exact (kJ3 (x1 : Int32) (x2 : Int32) (x3 : Int32) ((x4 + (1 : Int32)) : Int32) w3.2 _ _ E hsw3)
    · have E := (if_neg c10).symm.trans E
      obtain ⟨w4, Ew4, E⟩ := bd_some E
      have hsw4 : ShC w4.2 := ShC_core ((kpX10_minuteIn _ _) _ Ew4) hsw3
      refine ea_iload (pc := 29) dX10_firstTaken_29 5 rfl ?_
      refine ea_callS (pc := 31) (d' := d - 1) (As := [vI v2]) (st := []) dX10_firstTaken_31 kX10_minuteIn (sX10_minuteIn (d := d - 1) (by omega) Ew4) (by omega) rfl (Nat.le_of_ble_eq_true rfl) ew_811 ew_812 ?_
      refine ea_iload_n (pc := 34) dX10_firstTaken_34 rfl 2 rfl ?_
      refine ea_icmp_lt (pc := 35) (tgt := 61) dX10_firstTaken_35 rfl (fun c9 => ?_) (fun c9 => ?_)
      · have E := (if_pos c9).symm.trans E
        refine ea_iinc (pc := 61) (v := 1) (lv' := [(0, vR (some 13)), (1, vI x1), (2, vI x2), (3, vI x3), (4, vI (x4 + (1 : Int32)))]) dX10_firstTaken_61 4 rfl rfl (Nat.le_of_ble_eq_true rfl) [1, 2, 3, 4, 0] rfl ?_
        refine ea_goto (pc := 64) (tgt := 3) dX10_firstTaken_64 rfl ?_
        exact (kJ3 (x1 : Int32) (x2 : Int32) (x3 : Int32) ((x4 + (1 : Int32)) : Int32) w4.2 _ _ E hsw4)
      · have E := (if_neg c9).symm.trans E
        obtain ⟨w5, Ew5, E⟩ := bd_some E
        have hsw5 : ShC w5.2 := ShC_core ((kpX10_townIn _ _) _ Ew5) hsw4
        refine ea_aload_n (pc := 38) dX10_firstTaken_38 rfl 0 rfl ?_
        refine ea_iload (pc := 39) dX10_firstTaken_39 5 rfl ?_
        refine ea_callV (pc := 41) (d' := d - 1) (As := [vI v2]) (st := []) dX10_firstTaken_41 kX10_townIn (sX10_townIn (d := d - 1) (by omega) hsw4 Ew5) (by omega) rfl (Nat.le_of_ble_eq_true rfl) ew_781 ew_783 ew_7 (ci := 10) rfl (by decide) (cShC_13 hsw4).1 (cShC_13 hsw4).2.1 ?_
        refine ea_iload_n (pc := 44) dX10_firstTaken_44 rfl 1 rfl ?_
        refine ea_icmp_ne (pc := 45) (tgt := 61) dX10_firstTaken_45 rfl (fun c8 => ?_) (fun c8 => ?_)
        · have E := (if_neg c8).symm.trans E
          refine ea_iinc (pc := 61) (v := 1) (lv' := [(0, vR (some 13)), (1, vI x1), (2, vI x2), (3, vI x3), (4, vI (x4 + (1 : Int32)))]) dX10_firstTaken_61 4 rfl rfl (Nat.le_of_ble_eq_true rfl) [1, 2, 3, 4, 0] rfl ?_
          refine ea_goto (pc := 64) (tgt := 3) dX10_firstTaken_64 rfl ?_
          exact (kJ3 (x1 : Int32) (x2 : Int32) (x3 : Int32) ((x4 + (1 : Int32)) : Int32) w5.2 _ _ E hsw5)
        · have E := (if_pos c8).symm.trans E
          obtain ⟨w6, Ew6, E⟩ := bd_some E
          have hsw6 : ShC w6.2 := ShC_core ((kpX10_leftBehind _ _ _) _ Ew6) hsw5
          refine ea_aload_n (pc := 48) dX10_firstTaken_48 rfl 0 rfl ?_
          refine ea_iload (pc := 49) dX10_firstTaken_49 5 rfl ?_
          refine ea_iload_n (pc := 51) dX10_firstTaken_51 rfl 3 rfl ?_
          refine ea_callV (pc := 52) (d' := d - 1) (As := [vI v2, vI x3]) (st := []) dX10_firstTaken_52 kX10_leftBehind (sX10_leftBehind (d := d - 1) (by omega) hsw5 Ew6) (by omega) rfl (Nat.le_of_ble_eq_true rfl) ew_1155 ew_872 ew_873 (ci := 10) rfl (by decide) (cShC_13 hsw5).1 (cShC_13 hsw5).2.1 ?_
          refine ea_if_le (pc := 55) (tgt := 61) dX10_firstTaken_55 rfl (fun c7 => ?_) (fun c7 => ?_)
          · have E := (if_pos c7).symm.trans E
            refine ea_iinc (pc := 61) (v := 1) (lv' := [(0, vR (some 13)), (1, vI x1), (2, vI x2), (3, vI x3), (4, vI (x4 + (1 : Int32)))]) dX10_firstTaken_61 4 rfl rfl (Nat.le_of_ble_eq_true rfl) [1, 2, 3, 4, 0] rfl ?_
            refine ea_goto (pc := 64) (tgt := 3) dX10_firstTaken_64 rfl ?_
            exact (kJ3 (x1 : Int32) (x2 : Int32) (x3 : Int32) ((x4 + (1 : Int32)) : Int32) w6.2 _ _ E hsw6)
          · have E := (if_neg c7).symm.trans E
            refine ea_iload (pc := 58) dX10_firstTaken_58 5 rfl ?_
            exact ea_iretO (pc := 60) dX10_firstTaken_60 rfl rfl E
theorem kBX10_firstTaken_3 {J3 : Int32 → Int32 → Int32 → Int32 → ea_H → Option (Int32 × ea_H)}  (cJ3 : ∀ (x1 : Int32) (x2 : Int32) (x3 : Int32) (x4 : Int32) (h : ea_H), kp (ea_core h) (J3 x1 x2 x3 x4 h)) {x1 : Int32} {x2 : Int32} {x3 : Int32} {x4 : Int32} {h : ea_H} : kp (ea_core h) (BX10_firstTaken_3 J3 x1 x2 x3 x4 h) :=
  (kp_ite (kp_ret rfl) (kp_gd (kp_let (kp_bind (kp_tw (kpX10_isGoing _ _) rfl) fun w3 hcw3 => (kp_ite (kp_tw (cJ3 _ _ _ _ _) hcw3) (kp_bind (kp_tw (kpX10_minuteIn _ _) hcw3) fun w4 hcw4 => (kp_ite (kp_tw (cJ3 _ _ _ _ _) hcw4) (kp_bind (kp_tw (kpX10_townIn _ _) hcw4) fun w5 hcw5 => (kp_ite (kp_bind (kp_tw (kpX10_leftBehind _ _ _) hcw5) fun w6 hcw6 => (kp_ite (kp_tw (cJ3 _ _ _ _ _) hcw6) (kp_ret hcw6))) (kp_tw (cJ3 _ _ _ _ _) hcw5))))))))))
theorem lBX10_firstTaken_3 {J3 : Int32 → Int32 → Int32 → Int32 → ea_H → Option (Int32 × ea_H)} {J3_ : Int32 → Int32 → Int32 → Int32 → ea_H → Option (Int32 × ea_H)}  (mJ3 : ∀ (x1 : Int32) (x2 : Int32) (x3 : Int32) (x4 : Int32) (h : ea_H), fle (J3 x1 x2 x3 x4 h) (J3_ x1 x2 x3 x4 h)) {x1 : Int32} {x2 : Int32} {x3 : Int32} {x4 : Int32} {h : ea_H} : fle (BX10_firstTaken_3 J3 x1 x2 x3 x4 h) (BX10_firstTaken_3 J3_ x1 x2 x3 x4 h) :=
  (fle_ite (fle_rfl _) (fle_gd (fle_let fun _ => (fle_bind (fle_rfl _) fun _ => (fle_ite (mJ3 _ _ _ _ _) (fle_bind (fle_rfl _) fun _ => (fle_ite (mJ3 _ _ _ _ _) (fle_bind (fle_rfl _) fun _ => (fle_ite (fle_bind (fle_rfl _) fun _ => (fle_ite (mJ3 _ _ _ _ _) (fle_rfl _))) (mJ3 _ _ _ _ _))))))))))
theorem nBX10_firstTaken_3 {J3 : Int32 → Int32 → Int32 → Int32 → ea_H → Option (Int32 × ea_H)} {J3_ : Nat → (Int32 → Int32 → Int32 → Int32 → ea_H → Option (Int32 × ea_H))}  (mJ3 : ∀ (x1 : Int32) (x2 : Int32) (x3 : Int32) (x4 : Int32) (h : ea_H), fct (J3 x1 x2 x3 x4 h) (fun f => J3_ f x1 x2 x3 x4 h)) {x1 : Int32} {x2 : Int32} {x3 : Int32} {x4 : Int32} {h : ea_H} : fct (BX10_firstTaken_3 J3 x1 x2 x3 x4 h) (fun f => BX10_firstTaken_3 (J3_ f) x1 x2 x3 x4 h) :=
  (fct_ite (fct_rfl _) (fct_gd (fct_let fun _ => (fct_bind (fct_rfl _) fun _ => (fct_ite (mJ3 _ _ _ _ _) (fct_bind (fct_rfl _) fun _ => (fct_ite (mJ3 _ _ _ _ _) (fct_bind (fct_rfl _) fun _ => (fct_ite (fct_bind (fct_rfl _) fun _ => (fct_ite (mJ3 _ _ _ _ _) (fct_rfl _))) (mJ3 _ _ _ _ _))))))))))
noncomputable def gX10_firstTaken : Nat → (Int32 → Int32 → Int32 → ea_H → Option (Int32 × ea_H)) × (Int32 → Int32 → Int32 → Int32 → ea_H → Option (Int32 × ea_H))
  | 0 => (fun _ _ _ _ => none, fun _ _ _ _ _ => none)
  | f + 1 => (BX10_firstTaken_0 (gX10_firstTaken f).2, BX10_firstTaken_3 (gX10_firstTaken f).2)
theorem mgX10_firstTaken : ∀ f : Nat, (∀ (x1 : Int32) (x2 : Int32) (x3 : Int32) (h : ea_H), fle ((gX10_firstTaken f).1 x1 x2 x3 h) ((gX10_firstTaken (f + 1)).1 x1 x2 x3 h)) ∧ (∀ (x1 : Int32) (x2 : Int32) (x3 : Int32) (x4 : Int32) (h : ea_H), fle ((gX10_firstTaken f).2 x1 x2 x3 x4 h) ((gX10_firstTaken (f + 1)).2 x1 x2 x3 x4 h)) := by
  intro f
  induction f with
  | zero => exact ⟨fun _ _ _ _ => fle_none _, fun _ _ _ _ _ => fle_none _⟩
  | succ f ih => exact ⟨fun _ _ _ _ => lBX10_firstTaken_0 ih.2, fun _ _ _ _ _ => lBX10_firstTaken_3 ih.2⟩
noncomputable def qX10_firstTaken_0 (x1 : Int32) (x2 : Int32) (x3 : Int32) (h : ea_H) : Option (Int32 × ea_H) := flim fun f => (gX10_firstTaken f).1 x1 x2 x3 h
noncomputable def qX10_firstTaken_3 (x1 : Int32) (x2 : Int32) (x3 : Int32) (x4 : Int32) (h : ea_H) : Option (Int32 × ea_H) := flim fun f => (gX10_firstTaken f).2 x1 x2 x3 x4 h
theorem fqX10_firstTaken_0 (x1 : Int32) (x2 : Int32) (x3 : Int32) (h : ea_H) : fct (qX10_firstTaken_0 x1 x2 x3 h) fun f => (gX10_firstTaken f).1 x1 x2 x3 h := flim_ct fun f => (mgX10_firstTaken f).1 x1 x2 x3 h
theorem fqX10_firstTaken_3 (x1 : Int32) (x2 : Int32) (x3 : Int32) (x4 : Int32) (h : ea_H) : fct (qX10_firstTaken_3 x1 x2 x3 x4 h) fun f => (gX10_firstTaken f).2 x1 x2 x3 x4 h := flim_ct fun f => (mgX10_firstTaken f).2 x1 x2 x3 x4 h
/-- how a block opens -/
theorem uqX10_firstTaken_0 {x1 : Int32} {x2 : Int32} {x3 : Int32} {h : ea_H} {P : Int32 × ea_H → Prop} (H : sat (BX10_firstTaken_0 qX10_firstTaken_3 x1 x2 x3 h) P) : sat (qX10_firstTaken_0 x1 x2 x3 h) P := by
  obtain ⟨x, e, hp⟩ := H
  obtain ⟨n, hn⟩ := nBX10_firstTaken_0 fqX10_firstTaken_3 x e
  exact ⟨x, flim_at (fun f => (mgX10_firstTaken f).1 x1 x2 x3 h) (f := n + 1) (hn n (Nat.le_refl _)), hp⟩
/-- how a block opens -/
theorem uqX10_firstTaken_3 {x1 : Int32} {x2 : Int32} {x3 : Int32} {x4 : Int32} {h : ea_H} {P : Int32 × ea_H → Prop} (H : sat (BX10_firstTaken_3 qX10_firstTaken_3 x1 x2 x3 x4 h) P) : sat (qX10_firstTaken_3 x1 x2 x3 x4 h) P := by
  obtain ⟨x, e, hp⟩ := H
  obtain ⟨n, hn⟩ := nBX10_firstTaken_3 fqX10_firstTaken_3 x e
  exact ⟨x, flim_at (fun f => (mgX10_firstTaken f).2 x1 x2 x3 x4 h) (f := n + 1) (hn n (Nat.le_refl _)), hp⟩
theorem kgX10_firstTaken : ∀ f : Nat, (∀ (x1 : Int32) (x2 : Int32) (x3 : Int32) (h : ea_H), kp (ea_core h) ((gX10_firstTaken f).1 x1 x2 x3 h)) ∧ (∀ (x1 : Int32) (x2 : Int32) (x3 : Int32) (x4 : Int32) (h : ea_H), kp (ea_core h) ((gX10_firstTaken f).2 x1 x2 x3 x4 h)) := by
  intro f
  induction f with
  | zero => exact ⟨fun _ _ _ _ => kp_none _, fun _ _ _ _ _ => kp_none _⟩
  | succ f ih => exact ⟨fun _ _ _ _ => kBX10_firstTaken_0 ih.2, fun _ _ _ _ _ => kBX10_firstTaken_3 ih.2⟩
theorem tgX10_firstTaken {d : Nat} {h0 : ea_H} (hd : 3 ≤ d) : ∀ f : Nat, (∀ (x1 : Int32) (x2 : Int32) (x3 : Int32) (h : ea_H) (r : Int32) (h' : ea_H), (gX10_firstTaken f).1 x1 x2 x3 h = some (r, h') → ShC h → ea_W mX10_firstTaken d h0 (some (vI r)) h' 0 [(0, vR (some 13)), (1, vI x1), (2, vI x2), (3, vI x3)] [] h) ∧ (∀ (x1 : Int32) (x2 : Int32) (x3 : Int32) (x4 : Int32) (h : ea_H) (r : Int32) (h' : ea_H), (gX10_firstTaken f).2 x1 x2 x3 x4 h = some (r, h') → ShC h → ea_W mX10_firstTaken d h0 (some (vI r)) h' 3 [(0, vR (some 13)), (1, vI x1), (2, vI x2), (3, vI x3), (4, vI x4)] [] h) := by
  intro f
  induction f with
  | zero => exact ⟨fun _ _ _ _ _ _ E => no_some E, fun _ _ _ _ _ _ _ E => no_some E⟩
  | succ f ih => exact ⟨fun _ _ _ _ _ _ E hs => tBX10_firstTaken_0 hd ih.2 E hs, fun _ _ _ _ _ _ _ E hs => tBX10_firstTaken_3 hd ih.2 E hs⟩
noncomputable def qX10_firstTaken (x1 : Int32) (x2 : Int32) (x3 : Int32) (h : ea_H) : Option (Int32 × ea_H) := qX10_firstTaken_0 x1 x2 x3 h
theorem sX10_firstTaken {d : Nat} {x1 : Int32} {x2 : Int32} {x3 : Int32} {h : ea_H} {r : Int32} {h' : ea_H} (hd : 3 ≤ d) (hs : ShC h) (K : qX10_firstTaken x1 x2 x3 h = some (r, h')) : ea_Met mX10_firstTaken d [vR (some 13), vI x1, vI x2, vI x3] h (some (vI r)) h' := by
  unfold qX10_firstTaken at K
  obtain ⟨n, hn⟩ := fqX10_firstTaken_0 x1 x2 x3 h _ K
  have W := (tgX10_firstTaken (d := d) (h0 := h) hd n).1 x1 x2 x3 h _ _ (hn n (Nat.le_refl _)) hs
  exact ea_enter rfl (Nat.le_of_ble_eq_true rfl) W
theorem kpX10_firstTaken (x1 : Int32) (x2 : Int32) (x3 : Int32) (h : ea_H) : kp (ea_core h) (qX10_firstTaken x1 x2 x3 h) := fun x e => by
  obtain ⟨n, hn⟩ := fqX10_firstTaken_0 x1 x2 x3 h x e
  exact (kgX10_firstTaken n).1 x1 x2 x3 h x (hn n (Nat.le_refl _))
noncomputable def BX10_legOf_0 (x0 : Int32) (h : ea_H) : Option (Int32 × ea_H) :=
  (Option.bind (qX10_trainIn (x0 : Int32) h) fun w1 => (Option.bind (qX10_dayIn (x0 : Int32) w1.2) fun w2 => (some (((w1.1 <<< ((9 : Int32) &&& 31)) ||| (w2.1 <<< ((6 : Int32) &&& 31))), w2.2))))
theorem tBX10_legOf_0 {d : Nat} {h0 : ea_H} (hd : 2 ≤ d)  {x0 : Int32} {h : ea_H} {r : Int32} {h' : ea_H} (E : BX10_legOf_0 x0 h = some (r, h')) : ea_W mX10_legOf d h0 (some (vI r)) h' 0 [(0, vI x0)] [] h := by
  unfold BX10_legOf_0 at E
  obtain ⟨w1, Ew1, E⟩ := bd_some E
  refine ea_iload_n (pc := 0) dX10_legOf_0 rfl 0 rfl ?_
  refine ea_callS (pc := 1) (d' := d - 1) (As := [vI x0]) (st := []) dX10_legOf_1 kX10_trainIn (sX10_trainIn (d := d - 1) (by omega) Ew1) (by omega) rfl (Nat.le_of_ble_eq_true rfl) ew_785 ew_786 ?_
  obtain ⟨w2, Ew2, E⟩ := bd_some E
  refine ea_bipush (pc := 4) dX10_legOf_4 (v := 9) rfl ?_
  refine ea_ishl (pc := 6) dX10_legOf_6 ?_
  refine ea_iload_n (pc := 7) dX10_legOf_7 rfl 0 rfl ?_
  refine ea_callS (pc := 8) (d' := d - 1) (As := [vI x0]) (st := [vI (w1.1 <<< ((9 : Int32) &&& 31))]) dX10_legOf_8 kX10_dayIn (sX10_dayIn (d := d - 1) (by omega) Ew2) (by omega) rfl (Nat.le_of_ble_eq_true rfl) ew_826 ew_827 ?_
  refine ea_bipush (pc := 11) dX10_legOf_11 (v := 6) rfl ?_
  refine ea_ishl (pc := 13) dX10_legOf_13 ?_
  refine ea_ior (pc := 14) dX10_legOf_14 ?_
  exact ea_iretO (pc := 15) dX10_legOf_15 rfl rfl E
theorem kBX10_legOf_0  {x0 : Int32} {h : ea_H} : kp (ea_core h) (BX10_legOf_0 x0 h) :=
  (kp_bind (kp_tw (kpX10_trainIn _ _) rfl) fun w1 hcw1 => (kp_bind (kp_tw (kpX10_dayIn _ _) hcw1) fun w2 hcw2 => (kp_ret hcw2)))
noncomputable def qX10_legOf (x0 : Int32) (h : ea_H) : Option (Int32 × ea_H) := BX10_legOf_0 x0 h
theorem sX10_legOf {d : Nat} {x0 : Int32} {h : ea_H} {r : Int32} {h' : ea_H} (hd : 2 ≤ d) (K : qX10_legOf x0 h = some (r, h')) : ea_Met mX10_legOf d [vI x0] h (some (vI r)) h' := by
  unfold qX10_legOf at K
  have W := tBX10_legOf_0 hd (h0 := h) K
  exact ea_enter rfl (Nat.le_of_ble_eq_true rfl) W
theorem kpX10_legOf (x0 : Int32) (h : ea_H) : kp (ea_core h) (qX10_legOf x0 h) := kBX10_legOf_0
noncomputable def BX10_addKey_0 (x1 : Int32) (x2 : Int32) (h : ea_H) : Option (Unit × ea_H) :=
  (if (10079 : Int32) < x1 then (some ((), h)) else (if (980 : Int32) ≤ (ea_i h 13 1) then (some ((), h)) else (gd (vp_in (ea_i h 13 1) 980) (ea_let (ea_wi h 14 (Int32.toNatClampNeg (ea_i h 13 1)) ((x1 <<< ((11 : Int32) &&& 31)) ||| x2)) fun H2 => (ea_let (ea_wi H2 13 1 ((ea_i H2 13 1) + (1 : Int32))) fun H3 => (some ((), H3)))))))
theorem tBX10_addKey_0 {d : Nat} {h0 : ea_H} (hd : 1 ≤ d)  {x1 : Int32} {x2 : Int32} {h : ea_H} {r : Unit} {h' : ea_H} (E : BX10_addKey_0 x1 x2 h = some (r, h')) (hs : ShC h) : ea_W mX10_addKey d h0 none h' 0 [(0, vR (some 13)), (1, vI x1), (2, vI x2)] [] h := by
  unfold BX10_addKey_0 at E
  refine ea_iload_n (pc := 0) dX10_addKey_0 rfl 1 rfl ?_
  refine ea_sipush (pc := 1) dX10_addKey_1 (v := 10079) rfl ?_
  refine ea_icmp_gt (pc := 4) (tgt := 42) dX10_addKey_4 rfl (fun c5 => ?_) (fun c5 => ?_)
  · have E := (if_pos c5).symm.trans E
    exact ea_vretO (pc := 42) dX10_addKey_42 rfl E
  · have E := (if_neg c5).symm.trans E
    refine ea_aload_n (pc := 7) dX10_addKey_7 rfl 0 rfl ?_
    refine ea_getI (pc := 8) dX10_addKey_8 ec_10 (k := 1) (Nat.le_of_ble_eq_true rfl) rfl (Or.inl ew_235) (cShC_13 hs).1 (cShC_13 hs).2.1 ?_
    refine ea_sipush (pc := 11) dX10_addKey_11 (v := 980) rfl ?_
    refine ea_icmp_ge (pc := 14) (tgt := 42) dX10_addKey_14 rfl (fun c4 => ?_) (fun c4 => ?_)
    · have E := (if_pos c4).symm.trans E
      exact ea_vretO (pc := 42) dX10_addKey_42 rfl E
    · have E := (if_neg c4).symm.trans E
      obtain ⟨z1, E⟩ := gd_some E
      refine ea_aload_n (pc := 17) dX10_addKey_17 rfl 0 rfl ?_
      refine ea_getR (pc := 18) dX10_addKey_18 ec_10 (k := 3) (Nat.le_of_ble_eq_true rfl) rfl (Or.inl ew_238) (cShC_13 hs).1 (cShC_13 hs).2.1 (rShC_13_3 hs) ?_
      refine ea_aload_n (pc := 21) dX10_addKey_21 rfl 0 rfl ?_
      refine ea_getI (pc := 22) dX10_addKey_22 ec_10 (k := 1) (Nat.le_of_ble_eq_true rfl) rfl (Or.inl ew_235) (cShC_13 hs).1 (cShC_13 hs).2.1 ?_
      refine ea_iload_n (pc := 25) dX10_addKey_25 rfl 1 rfl ?_
      refine ea_bipush (pc := 26) dX10_addKey_26 (v := 11) rfl ?_
      refine ea_ishl (pc := 28) dX10_addKey_28 ?_
      refine ea_iload_n (pc := 29) dX10_addKey_29 rfl 2 rfl ?_
      refine ea_ior (pc := 30) dX10_addKey_30 ?_
      obtain ⟨H2, eH2, E⟩ := let_some E
      refine ea_iast (pc := 31) dX10_addKey_31 (cShC_14 hs).1 (cShC_14 hs).2.1 (ea_vpl (cShC_14 hs).2.2 z1) ?_
      refine ea_nm eH2 ?_
      have hsH2 : ShC H2 := by rw [eH2]; exact hs
      obtain ⟨H3, eH3, E⟩ := let_some E
      refine ea_aload_n (pc := 32) dX10_addKey_32 rfl 0 rfl ?_
      refine ea_dup (pc := 33) dX10_addKey_33 rfl ?_
      refine ea_getI (pc := 34) dX10_addKey_34 ec_10 (k := 1) (Nat.le_of_ble_eq_true rfl) rfl (Or.inl ew_235) (cShC_13 hsH2).1 (cShC_13 hsH2).2.1 ?_
      refine ea_iconst (pc := 37) dX10_addKey_37 (v := 1) rfl ?_
      refine ea_iadd (pc := 38) dX10_addKey_38 ?_
      refine ea_putI (pc := 39) dX10_addKey_39 ec_10 (k := 1) (Nat.le_of_ble_eq_true rfl) rfl (Or.inl ⟨rfl, Or.inl ew_235⟩) rfl rfl (cShC_13 hsH2).1 (cShC_13 hsH2).2.1 ?_
      refine ea_nm eH3 ?_
      have hsH3 : ShC H3 := by rw [eH3]; exact hsH2
      exact ea_vretO (pc := 42) dX10_addKey_42 rfl E
theorem kBX10_addKey_0  {x1 : Int32} {x2 : Int32} {h : ea_H} : kp (ea_core h) (BX10_addKey_0 x1 x2 h) :=
  (kp_ite (kp_ret rfl) (kp_ite (kp_ret rfl) (kp_gd (kp_let (kp_let (kp_ret rfl))))))
noncomputable def qX10_addKey (x1 : Int32) (x2 : Int32) (h : ea_H) : Option (Unit × ea_H) := BX10_addKey_0 x1 x2 h
theorem sX10_addKey {d : Nat} {x1 : Int32} {x2 : Int32} {h : ea_H} {r : Unit} {h' : ea_H} (hd : 1 ≤ d) (hs : ShC h) (K : qX10_addKey x1 x2 h = some (r, h')) : ea_Met mX10_addKey d [vR (some 13), vI x1, vI x2] h none h' := by
  unfold qX10_addKey at K
  have W := tBX10_addKey_0 hd (h0 := h) K hs
  exact ea_enter rfl (Nat.le_of_ble_eq_true rfl) W
theorem kpX10_addKey (x1 : Int32) (x2 : Int32) (h : ea_H) : kp (ea_core h) (qX10_addKey x1 x2 h) := kBX10_addKey_0
noncomputable def BX10_sortKeys_0 (J4 : Int32 → ea_H → Option (Unit × ea_H)) (h : ea_H) : Option (Unit × ea_H) :=
  (J4 (364 : Int32) h)
theorem tBX10_sortKeys_0 {d : Nat} {h0 : ea_H} (hd : 1 ≤ d) {J4 : Int32 → ea_H → Option (Unit × ea_H)}  (kJ4 : ∀ (x1 : Int32) (h : ea_H) (r : Unit) (h' : ea_H), J4 x1 h = some (r, h') → ShC h → ea_W mX10_sortKeys d h0 none h' 4 [(0, vR (some 13)), (1, vI x1)] [] h) {h : ea_H} {r : Unit} {h' : ea_H} (E : BX10_sortKeys_0 J4 h = some (r, h')) (hs : ShC h) : ea_W mX10_sortKeys d h0 none h' 0 [(0, vR (some 13))] [] h := by
  unfold BX10_sortKeys_0 at E
  refine ea_sipush (pc := 0) dX10_sortKeys_0 (v := 364) rfl ?_
  refine ea_istore_n (pc := 3) (lv' := [(0, vR (some 13)), (1, vI 364)]) dX10_sortKeys_3 rfl (Nat.le_of_ble_eq_true rfl) [1, 0] rfl ?_
  exact (kJ4 (364 : Int32) h _ _ E hs)
theorem kBX10_sortKeys_0 {J4 : Int32 → ea_H → Option (Unit × ea_H)}  (cJ4 : ∀ (x1 : Int32) (h : ea_H), kp (ea_core h) (J4 x1 h)) {h : ea_H} : kp (ea_core h) (BX10_sortKeys_0 J4 h) :=
  (kp_tw (cJ4 _ _) rfl)
theorem lBX10_sortKeys_0 {J4 : Int32 → ea_H → Option (Unit × ea_H)} {J4_ : Int32 → ea_H → Option (Unit × ea_H)}  (mJ4 : ∀ (x1 : Int32) (h : ea_H), fle (J4 x1 h) (J4_ x1 h)) {h : ea_H} : fle (BX10_sortKeys_0 J4 h) (BX10_sortKeys_0 J4_ h) :=
  (mJ4 _ _)
theorem nBX10_sortKeys_0 {J4 : Int32 → ea_H → Option (Unit × ea_H)} {J4_ : Nat → (Int32 → ea_H → Option (Unit × ea_H))}  (mJ4 : ∀ (x1 : Int32) (h : ea_H), fct (J4 x1 h) (fun f => J4_ f x1 h)) {h : ea_H} : fct (BX10_sortKeys_0 J4 h) (fun f => BX10_sortKeys_0 (J4_ f) h) :=
  (mJ4 _ _)
noncomputable def BX10_sortKeys_4 (J10 : Int32 → Int32 → ea_H → Option (Unit × ea_H)) (x1 : Int32) (h : ea_H) : Option (Unit × ea_H) :=
  (if x1 ≤ (0 : Int32) then (some ((), h)) else (J10 (x1 : Int32) (x1 : Int32) h))
theorem tBX10_sortKeys_4 {d : Nat} {h0 : ea_H} (hd : 1 ≤ d) {J10 : Int32 → Int32 → ea_H → Option (Unit × ea_H)}  (kJ10 : ∀ (x1 : Int32) (x2 : Int32) (h : ea_H) (r : Unit) (h' : ea_H), J10 x1 x2 h = some (r, h') → ShC h → ea_W mX10_sortKeys d h0 none h' 10 [(0, vR (some 13)), (1, vI x1), (2, vI x2)] [] h) {x1 : Int32} {h : ea_H} {r : Unit} {h' : ea_H} (E : BX10_sortKeys_4 J10 x1 h = some (r, h')) (hs : ShC h) : ea_W mX10_sortKeys d h0 none h' 4 [(0, vR (some 13)), (1, vI x1)] [] h := by
  unfold BX10_sortKeys_4 at E
  refine ea_iload_n (pc := 4) dX10_sortKeys_4 rfl 1 rfl ?_
  refine ea_if_le (pc := 5) (tgt := 93) dX10_sortKeys_5 rfl (fun c1 => ?_) (fun c1 => ?_)
  · have E := (if_pos c1).symm.trans E
    exact ea_vretO (pc := 93) dX10_sortKeys_93 rfl E
  · have E := (if_neg c1).symm.trans E
    refine ea_iload_n (pc := 8) dX10_sortKeys_8 rfl 1 rfl ?_
    refine ea_istore_n (pc := 9) (lv' := [(0, vR (some 13)), (1, vI x1), (2, vI x1)]) dX10_sortKeys_9 rfl (Nat.le_of_ble_eq_true rfl) [1, 2, 0] rfl ?_
    exact (kJ10 (x1 : Int32) (x1 : Int32) h _ _ E hs)
theorem kBX10_sortKeys_4 {J10 : Int32 → Int32 → ea_H → Option (Unit × ea_H)}  (cJ10 : ∀ (x1 : Int32) (x2 : Int32) (h : ea_H), kp (ea_core h) (J10 x1 x2 h)) {x1 : Int32} {h : ea_H} : kp (ea_core h) (BX10_sortKeys_4 J10 x1 h) :=
  (kp_ite (kp_ret rfl) (kp_tw (cJ10 _ _ _) rfl))
theorem lBX10_sortKeys_4 {J10 : Int32 → Int32 → ea_H → Option (Unit × ea_H)} {J10_ : Int32 → Int32 → ea_H → Option (Unit × ea_H)}  (mJ10 : ∀ (x1 : Int32) (x2 : Int32) (h : ea_H), fle (J10 x1 x2 h) (J10_ x1 x2 h)) {x1 : Int32} {h : ea_H} : fle (BX10_sortKeys_4 J10 x1 h) (BX10_sortKeys_4 J10_ x1 h) :=
  (fle_ite (fle_rfl _) (mJ10 _ _ _))
theorem nBX10_sortKeys_4 {J10 : Int32 → Int32 → ea_H → Option (Unit × ea_H)} {J10_ : Nat → (Int32 → Int32 → ea_H → Option (Unit × ea_H))}  (mJ10 : ∀ (x1 : Int32) (x2 : Int32) (h : ea_H), fct (J10 x1 x2 h) (fun f => J10_ f x1 x2 h)) {x1 : Int32} {h : ea_H} : fct (BX10_sortKeys_4 J10 x1 h) (fun f => BX10_sortKeys_4 (J10_ f) x1 h) :=
  (fct_ite (fct_rfl _) (mJ10 _ _ _))
noncomputable def BX10_sortKeys_10 (J4 : Int32 → ea_H → Option (Unit × ea_H)) (J28 : Int32 → Int32 → Int32 → Int32 → ea_H → Option (Unit × ea_H)) (x1 : Int32) (x2 : Int32) (h : ea_H) : Option (Unit × ea_H) :=
  (if (ea_i h 13 1) ≤ x2 then (ea_let (x1 / (3 : Int32)) fun (v2 : Int32) => (J4 (v2 : Int32) h)) else (gd (vp_in x2 980) (ea_let (ea_i h 14 (Int32.toNatClampNeg x2)) fun (v4 : Int32) => (J28 (x1 : Int32) (x2 : Int32) (v4 : Int32) (x2 : Int32) h))))
theorem tBX10_sortKeys_10 {d : Nat} {h0 : ea_H} (hd : 1 ≤ d) {J4 : Int32 → ea_H → Option (Unit × ea_H)} {J28 : Int32 → Int32 → Int32 → Int32 → ea_H → Option (Unit × ea_H)}  (kJ4 : ∀ (x1 : Int32) (h : ea_H) (r : Unit) (h' : ea_H), J4 x1 h = some (r, h') → ShC h → ea_W mX10_sortKeys d h0 none h' 4 [(0, vR (some 13)), (1, vI x1)] [] h) (kJ28 : ∀ (x1 : Int32) (x2 : Int32) (x3 : Int32) (x4 : Int32) (h : ea_H) (r : Unit) (h' : ea_H), J28 x1 x2 x3 x4 h = some (r, h') → ShC h → ea_W mX10_sortKeys d h0 none h' 28 [(0, vR (some 13)), (1, vI x1), (2, vI x2), (3, vI x3), (4, vI x4)] [] h) {x1 : Int32} {x2 : Int32} {h : ea_H} {r : Unit} {h' : ea_H} (E : BX10_sortKeys_10 J4 J28 x1 x2 h = some (r, h')) (hs : ShC h) : ea_W mX10_sortKeys d h0 none h' 10 [(0, vR (some 13)), (1, vI x1), (2, vI x2)] [] h := by
  unfold BX10_sortKeys_10 at E
  refine ea_iload_n (pc := 10) dX10_sortKeys_10 rfl 2 rfl ?_
  refine ea_aload_n (pc := 11) dX10_sortKeys_11 rfl 0 rfl ?_
  refine ea_getI (pc := 12) dX10_sortKeys_12 ec_10 (k := 1) (Nat.le_of_ble_eq_true rfl) rfl (Or.inl ew_235) (cShC_13 hs).1 (cShC_13 hs).2.1 ?_
  refine ea_icmp_ge (pc := 15) (tgt := 86) dX10_sortKeys_15 rfl (fun c5 => ?_) (fun c5 => ?_)
  · have E := (if_pos c5).symm.trans E
    obtain ⟨v2, ev2, E⟩ := let_some E
    refine ea_iload_n (pc := 86) dX10_sortKeys_86 rfl 1 rfl ?_
    refine ea_iconst (pc := 87) dX10_sortKeys_87 (v := 3) rfl ?_
    refine ea_idiv (pc := 88) dX10_sortKeys_88 (by decide) ?_
    refine ea_istore_n (pc := 89) (lv' := [(0, vR (some 13)), (1, vI v2)]) dX10_sortKeys_89 rfl (Nat.le_of_ble_eq_true rfl) [1, 0] (by rw [ev2]; rfl) ?_
    refine ea_goto (pc := 90) (tgt := 4) dX10_sortKeys_90 rfl ?_
    exact (kJ4 (v2 : Int32) h _ _ E hs)
  · have E := (if_neg c5).symm.trans E
    obtain ⟨z3, E⟩ := gd_some E
    refine ea_aload_n (pc := 18) dX10_sortKeys_18 rfl 0 rfl ?_
    refine ea_getR (pc := 19) dX10_sortKeys_19 ec_10 (k := 3) (Nat.le_of_ble_eq_true rfl) rfl (Or.inl ew_238) (cShC_13 hs).1 (cShC_13 hs).2.1 (rShC_13_3 hs) ?_
    refine ea_iload_n (pc := 22) dX10_sortKeys_22 rfl 2 rfl ?_
    obtain ⟨v4, ev4, E⟩ := let_some E
    refine ea_iald (pc := 23) dX10_sortKeys_23 (cShC_14 hs).1 (cShC_14 hs).2.1 (ea_vpl (cShC_14 hs).2.2 z3) ?_
    refine ea_istore_n (pc := 24) (lv' := [(0, vR (some 13)), (1, vI x1), (2, vI x2), (3, vI v4)]) dX10_sortKeys_24 rfl (Nat.le_of_ble_eq_true rfl) [1, 2, 3, 0] (by rw [ev4]; rfl) ?_
    refine ea_iload_n (pc := 25) dX10_sortKeys_25 rfl 2 rfl ?_
    refine ea_istore (pc := 26) (lv' := [(0, vR (some 13)), (1, vI x1), (2, vI x2), (3, vI v4), (4, vI x2)]) dX10_sortKeys_26 (Nat.le_of_ble_eq_true rfl) [1, 2, 3, 4, 0] rfl ?_
    exact (kJ28 (x1 : Int32) (x2 : Int32) (v4 : Int32) (x2 : Int32) h _ _ E hs)
theorem kBX10_sortKeys_10 {J4 : Int32 → ea_H → Option (Unit × ea_H)} {J28 : Int32 → Int32 → Int32 → Int32 → ea_H → Option (Unit × ea_H)}  (cJ4 : ∀ (x1 : Int32) (h : ea_H), kp (ea_core h) (J4 x1 h)) (cJ28 : ∀ (x1 : Int32) (x2 : Int32) (x3 : Int32) (x4 : Int32) (h : ea_H), kp (ea_core h) (J28 x1 x2 x3 x4 h)) {x1 : Int32} {x2 : Int32} {h : ea_H} : kp (ea_core h) (BX10_sortKeys_10 J4 J28 x1 x2 h) :=
  (kp_ite (kp_let (kp_tw (cJ4 _ _) rfl)) (kp_gd (kp_let (kp_tw (cJ28 _ _ _ _ _) rfl))))
theorem lBX10_sortKeys_10 {J4 : Int32 → ea_H → Option (Unit × ea_H)} {J28 : Int32 → Int32 → Int32 → Int32 → ea_H → Option (Unit × ea_H)} {J4_ : Int32 → ea_H → Option (Unit × ea_H)} {J28_ : Int32 → Int32 → Int32 → Int32 → ea_H → Option (Unit × ea_H)}  (mJ4 : ∀ (x1 : Int32) (h : ea_H), fle (J4 x1 h) (J4_ x1 h)) (mJ28 : ∀ (x1 : Int32) (x2 : Int32) (x3 : Int32) (x4 : Int32) (h : ea_H), fle (J28 x1 x2 x3 x4 h) (J28_ x1 x2 x3 x4 h)) {x1 : Int32} {x2 : Int32} {h : ea_H} : fle (BX10_sortKeys_10 J4 J28 x1 x2 h) (BX10_sortKeys_10 J4_ J28_ x1 x2 h) :=
  (fle_ite (fle_let fun _ => (mJ4 _ _)) (fle_gd (fle_let fun _ => (mJ28 _ _ _ _ _))))
theorem nBX10_sortKeys_10 {J4 : Int32 → ea_H → Option (Unit × ea_H)} {J28 : Int32 → Int32 → Int32 → Int32 → ea_H → Option (Unit × ea_H)} {J4_ : Nat → (Int32 → ea_H → Option (Unit × ea_H))} {J28_ : Nat → (Int32 → Int32 → Int32 → Int32 → ea_H → Option (Unit × ea_H))}  (mJ4 : ∀ (x1 : Int32) (h : ea_H), fct (J4 x1 h) (fun f => J4_ f x1 h)) (mJ28 : ∀ (x1 : Int32) (x2 : Int32) (x3 : Int32) (x4 : Int32) (h : ea_H), fct (J28 x1 x2 x3 x4 h) (fun f => J28_ f x1 x2 x3 x4 h)) {x1 : Int32} {x2 : Int32} {h : ea_H} : fct (BX10_sortKeys_10 J4 J28 x1 x2 h) (fun f => BX10_sortKeys_10 (J4_ f) (J28_ f) x1 x2 h) :=
  (fct_ite (fct_let fun _ => (mJ4 _ _)) (fct_gd (fct_let fun _ => (mJ28 _ _ _ _ _))))
noncomputable def BX10_sortKeys_28 (J10 : Int32 → Int32 → ea_H → Option (Unit × ea_H)) (J28 : Int32 → Int32 → Int32 → Int32 → ea_H → Option (Unit × ea_H)) (x1 : Int32) (x2 : Int32) (x3 : Int32) (x4 : Int32) (h : ea_H) : Option (Unit × ea_H) :=
  (if x4 < x1 then (gd (vp_in x4 980) (ea_let (ea_wi h 14 (Int32.toNatClampNeg x4) x3) fun H7 => (J10 (x1 : Int32) ((x2 + (1 : Int32)) : Int32) H7))) else (gd (vp_in (x4 - x1) 980) (if (ea_i h 14 (Int32.toNatClampNeg (x4 - x1))) ≤ x3 then (gd (vp_in x4 980) (ea_let (ea_wi h 14 (Int32.toNatClampNeg x4) x3) fun H10 => (J10 (x1 : Int32) ((x2 + (1 : Int32)) : Int32) H10))) else (gd (vp_in (x4 - x1) 980) (gd (vp_in x4 980) (ea_let (ea_wi h 14 (Int32.toNatClampNeg x4) (ea_i h 14 (Int32.toNatClampNeg (x4 - x1)))) fun H13 => (J28 (x1 : Int32) (x2 : Int32) (x3 : Int32) ((x4 - x1) : Int32) H13)))))))
theorem tBX10_sortKeys_28 {d : Nat} {h0 : ea_H} (hd : 1 ≤ d) {J10 : Int32 → Int32 → ea_H → Option (Unit × ea_H)} {J28 : Int32 → Int32 → Int32 → Int32 → ea_H → Option (Unit × ea_H)}  (kJ10 : ∀ (x1 : Int32) (x2 : Int32) (h : ea_H) (r : Unit) (h' : ea_H), J10 x1 x2 h = some (r, h') → ShC h → ea_W mX10_sortKeys d h0 none h' 10 [(0, vR (some 13)), (1, vI x1), (2, vI x2)] [] h) (kJ28 : ∀ (x1 : Int32) (x2 : Int32) (x3 : Int32) (x4 : Int32) (h : ea_H) (r : Unit) (h' : ea_H), J28 x1 x2 x3 x4 h = some (r, h') → ShC h → ea_W mX10_sortKeys d h0 none h' 28 [(0, vR (some 13)), (1, vI x1), (2, vI x2), (3, vI x3), (4, vI x4)] [] h) {x1 : Int32} {x2 : Int32} {x3 : Int32} {x4 : Int32} {h : ea_H} {r : Unit} {h' : ea_H} (E : BX10_sortKeys_28 J10 J28 x1 x2 x3 x4 h = some (r, h')) (hs : ShC h) : ea_W mX10_sortKeys d h0 none h' 28 [(0, vR (some 13)), (1, vI x1), (2, vI x2), (3, vI x3), (4, vI x4)] [] h := by
  unfold BX10_sortKeys_28 at E
  refine ea_iload (pc := 28) dX10_sortKeys_28 4 rfl ?_
  refine ea_iload_n (pc := 30) dX10_sortKeys_30 rfl 1 rfl ?_
  refine ea_icmp_lt (pc := 31) (tgt := 72) dX10_sortKeys_31 rfl (fun c15 => ?_) (fun c15 => ?_)
  · have E := (if_pos c15).symm.trans E
    obtain ⟨z6, E⟩ := gd_some E
    refine ea_aload_n (pc := 72) dX10_sortKeys_72 rfl 0 rfl ?_
    refine ea_getR (pc := 73) dX10_sortKeys_73 ec_10 (k := 3) (Nat.le_of_ble_eq_true rfl) rfl (Or.inl ew_238) (cShC_13 hs).1 (cShC_13 hs).2.1 (rShC_13_3 hs) ?_
    refine ea_iload (pc := 76) dX10_sortKeys_76 4 rfl ?_
    refine ea_iload_n (pc := 78) dX10_sortKeys_78 rfl 3 rfl ?_
    obtain ⟨H7, eH7, E⟩ := let_some E
    refine ea_iast (pc := 79) dX10_sortKeys_79 (cShC_14 hs).1 (cShC_14 hs).2.1 (ea_vpl (cShC_14 hs).2.2 z6) ?_
    refine ea_nm eH7 ?_
    have hsH7 : ShC H7 := by rw [eH7]; exact hs
    refine ea_iinc (pc := 80) (v := 1) (lv' := [(0, vR (some 13)), (1, vI x1), (2, vI (x2 + (1 : Int32)))]) dX10_sortKeys_80 2 rfl rfl (Nat.le_of_ble_eq_true rfl) [1, 2, 0] rfl ?_
    refine ea_goto (pc := 83) (tgt := 10) dX10_sortKeys_83 rfl ?_
    exact (kJ10 (x1 : Int32) ((x2 + (1 : Int32)) : Int32) H7 _ _ E hsH7)
  · have E := (if_neg c15).symm.trans E
    obtain ⟨z8, E⟩ := gd_some E
    refine ea_aload_n (pc := 34) dX10_sortKeys_34 rfl 0 rfl ?_
    refine ea_getR (pc := 35) dX10_sortKeys_35 ec_10 (k := 3) (Nat.le_of_ble_eq_true rfl) rfl (Or.inl ew_238) (cShC_13 hs).1 (cShC_13 hs).2.1 (rShC_13_3 hs) ?_
    refine ea_iload (pc := 38) dX10_sortKeys_38 4 rfl ?_
    refine ea_iload_n (pc := 40) dX10_sortKeys_40 rfl 1 rfl ?_
    refine ea_isub (pc := 41) dX10_sortKeys_41 ?_
    refine ea_iald (pc := 42) dX10_sortKeys_42 (cShC_14 hs).1 (cShC_14 hs).2.1 (ea_vpl (cShC_14 hs).2.2 z8) ?_
    refine ea_iload_n (pc := 43) dX10_sortKeys_43 rfl 3 rfl ?_
    refine ea_icmp_le (pc := 44) (tgt := 72) dX10_sortKeys_44 rfl (fun c14 => ?_) (fun c14 => ?_)
    · have E := (if_pos c14).symm.trans E
      obtain ⟨z9, E⟩ := gd_some E
      refine ea_aload_n (pc := 72) dX10_sortKeys_72 rfl 0 rfl ?_
      refine ea_getR (pc := 73) dX10_sortKeys_73 ec_10 (k := 3) (Nat.le_of_ble_eq_true rfl) rfl (Or.inl ew_238) (cShC_13 hs).1 (cShC_13 hs).2.1 (rShC_13_3 hs) ?_
      refine ea_iload (pc := 76) dX10_sortKeys_76 4 rfl ?_
      refine ea_iload_n (pc := 78) dX10_sortKeys_78 rfl 3 rfl ?_
      obtain ⟨H10, eH10, E⟩ := let_some E
      refine ea_iast (pc := 79) dX10_sortKeys_79 (cShC_14 hs).1 (cShC_14 hs).2.1 (ea_vpl (cShC_14 hs).2.2 z9) ?_
      refine ea_nm eH10 ?_
      have hsH10 : ShC H10 := by rw [eH10]; exact hs
      refine ea_iinc (pc := 80) (v := 1) (lv' := [(0, vR (some 13)), (1, vI x1), (2, vI (x2 + (1 : Int32)))]) dX10_sortKeys_80 2 rfl rfl (Nat.le_of_ble_eq_true rfl) [1, 2, 0] rfl ?_
      refine ea_goto (pc := 83) (tgt := 10) dX10_sortKeys_83 rfl ?_
      exact (kJ10 (x1 : Int32) ((x2 + (1 : Int32)) : Int32) H10 _ _ E hsH10)
    · have E := (if_neg c14).symm.trans E
      obtain ⟨z11, E⟩ := gd_some E
      refine ea_aload_n (pc := 47) dX10_sortKeys_47 rfl 0 rfl ?_
      refine ea_getR (pc := 48) dX10_sortKeys_48 ec_10 (k := 3) (Nat.le_of_ble_eq_true rfl) rfl (Or.inl ew_238) (cShC_13 hs).1 (cShC_13 hs).2.1 (rShC_13_3 hs) ?_
      refine ea_iload (pc := 51) dX10_sortKeys_51 4 rfl ?_
      refine ea_aload_n (pc := 53) dX10_sortKeys_53 rfl 0 rfl ?_
      refine ea_getR (pc := 54) dX10_sortKeys_54 ec_10 (k := 3) (Nat.le_of_ble_eq_true rfl) rfl (Or.inl ew_238) (cShC_13 hs).1 (cShC_13 hs).2.1 (rShC_13_3 hs) ?_
      refine ea_iload (pc := 57) dX10_sortKeys_57 4 rfl ?_
      refine ea_iload_n (pc := 59) dX10_sortKeys_59 rfl 1 rfl ?_
      refine ea_isub (pc := 60) dX10_sortKeys_60 ?_
      obtain ⟨z12, E⟩ := gd_some E
      refine ea_iald (pc := 61) dX10_sortKeys_61 (cShC_14 hs).1 (cShC_14 hs).2.1 (ea_vpl (cShC_14 hs).2.2 z11) ?_
      obtain ⟨H13, eH13, E⟩ := let_some E
      refine ea_iast (pc := 62) dX10_sortKeys_62 (cShC_14 hs).1 (cShC_14 hs).2.1 (ea_vpl (cShC_14 hs).2.2 z12) ?_
      refine ea_nm eH13 ?_
      have hsH13 : ShC H13 := by rw [eH13]; exact hs
      refine ea_iload (pc := 63) dX10_sortKeys_63 4 rfl ?_
      refine ea_iload_n (pc := 65) dX10_sortKeys_65 rfl 1 rfl ?_
      refine ea_isub (pc := 66) dX10_sortKeys_66 ?_
      refine ea_istore (pc := 67) (lv' := [(0, vR (some 13)), (1, vI x1), (2, vI x2), (3, vI x3), (4, vI (x4 - x1))]) dX10_sortKeys_67 (Nat.le_of_ble_eq_true rfl) [1, 2, 3, 4, 0] rfl ?_
      refine ea_goto (pc := 69) (tgt := 28) dX10_sortKeys_69 rfl ?_
      exact (kJ28 (x1 : Int32) (x2 : Int32) (x3 : Int32) ((x4 - x1) : Int32) H13 _ _ E hsH13)
theorem kBX10_sortKeys_28 {J10 : Int32 → Int32 → ea_H → Option (Unit × ea_H)} {J28 : Int32 → Int32 → Int32 → Int32 → ea_H → Option (Unit × ea_H)}  (cJ10 : ∀ (x1 : Int32) (x2 : Int32) (h : ea_H), kp (ea_core h) (J10 x1 x2 h)) (cJ28 : ∀ (x1 : Int32) (x2 : Int32) (x3 : Int32) (x4 : Int32) (h : ea_H), kp (ea_core h) (J28 x1 x2 x3 x4 h)) {x1 : Int32} {x2 : Int32} {x3 : Int32} {x4 : Int32} {h : ea_H} : kp (ea_core h) (BX10_sortKeys_28 J10 J28 x1 x2 x3 x4 h) :=
  (kp_ite (kp_gd (kp_let (kp_tw (cJ10 _ _ _) rfl))) (kp_gd (kp_ite (kp_gd (kp_let (kp_tw (cJ10 _ _ _) rfl))) (kp_gd (kp_gd (kp_let (kp_tw (cJ28 _ _ _ _ _) rfl)))))))
theorem lBX10_sortKeys_28 {J10 : Int32 → Int32 → ea_H → Option (Unit × ea_H)} {J28 : Int32 → Int32 → Int32 → Int32 → ea_H → Option (Unit × ea_H)} {J10_ : Int32 → Int32 → ea_H → Option (Unit × ea_H)} {J28_ : Int32 → Int32 → Int32 → Int32 → ea_H → Option (Unit × ea_H)}  (mJ10 : ∀ (x1 : Int32) (x2 : Int32) (h : ea_H), fle (J10 x1 x2 h) (J10_ x1 x2 h)) (mJ28 : ∀ (x1 : Int32) (x2 : Int32) (x3 : Int32) (x4 : Int32) (h : ea_H), fle (J28 x1 x2 x3 x4 h) (J28_ x1 x2 x3 x4 h)) {x1 : Int32} {x2 : Int32} {x3 : Int32} {x4 : Int32} {h : ea_H} : fle (BX10_sortKeys_28 J10 J28 x1 x2 x3 x4 h) (BX10_sortKeys_28 J10_ J28_ x1 x2 x3 x4 h) :=
  (fle_ite (fle_gd (fle_let fun _ => (mJ10 _ _ _))) (fle_gd (fle_ite (fle_gd (fle_let fun _ => (mJ10 _ _ _))) (fle_gd (fle_gd (fle_let fun _ => (mJ28 _ _ _ _ _)))))))
theorem nBX10_sortKeys_28 {J10 : Int32 → Int32 → ea_H → Option (Unit × ea_H)} {J28 : Int32 → Int32 → Int32 → Int32 → ea_H → Option (Unit × ea_H)} {J10_ : Nat → (Int32 → Int32 → ea_H → Option (Unit × ea_H))} {J28_ : Nat → (Int32 → Int32 → Int32 → Int32 → ea_H → Option (Unit × ea_H))}  (mJ10 : ∀ (x1 : Int32) (x2 : Int32) (h : ea_H), fct (J10 x1 x2 h) (fun f => J10_ f x1 x2 h)) (mJ28 : ∀ (x1 : Int32) (x2 : Int32) (x3 : Int32) (x4 : Int32) (h : ea_H), fct (J28 x1 x2 x3 x4 h) (fun f => J28_ f x1 x2 x3 x4 h)) {x1 : Int32} {x2 : Int32} {x3 : Int32} {x4 : Int32} {h : ea_H} : fct (BX10_sortKeys_28 J10 J28 x1 x2 x3 x4 h) (fun f => BX10_sortKeys_28 (J10_ f) (J28_ f) x1 x2 x3 x4 h) :=
  (fct_ite (fct_gd (fct_let fun _ => (mJ10 _ _ _))) (fct_gd (fct_ite (fct_gd (fct_let fun _ => (mJ10 _ _ _))) (fct_gd (fct_gd (fct_let fun _ => (mJ28 _ _ _ _ _)))))))
noncomputable def gX10_sortKeys : Nat → (ea_H → Option (Unit × ea_H)) × (Int32 → ea_H → Option (Unit × ea_H)) × (Int32 → Int32 → ea_H → Option (Unit × ea_H)) × (Int32 → Int32 → Int32 → Int32 → ea_H → Option (Unit × ea_H))
  | 0 => (fun _ => none, fun _ _ => none, fun _ _ _ => none, fun _ _ _ _ _ => none)
  | f + 1 => (BX10_sortKeys_0 (gX10_sortKeys f).2.1, BX10_sortKeys_4 (gX10_sortKeys f).2.2.1, BX10_sortKeys_10 (gX10_sortKeys f).2.1 (gX10_sortKeys f).2.2.2, BX10_sortKeys_28 (gX10_sortKeys f).2.2.1 (gX10_sortKeys f).2.2.2)
theorem mgX10_sortKeys : ∀ f : Nat, (∀ (h : ea_H), fle ((gX10_sortKeys f).1 h) ((gX10_sortKeys (f + 1)).1 h)) ∧ (∀ (x1 : Int32) (h : ea_H), fle ((gX10_sortKeys f).2.1 x1 h) ((gX10_sortKeys (f + 1)).2.1 x1 h)) ∧ (∀ (x1 : Int32) (x2 : Int32) (h : ea_H), fle ((gX10_sortKeys f).2.2.1 x1 x2 h) ((gX10_sortKeys (f + 1)).2.2.1 x1 x2 h)) ∧ (∀ (x1 : Int32) (x2 : Int32) (x3 : Int32) (x4 : Int32) (h : ea_H), fle ((gX10_sortKeys f).2.2.2 x1 x2 x3 x4 h) ((gX10_sortKeys (f + 1)).2.2.2 x1 x2 x3 x4 h)) := by
  intro f
  induction f with
  | zero => exact ⟨fun _ => fle_none _, fun _ _ => fle_none _, fun _ _ _ => fle_none _, fun _ _ _ _ _ => fle_none _⟩
  | succ f ih => exact ⟨fun _ => lBX10_sortKeys_0 ih.2.1, fun _ _ => lBX10_sortKeys_4 ih.2.2.1, fun _ _ _ => lBX10_sortKeys_10 ih.2.1 ih.2.2.2, fun _ _ _ _ _ => lBX10_sortKeys_28 ih.2.2.1 ih.2.2.2⟩
noncomputable def qX10_sortKeys_0 (h : ea_H) : Option (Unit × ea_H) := flim fun f => (gX10_sortKeys f).1 h
noncomputable def qX10_sortKeys_4 (x1 : Int32) (h : ea_H) : Option (Unit × ea_H) := flim fun f => (gX10_sortKeys f).2.1 x1 h
noncomputable def qX10_sortKeys_10 (x1 : Int32) (x2 : Int32) (h : ea_H) : Option (Unit × ea_H) := flim fun f => (gX10_sortKeys f).2.2.1 x1 x2 h
noncomputable def qX10_sortKeys_28 (x1 : Int32) (x2 : Int32) (x3 : Int32) (x4 : Int32) (h : ea_H) : Option (Unit × ea_H) := flim fun f => (gX10_sortKeys f).2.2.2 x1 x2 x3 x4 h
theorem fqX10_sortKeys_0 (h : ea_H) : fct (qX10_sortKeys_0 h) fun f => (gX10_sortKeys f).1 h := flim_ct fun f => (mgX10_sortKeys f).1 h
theorem fqX10_sortKeys_4 (x1 : Int32) (h : ea_H) : fct (qX10_sortKeys_4 x1 h) fun f => (gX10_sortKeys f).2.1 x1 h := flim_ct fun f => (mgX10_sortKeys f).2.1 x1 h
theorem fqX10_sortKeys_10 (x1 : Int32) (x2 : Int32) (h : ea_H) : fct (qX10_sortKeys_10 x1 x2 h) fun f => (gX10_sortKeys f).2.2.1 x1 x2 h := flim_ct fun f => (mgX10_sortKeys f).2.2.1 x1 x2 h
theorem fqX10_sortKeys_28 (x1 : Int32) (x2 : Int32) (x3 : Int32) (x4 : Int32) (h : ea_H) : fct (qX10_sortKeys_28 x1 x2 x3 x4 h) fun f => (gX10_sortKeys f).2.2.2 x1 x2 x3 x4 h := flim_ct fun f => (mgX10_sortKeys f).2.2.2 x1 x2 x3 x4 h
/-- how a block opens -/
theorem uqX10_sortKeys_0 {h : ea_H} {P : Unit × ea_H → Prop} (H : sat (BX10_sortKeys_0 qX10_sortKeys_4 h) P) : sat (qX10_sortKeys_0 h) P := by
  obtain ⟨x, e, hp⟩ := H
  obtain ⟨n, hn⟩ := nBX10_sortKeys_0 fqX10_sortKeys_4 x e
  exact ⟨x, flim_at (fun f => (mgX10_sortKeys f).1 h) (f := n + 1) (hn n (Nat.le_refl _)), hp⟩
/-- how a block opens -/
theorem uqX10_sortKeys_4 {x1 : Int32} {h : ea_H} {P : Unit × ea_H → Prop} (H : sat (BX10_sortKeys_4 qX10_sortKeys_10 x1 h) P) : sat (qX10_sortKeys_4 x1 h) P := by
  obtain ⟨x, e, hp⟩ := H
  obtain ⟨n, hn⟩ := nBX10_sortKeys_4 fqX10_sortKeys_10 x e
  exact ⟨x, flim_at (fun f => (mgX10_sortKeys f).2.1 x1 h) (f := n + 1) (hn n (Nat.le_refl _)), hp⟩
/-- how a block opens -/
theorem uqX10_sortKeys_10 {x1 : Int32} {x2 : Int32} {h : ea_H} {P : Unit × ea_H → Prop} (H : sat (BX10_sortKeys_10 qX10_sortKeys_4 qX10_sortKeys_28 x1 x2 h) P) : sat (qX10_sortKeys_10 x1 x2 h) P := by
  obtain ⟨x, e, hp⟩ := H
  obtain ⟨n, hn⟩ := nBX10_sortKeys_10 fqX10_sortKeys_4 fqX10_sortKeys_28 x e
  exact ⟨x, flim_at (fun f => (mgX10_sortKeys f).2.2.1 x1 x2 h) (f := n + 1) (hn n (Nat.le_refl _)), hp⟩
/-- how a block opens -/
theorem uqX10_sortKeys_28 {x1 : Int32} {x2 : Int32} {x3 : Int32} {x4 : Int32} {h : ea_H} {P : Unit × ea_H → Prop} (H : sat (BX10_sortKeys_28 qX10_sortKeys_10 qX10_sortKeys_28 x1 x2 x3 x4 h) P) : sat (qX10_sortKeys_28 x1 x2 x3 x4 h) P := by
  obtain ⟨x, e, hp⟩ := H
  obtain ⟨n, hn⟩ := nBX10_sortKeys_28 fqX10_sortKeys_10 fqX10_sortKeys_28 x e
  exact ⟨x, flim_at (fun f => (mgX10_sortKeys f).2.2.2 x1 x2 x3 x4 h) (f := n + 1) (hn n (Nat.le_refl _)), hp⟩
theorem kgX10_sortKeys : ∀ f : Nat, (∀ (h : ea_H), kp (ea_core h) ((gX10_sortKeys f).1 h)) ∧ (∀ (x1 : Int32) (h : ea_H), kp (ea_core h) ((gX10_sortKeys f).2.1 x1 h)) ∧ (∀ (x1 : Int32) (x2 : Int32) (h : ea_H), kp (ea_core h) ((gX10_sortKeys f).2.2.1 x1 x2 h)) ∧ (∀ (x1 : Int32) (x2 : Int32) (x3 : Int32) (x4 : Int32) (h : ea_H), kp (ea_core h) ((gX10_sortKeys f).2.2.2 x1 x2 x3 x4 h)) := by
  intro f
  induction f with
  | zero => exact ⟨fun _ => kp_none _, fun _ _ => kp_none _, fun _ _ _ => kp_none _, fun _ _ _ _ _ => kp_none _⟩
  | succ f ih => exact ⟨fun _ => kBX10_sortKeys_0 ih.2.1, fun _ _ => kBX10_sortKeys_4 ih.2.2.1, fun _ _ _ => kBX10_sortKeys_10 ih.2.1 ih.2.2.2, fun _ _ _ _ _ => kBX10_sortKeys_28 ih.2.2.1 ih.2.2.2⟩
theorem tgX10_sortKeys {d : Nat} {h0 : ea_H} (hd : 1 ≤ d) : ∀ f : Nat, (∀ (h : ea_H) (r : Unit) (h' : ea_H), (gX10_sortKeys f).1 h = some (r, h') → ShC h → ea_W mX10_sortKeys d h0 none h' 0 [(0, vR (some 13))] [] h) ∧ (∀ (x1 : Int32) (h : ea_H) (r : Unit) (h' : ea_H), (gX10_sortKeys f).2.1 x1 h = some (r, h') → ShC h → ea_W mX10_sortKeys d h0 none h' 4 [(0, vR (some 13)), (1, vI x1)] [] h) ∧ (∀ (x1 : Int32) (x2 : Int32) (h : ea_H) (r : Unit) (h' : ea_H), (gX10_sortKeys f).2.2.1 x1 x2 h = some (r, h') → ShC h → ea_W mX10_sortKeys d h0 none h' 10 [(0, vR (some 13)), (1, vI x1), (2, vI x2)] [] h) ∧ (∀ (x1 : Int32) (x2 : Int32) (x3 : Int32) (x4 : Int32) (h : ea_H) (r : Unit) (h' : ea_H), (gX10_sortKeys f).2.2.2 x1 x2 x3 x4 h = some (r, h') → ShC h → ea_W mX10_sortKeys d h0 none h' 28 [(0, vR (some 13)), (1, vI x1), (2, vI x2), (3, vI x3), (4, vI x4)] [] h) := by
  intro f
  induction f with
  | zero => exact ⟨fun _ _ _ E => no_some E, fun _ _ _ _ E => no_some E, fun _ _ _ _ _ E => no_some E, fun _ _ _ _ _ _ _ E => no_some E⟩
  | succ f ih => exact ⟨fun _ _ _ E hs => tBX10_sortKeys_0 hd ih.2.1 E hs, fun _ _ _ _ E hs => tBX10_sortKeys_4 hd ih.2.2.1 E hs, fun _ _ _ _ _ E hs => tBX10_sortKeys_10 hd ih.2.1 ih.2.2.2 E hs, fun _ _ _ _ _ _ _ E hs => tBX10_sortKeys_28 hd ih.2.2.1 ih.2.2.2 E hs⟩
noncomputable def qX10_sortKeys (h : ea_H) : Option (Unit × ea_H) := qX10_sortKeys_0  h
theorem sX10_sortKeys {d : Nat} {h : ea_H} {r : Unit} {h' : ea_H} (hd : 1 ≤ d) (hs : ShC h) (K : qX10_sortKeys h = some (r, h')) : ea_Met mX10_sortKeys d [vR (some 13)] h none h' := by
  unfold qX10_sortKeys at K
  obtain ⟨n, hn⟩ := fqX10_sortKeys_0  h _ K
  have W := (tgX10_sortKeys (d := d) (h0 := h) hd n).1  h _ _ (hn n (Nat.le_refl _)) hs
  exact ea_enter rfl (Nat.le_of_ble_eq_true rfl) W
theorem kpX10_sortKeys (h : ea_H) : kp (ea_core h) (qX10_sortKeys h) := fun x e => by
  obtain ⟨n, hn⟩ := fqX10_sortKeys_0  h x e
  exact (kgX10_sortKeys n).1  h x (hn n (Nat.le_refl _))
noncomputable def BX10_takenAt_0 (y1 : Int64) (h : ea_H) : Option (Int32 × ea_H) :=
  (if (lg_cmp y1 (4611686018427387904 : Int64)) = (0 : Int32) then (some (((-1) : Int32), h)) else (Option.bind (qX10_trainOf (y1 : Int64) h) fun w1 => (Option.bind (qX10_dayOf (y1 : Int64) w1.2) fun w2 => (Option.bind (qX10_takenOf (y1 : Int64) w2.2) fun w3 => (Option.bind (qX9_goesAt (w1.1 : Int32) (w2.1 : Int32) (w3.1 : Int32) w3.2) fun w4 => (some (w4.1, w4.2)))))))
theorem tBX10_takenAt_0 {d : Nat} {h0 : ea_H} (hd : 2 ≤ d)  {y1 : Int64} {h : ea_H} {r : Int32} {h' : ea_H} (E : BX10_takenAt_0 y1 h = some (r, h')) (hs : ShC h) : ea_W mX10_takenAt d h0 (some (vI r)) h' 0 [(0, vR (some 13)), (1, vJ y1)] [] h := by
  unfold BX10_takenAt_0 at E
  refine ea_lload_n (pc := 0) dX10_takenAt_0 rfl 1 rfl ?_
  refine ea_ldc2 (pc := 1) dX10_takenAt_1 ew_777 ?_
  refine ea_lcmp (pc := 4) dX10_takenAt_4 ?_
  refine ea_if_ne (pc := 5) (tgt := 12) dX10_takenAt_5 rfl (fun c5 => ?_) (fun c5 => ?_)
  · have E := (if_neg c5).symm.trans E
    obtain ⟨w1, Ew1, E⟩ := bd_some E
    have hsw1 : ShC w1.2 := ShC_core ((kpX10_trainOf _ _) _ Ew1) hs
    refine ea_aload_n (pc := 12) dX10_takenAt_12 rfl 0 rfl ?_
    refine ea_getR (pc := 13) dX10_takenAt_13 ec_10 (k := 2) (Nat.le_of_ble_eq_true rfl) rfl (Or.inl ew_237) (cShC_13 hs).1 (cShC_13 hs).2.1 (rShC_13_2 hs) ?_
    refine ea_lload_n (pc := 16) dX10_takenAt_16 rfl 1 rfl ?_
    refine ea_callS (pc := 17) (d' := d - 1) (As := [vJ y1]) (st := [vR (some 5)]) dX10_takenAt_17 kX10_trainOf (sX10_trainOf (d := d - 1) (by omega) Ew1) (by omega) rfl (Nat.le_of_ble_eq_true rfl) ew_802 ew_803 ?_
    obtain ⟨w2, Ew2, E⟩ := bd_some E
    have hsw2 : ShC w2.2 := ShC_core ((kpX10_dayOf _ _) _ Ew2) hsw1
    refine ea_lload_n (pc := 20) dX10_takenAt_20 rfl 1 rfl ?_
    refine ea_callS (pc := 21) (d' := d - 1) (As := [vJ y1]) (st := [vI w1.1, vR (some 5)]) dX10_takenAt_21 kX10_dayOf (sX10_dayOf (d := d - 1) (by omega) Ew2) (by omega) rfl (Nat.le_of_ble_eq_true rfl) ew_805 ew_806 ?_
    obtain ⟨w3, Ew3, E⟩ := bd_some E
    have hsw3 : ShC w3.2 := ShC_core ((kpX10_takenOf _ _) _ Ew3) hsw2
    refine ea_lload_n (pc := 24) dX10_takenAt_24 rfl 1 rfl ?_
    refine ea_callS (pc := 25) (d' := d - 1) (As := [vJ y1]) (st := [vI w2.1, vI w1.1, vR (some 5)]) dX10_takenAt_25 kX10_takenOf (sX10_takenOf (d := d - 1) (by omega) Ew3) (by omega) rfl (Nat.le_of_ble_eq_true rfl) ew_808 ew_809 ?_
    obtain ⟨w4, Ew4, E⟩ := bd_some E
    have hsw4 : ShC w4.2 := ShC_core ((kpX9_goesAt _ _ _ _) _ Ew4) hsw3
    refine ea_callV (pc := 28) (d' := d - 1) (As := [vI w1.1, vI w2.1, vI w3.1]) (st := []) dX10_takenAt_28 kX9_goesAt (sX9_goesAt (d := d - 1) (by omega) hsw3 Ew4) (by omega) rfl (Nat.le_of_ble_eq_true rfl) ew_762 ew_763 ew_764 (ci := 9) rfl (by decide) (cShC_5 hsw3).1 (cShC_5 hsw3).2.1 ?_
    exact ea_iretO (pc := 31) dX10_takenAt_31 rfl rfl E
  · have E := (if_pos c5).symm.trans E
    refine ea_iconst (pc := 8) dX10_takenAt_8 (v := (-1)) rfl ?_
    refine ea_goto (pc := 9) (tgt := 31) dX10_takenAt_9 rfl ?_
    exact ea_iretO (pc := 31) dX10_takenAt_31 rfl rfl E
theorem kBX10_takenAt_0  {y1 : Int64} {h : ea_H} : kp (ea_core h) (BX10_takenAt_0 y1 h) :=
  (kp_ite (kp_ret rfl) (kp_bind (kp_tw (kpX10_trainOf _ _) rfl) fun w1 hcw1 => (kp_bind (kp_tw (kpX10_dayOf _ _) hcw1) fun w2 hcw2 => (kp_bind (kp_tw (kpX10_takenOf _ _) hcw2) fun w3 hcw3 => (kp_bind (kp_tw (kpX9_goesAt _ _ _ _) hcw3) fun w4 hcw4 => (kp_ret hcw4))))))
noncomputable def qX10_takenAt (y1 : Int64) (h : ea_H) : Option (Int32 × ea_H) := BX10_takenAt_0 y1 h
theorem sX10_takenAt {d : Nat} {y1 : Int64} {h : ea_H} {r : Int32} {h' : ea_H} (hd : 2 ≤ d) (hs : ShC h) (K : qX10_takenAt y1 h = some (r, h')) : ea_Met mX10_takenAt d [vR (some 13), vJ y1] h (some (vI r)) h' := by
  unfold qX10_takenAt at K
  have W := tBX10_takenAt_0 hd (h0 := h) K hs
  exact ea_enter rfl (Nat.le_of_ble_eq_true rfl) W
theorem kpX10_takenAt (y1 : Int64) (h : ea_H) : kp (ea_core h) (qX10_takenAt y1 h) := kBX10_takenAt_0
noncomputable def BX10_slotOf_0 (y0 : Int64) (h : ea_H) : Option (Int32 × ea_H) :=
  (Option.bind (qX10_dayOf (y0 : Int64) h) fun w1 => (Option.bind (qX10_trainOf (y0 : Int64) w1.2) fun w2 => (Option.bind (qX10_takenOf (y0 : Int64) w2.2) fun w3 => (some ((((8 : Int32) * (((10 : Int32) * w1.1) + w2.1)) + w3.1), w3.2)))))
theorem tBX10_slotOf_0 {d : Nat} {h0 : ea_H} (hd : 2 ≤ d)  {y0 : Int64} {h : ea_H} {r : Int32} {h' : ea_H} (E : BX10_slotOf_0 y0 h = some (r, h')) : ea_W mX10_slotOf d h0 (some (vI r)) h' 0 [(0, vJ y0)] [] h := by
  unfold BX10_slotOf_0 at E
  obtain ⟨w1, Ew1, E⟩ := bd_some E
  refine ea_bipush (pc := 0) dX10_slotOf_0 (v := 8) rfl ?_
  refine ea_bipush (pc := 2) dX10_slotOf_2 (v := 10) rfl ?_
  refine ea_lload_n (pc := 4) dX10_slotOf_4 rfl 0 rfl ?_
  refine ea_callS (pc := 5) (d' := d - 1) (As := [vJ y0]) (st := [vI 10, vI 8]) dX10_slotOf_5 kX10_dayOf (sX10_dayOf (d := d - 1) (by omega) Ew1) (by omega) rfl (Nat.le_of_ble_eq_true rfl) ew_805 ew_806 ?_
  obtain ⟨w2, Ew2, E⟩ := bd_some E
  refine ea_imul (pc := 8) dX10_slotOf_8 ?_
  refine ea_lload_n (pc := 9) dX10_slotOf_9 rfl 0 rfl ?_
  refine ea_callS (pc := 10) (d' := d - 1) (As := [vJ y0]) (st := [vI ((10 : Int32) * w1.1), vI 8]) dX10_slotOf_10 kX10_trainOf (sX10_trainOf (d := d - 1) (by omega) Ew2) (by omega) rfl (Nat.le_of_ble_eq_true rfl) ew_802 ew_803 ?_
  obtain ⟨w3, Ew3, E⟩ := bd_some E
  refine ea_iadd (pc := 13) dX10_slotOf_13 ?_
  refine ea_imul (pc := 14) dX10_slotOf_14 ?_
  refine ea_lload_n (pc := 15) dX10_slotOf_15 rfl 0 rfl ?_
  refine ea_callS (pc := 16) (d' := d - 1) (As := [vJ y0]) (st := [vI ((8 : Int32) * (((10 : Int32) * w1.1) + w2.1))]) dX10_slotOf_16 kX10_takenOf (sX10_takenOf (d := d - 1) (by omega) Ew3) (by omega) rfl (Nat.le_of_ble_eq_true rfl) ew_808 ew_809 ?_
  refine ea_iadd (pc := 19) dX10_slotOf_19 ?_
  exact ea_iretO (pc := 20) dX10_slotOf_20 rfl rfl E
theorem kBX10_slotOf_0  {y0 : Int64} {h : ea_H} : kp (ea_core h) (BX10_slotOf_0 y0 h) :=
  (kp_bind (kp_tw (kpX10_dayOf _ _) rfl) fun w1 hcw1 => (kp_bind (kp_tw (kpX10_trainOf _ _) hcw1) fun w2 hcw2 => (kp_bind (kp_tw (kpX10_takenOf _ _) hcw2) fun w3 hcw3 => (kp_ret hcw3))))
noncomputable def qX10_slotOf (y0 : Int64) (h : ea_H) : Option (Int32 × ea_H) := BX10_slotOf_0 y0 h
theorem sX10_slotOf {d : Nat} {y0 : Int64} {h : ea_H} {r : Int32} {h' : ea_H} (hd : 2 ≤ d) (K : qX10_slotOf y0 h = some (r, h')) : ea_Met mX10_slotOf d [vJ y0] h (some (vI r)) h' := by
  unfold qX10_slotOf at K
  have W := tBX10_slotOf_0 hd (h0 := h) K
  exact ea_enter rfl (Nat.le_of_ble_eq_true rfl) W
theorem kpX10_slotOf (y0 : Int64) (h : ea_H) : kp (ea_core h) (qX10_slotOf y0 h) := kBX10_slotOf_0
noncomputable def BX10_leaveRun_0 (J13 : Int32 → Int32 → Int32 → Int32 → ea_H → Option (Unit × ea_H)) (x1 : Int32) (x2 : Int32) (h : ea_H) : Option (Unit × ea_H) :=
  (Option.bind (qX10_legOf (x1 : Int32) h) fun w1 => (Option.bind (qX10_stopIn (x1 : Int32) w1.2) fun w2 => (ea_let (w1.1 ||| w2.1) fun (v3 : Int32) => (J13 (x1 : Int32) (x2 : Int32) (v3 : Int32) (0 : Int32) w2.2))))
theorem tBX10_leaveRun_0 {d : Nat} {h0 : ea_H} (hd : 3 ≤ d) {J13 : Int32 → Int32 → Int32 → Int32 → ea_H → Option (Unit × ea_H)}  (kJ13 : ∀ (x1 : Int32) (x2 : Int32) (x3 : Int32) (x4 : Int32) (h : ea_H) (r : Unit) (h' : ea_H), J13 x1 x2 x3 x4 h = some (r, h') → ShC h → ea_W mX10_leaveRun d h0 none h' 13 [(0, vR (some 13)), (1, vI x1), (2, vI x2), (3, vI x3), (4, vI x4)] [] h) {x1 : Int32} {x2 : Int32} {h : ea_H} {r : Unit} {h' : ea_H} (E : BX10_leaveRun_0 J13 x1 x2 h = some (r, h')) (hs : ShC h) : ea_W mX10_leaveRun d h0 none h' 0 [(0, vR (some 13)), (1, vI x1), (2, vI x2)] [] h := by
  unfold BX10_leaveRun_0 at E
  obtain ⟨w1, Ew1, E⟩ := bd_some E
  have hsw1 : ShC w1.2 := ShC_core ((kpX10_legOf _ _) _ Ew1) hs
  refine ea_iload_n (pc := 0) dX10_leaveRun_0 rfl 1 rfl ?_
  refine ea_callS (pc := 1) (d' := d - 1) (As := [vI x1]) (st := []) dX10_leaveRun_1 kX10_legOf (sX10_legOf (d := d - 1) (by omega) Ew1) (by omega) rfl (Nat.le_of_ble_eq_true rfl) ew_823 ew_824 ?_
  obtain ⟨w2, Ew2, E⟩ := bd_some E
  have hsw2 : ShC w2.2 := ShC_core ((kpX10_stopIn _ _) _ Ew2) hsw1
  refine ea_iload_n (pc := 4) dX10_leaveRun_4 rfl 1 rfl ?_
  refine ea_callS (pc := 5) (d' := d - 1) (As := [vI x1]) (st := [vI w1.1]) dX10_leaveRun_5 kX10_stopIn (sX10_stopIn (d := d - 1) (by omega) Ew2) (by omega) rfl (Nat.le_of_ble_eq_true rfl) ew_788 ew_789 ?_
  obtain ⟨v3, ev3, E⟩ := let_some E
  refine ea_ior (pc := 8) dX10_leaveRun_8 ?_
  refine ea_istore_n (pc := 9) (lv' := [(0, vR (some 13)), (1, vI x1), (2, vI x2), (3, vI v3)]) dX10_leaveRun_9 rfl (Nat.le_of_ble_eq_true rfl) [1, 2, 3, 0] (by rw [ev3]; rfl) ?_
  refine ea_iconst (pc := 10) dX10_leaveRun_10 (v := 0) rfl ?_
  refine ea_istore (pc := 11) (lv' := [(0, vR (some 13)), (1, vI x1), (2, vI x2), (3, vI v3), (4, vI 0)]) dX10_leaveRun_11 (Nat.le_of_ble_eq_true rfl) [1, 2, 3, 4, 0] rfl ?_
  exact (kJ13 (x1 : Int32) (x2 : Int32) (v3 : Int32) (0 : Int32) w2.2 _ _ E hsw2)
theorem kBX10_leaveRun_0 {J13 : Int32 → Int32 → Int32 → Int32 → ea_H → Option (Unit × ea_H)}  (cJ13 : ∀ (x1 : Int32) (x2 : Int32) (x3 : Int32) (x4 : Int32) (h : ea_H), kp (ea_core h) (J13 x1 x2 x3 x4 h)) {x1 : Int32} {x2 : Int32} {h : ea_H} : kp (ea_core h) (BX10_leaveRun_0 J13 x1 x2 h) :=
  (kp_bind (kp_tw (kpX10_legOf _ _) rfl) fun w1 hcw1 => (kp_bind (kp_tw (kpX10_stopIn _ _) hcw1) fun w2 hcw2 => (kp_let (kp_tw (cJ13 _ _ _ _ _) hcw2))))
theorem lBX10_leaveRun_0 {J13 : Int32 → Int32 → Int32 → Int32 → ea_H → Option (Unit × ea_H)} {J13_ : Int32 → Int32 → Int32 → Int32 → ea_H → Option (Unit × ea_H)}  (mJ13 : ∀ (x1 : Int32) (x2 : Int32) (x3 : Int32) (x4 : Int32) (h : ea_H), fle (J13 x1 x2 x3 x4 h) (J13_ x1 x2 x3 x4 h)) {x1 : Int32} {x2 : Int32} {h : ea_H} : fle (BX10_leaveRun_0 J13 x1 x2 h) (BX10_leaveRun_0 J13_ x1 x2 h) :=
  (fle_bind (fle_rfl _) fun _ => (fle_bind (fle_rfl _) fun _ => (fle_let fun _ => (mJ13 _ _ _ _ _))))
theorem nBX10_leaveRun_0 {J13 : Int32 → Int32 → Int32 → Int32 → ea_H → Option (Unit × ea_H)} {J13_ : Nat → (Int32 → Int32 → Int32 → Int32 → ea_H → Option (Unit × ea_H))}  (mJ13 : ∀ (x1 : Int32) (x2 : Int32) (x3 : Int32) (x4 : Int32) (h : ea_H), fct (J13 x1 x2 x3 x4 h) (fun f => J13_ f x1 x2 x3 x4 h)) {x1 : Int32} {x2 : Int32} {h : ea_H} : fct (BX10_leaveRun_0 J13 x1 x2 h) (fun f => BX10_leaveRun_0 (J13_ f) x1 x2 h) :=
  (fct_bind (fct_rfl _) fun _ => (fct_bind (fct_rfl _) fun _ => (fct_let fun _ => (mJ13 _ _ _ _ _))))
noncomputable def BX10_leaveRun_13 (J89 : Int32 → Int32 → Int32 → Int32 → Int64 → ea_H → Option (Unit × ea_H)) (x1 : Int32) (x2 : Int32) (x3 : Int32) (x4 : Int32) (h : ea_H) : Option (Unit × ea_H) :=
  (if (12 : Int32) ≤ x4 then (some ((), h)) else (gd (vp_in (((12 : Int32) * x2) + x4) 144) (ea_let (ea_j h 17 (Int32.toNatClampNeg (((12 : Int32) * x2) + x4))) fun (v5 : Int64) => (ea_let (4611686018427387904 : Int64) fun (v6 : Int64) => (if x4 = x2 then (Option.bind (qX10_minuteIn (x1 : Int32) h) fun w9 => (ea_let ((((Int32.toInt64 w9.1) <<< (Int32.toInt64 21 &&& 63)) ||| (8192 : Int64)) ||| (Int32.toInt64 x3)) fun (v10 : Int64) => (J89 (x1 : Int32) (x2 : Int32) (x3 : Int32) (x4 : Int32) (v10 : Int64) w9.2))) else (if (lg_cmp v5 (4611686018427387904 : Int64)) = (0 : Int32) then (J89 (x1 : Int32) (x2 : Int32) (x3 : Int32) (x4 : Int32) (v6 : Int64) h) else (ea_let ((((v5 >>> (Int32.toInt64 13 &&& 63)) + (1 : Int64)) <<< (Int32.toInt64 13 &&& 63)) ||| (Int32.toInt64 x3)) fun (v7 : Int64) => (J89 (x1 : Int32) (x2 : Int32) (x3 : Int32) (x4 : Int32) (v7 : Int64) h))))))))
theorem tBX10_leaveRun_13 {d : Nat} {h0 : ea_H} (hd : 3 ≤ d) {J89 : Int32 → Int32 → Int32 → Int32 → Int64 → ea_H → Option (Unit × ea_H)}  (kJ89 : ∀ (x1 : Int32) (x2 : Int32) (x3 : Int32) (x4 : Int32) (y7 : Int64) (h : ea_H) (r : Unit) (h' : ea_H), J89 x1 x2 x3 x4 y7 h = some (r, h') → ShC h → ea_W mX10_leaveRun d h0 none h' 89 [(0, vR (some 13)), (1, vI x1), (2, vI x2), (3, vI x3), (4, vI x4), (7, vJ y7)] [] h) {x1 : Int32} {x2 : Int32} {x3 : Int32} {x4 : Int32} {h : ea_H} {r : Unit} {h' : ea_H} (E : BX10_leaveRun_13 J89 x1 x2 x3 x4 h = some (r, h')) (hs : ShC h) : ea_W mX10_leaveRun d h0 none h' 13 [(0, vR (some 13)), (1, vI x1), (2, vI x2), (3, vI x3), (4, vI x4)] [] h := by
  unfold BX10_leaveRun_13 at E
  refine ea_iload (pc := 13) dX10_leaveRun_13 4 rfl ?_
  refine ea_bipush (pc := 15) dX10_leaveRun_15 (v := 12) rfl ?_
  refine ea_icmp_ge (pc := 17) (tgt := 134) dX10_leaveRun_17 rfl (fun c12 => ?_) (fun c12 => ?_)
  · have E := (if_pos c12).symm.trans E
    exact ea_vretO (pc := 134) dX10_leaveRun_134 rfl E
  · have E := (if_neg c12).symm.trans E
    obtain ⟨z4, E⟩ := gd_some E
    refine ea_aload_n (pc := 20) dX10_leaveRun_20 rfl 0 rfl ?_
    refine ea_getR (pc := 21) dX10_leaveRun_21 ec_10 (k := 6) (Nat.le_of_ble_eq_true rfl) rfl (Or.inl ew_241) (cShC_13 hs).1 (cShC_13 hs).2.1 (rShC_13_6 hs) ?_
    refine ea_bipush (pc := 24) dX10_leaveRun_24 (v := 12) rfl ?_
    refine ea_iload_n (pc := 26) dX10_leaveRun_26 rfl 2 rfl ?_
    refine ea_imul (pc := 27) dX10_leaveRun_27 ?_
    refine ea_iload (pc := 28) dX10_leaveRun_28 4 rfl ?_
    refine ea_iadd (pc := 30) dX10_leaveRun_30 ?_
    obtain ⟨v5, ev5, E⟩ := let_some E
    refine ea_lald (pc := 31) dX10_leaveRun_31 (cShC_17 hs).1 (cShC_17 hs).2.1 (ea_vpl (cShC_17 hs).2.2 z4) ?_
    obtain ⟨v6, ev6, E⟩ := let_some E
    refine ea_lstore (pc := 32) (lv' := [(0, vR (some 13)), (1, vI x1), (2, vI x2), (3, vI x3), (4, vI x4), (5, vJ v5)]) dX10_leaveRun_32 (Nat.le_of_ble_eq_true rfl) [1, 2, 3, 4, 5, 0] (by rw [ev5]; rfl) ?_
    refine ea_ldc2 (pc := 34) dX10_leaveRun_34 ew_777 ?_
    refine ea_lstore (pc := 37) (lv' := [(0, vR (some 13)), (1, vI x1), (2, vI x2), (3, vI x3), (4, vI x4), (5, vJ v5), (7, vJ v6)]) dX10_leaveRun_37 (Nat.le_of_ble_eq_true rfl) [1, 2, 3, 4, 5, 6, 0] (by rw [ev6]; rfl) ?_
    refine ea_iload (pc := 39) dX10_leaveRun_39 4 rfl ?_
    refine ea_iload_n (pc := 41) dX10_leaveRun_41 rfl 2 rfl ?_
    refine ea_icmp_ne (pc := 42) (tgt := 65) dX10_leaveRun_42 rfl (fun c11 => ?_) (fun c11 => ?_)
    · have E := (if_neg c11).symm.trans E
      refine ea_lload (pc := 65) dX10_leaveRun_65 5 rfl ?_
      refine ea_ldc2 (pc := 67) dX10_leaveRun_67 ew_777 ?_
      refine ea_lcmp (pc := 70) dX10_leaveRun_70 ?_
      refine ea_if_eq (pc := 71) (tgt := 89) dX10_leaveRun_71 rfl (fun c8 => ?_) (fun c8 => ?_)
      · have E := (if_pos c8).symm.trans E
        exact ea_fewer [0, 1, 2, 3, 4, 6] rfl (kJ89 (x1 : Int32) (x2 : Int32) (x3 : Int32) (x4 : Int32) (v6 : Int64) h _ _ E hs)
      · have E := (if_neg c8).symm.trans E
        obtain ⟨v7, ev7, E⟩ := let_some E
        refine ea_lload (pc := 74) dX10_leaveRun_74 5 rfl ?_
        refine ea_bipush (pc := 76) dX10_leaveRun_76 (v := 13) rfl ?_
        refine ea_lshr (pc := 78) dX10_leaveRun_78 ?_
        refine ea_lconst (pc := 79) dX10_leaveRun_79 (v := 1) rfl ?_
        refine ea_ladd (pc := 80) dX10_leaveRun_80 ?_
        refine ea_bipush (pc := 81) dX10_leaveRun_81 (v := 13) rfl ?_
        refine ea_lshl (pc := 83) dX10_leaveRun_83 ?_
        refine ea_iload_n (pc := 84) dX10_leaveRun_84 rfl 3 rfl ?_
        refine ea_i2l (pc := 85) dX10_leaveRun_85 ?_
        refine ea_lor (pc := 86) dX10_leaveRun_86 ?_
        refine ea_lstore (pc := 87) (lv' := [(0, vR (some 13)), (1, vI x1), (2, vI x2), (3, vI x3), (4, vI x4), (7, vJ v7)]) dX10_leaveRun_87 (Nat.le_of_ble_eq_true rfl) [1, 2, 3, 4, 5, 0] (by rw [ev7]; rfl) ?_
        exact (kJ89 (x1 : Int32) (x2 : Int32) (x3 : Int32) (x4 : Int32) (v7 : Int64) h _ _ E hs)
    · have E := (if_pos c11).symm.trans E
      obtain ⟨w9, Ew9, E⟩ := bd_some E
      have hsw9 : ShC w9.2 := ShC_core ((kpX10_minuteIn _ _) _ Ew9) hs
      refine ea_iload_n (pc := 45) dX10_leaveRun_45 rfl 1 rfl ?_
      refine ea_callS (pc := 46) (d' := d - 1) (As := [vI x1]) (st := []) dX10_leaveRun_46 kX10_minuteIn (sX10_minuteIn (d := d - 1) (by omega) Ew9) (by omega) rfl (Nat.le_of_ble_eq_true rfl) ew_811 ew_812 ?_
      obtain ⟨v10, ev10, E⟩ := let_some E
      refine ea_i2l (pc := 49) dX10_leaveRun_49 ?_
      refine ea_bipush (pc := 50) dX10_leaveRun_50 (v := 21) rfl ?_
      refine ea_lshl (pc := 52) dX10_leaveRun_52 ?_
      refine ea_ldc2 (pc := 53) dX10_leaveRun_53 ew_829 ?_
      refine ea_lor (pc := 56) dX10_leaveRun_56 ?_
      refine ea_iload_n (pc := 57) dX10_leaveRun_57 rfl 3 rfl ?_
      refine ea_i2l (pc := 58) dX10_leaveRun_58 ?_
      refine ea_lor (pc := 59) dX10_leaveRun_59 ?_
      refine ea_lstore (pc := 60) (lv' := [(0, vR (some 13)), (1, vI x1), (2, vI x2), (3, vI x3), (4, vI x4), (7, vJ v10)]) dX10_leaveRun_60 (Nat.le_of_ble_eq_true rfl) [1, 2, 3, 4, 5, 0] (by rw [ev10]; rfl) ?_
      refine ea_goto (pc := 62) (tgt := 89) dX10_leaveRun_62 rfl ?_
      exact (kJ89 (x1 : Int32) (x2 : Int32) (x3 : Int32) (x4 : Int32) (v10 : Int64) w9.2 _ _ E hsw9)
theorem kBX10_leaveRun_13 {J89 : Int32 → Int32 → Int32 → Int32 → Int64 → ea_H → Option (Unit × ea_H)}  (cJ89 : ∀ (x1 : Int32) (x2 : Int32) (x3 : Int32) (x4 : Int32) (y7 : Int64) (h : ea_H), kp (ea_core h) (J89 x1 x2 x3 x4 y7 h)) {x1 : Int32} {x2 : Int32} {x3 : Int32} {x4 : Int32} {h : ea_H} : kp (ea_core h) (BX10_leaveRun_13 J89 x1 x2 x3 x4 h) :=
  (kp_ite (kp_ret rfl) (kp_gd (kp_let (kp_let (kp_ite (kp_bind (kp_tw (kpX10_minuteIn _ _) rfl) fun w9 hcw9 => (kp_let (kp_tw (cJ89 _ _ _ _ _ _) hcw9))) (kp_ite (kp_tw (cJ89 _ _ _ _ _ _) rfl) (kp_let (kp_tw (cJ89 _ _ _ _ _ _) rfl))))))))
theorem lBX10_leaveRun_13 {J89 : Int32 → Int32 → Int32 → Int32 → Int64 → ea_H → Option (Unit × ea_H)} {J89_ : Int32 → Int32 → Int32 → Int32 → Int64 → ea_H → Option (Unit × ea_H)}  (mJ89 : ∀ (x1 : Int32) (x2 : Int32) (x3 : Int32) (x4 : Int32) (y7 : Int64) (h : ea_H), fle (J89 x1 x2 x3 x4 y7 h) (J89_ x1 x2 x3 x4 y7 h)) {x1 : Int32} {x2 : Int32} {x3 : Int32} {x4 : Int32} {h : ea_H} : fle (BX10_leaveRun_13 J89 x1 x2 x3 x4 h) (BX10_leaveRun_13 J89_ x1 x2 x3 x4 h) :=
  (fle_ite (fle_rfl _) (fle_gd (fle_let fun _ => (fle_let fun _ => (fle_ite (fle_bind (fle_rfl _) fun _ => (fle_let fun _ => (mJ89 _ _ _ _ _ _))) (fle_ite (mJ89 _ _ _ _ _ _) (fle_let fun _ => (mJ89 _ _ _ _ _ _))))))))
theorem nBX10_leaveRun_13 {J89 : Int32 → Int32 → Int32 → Int32 → Int64 → ea_H → Option (Unit × ea_H)} {J89_ : Nat → (Int32 → Int32 → Int32 → Int32 → Int64 → ea_H → Option (Unit × ea_H))}  (mJ89 : ∀ (x1 : Int32) (x2 : Int32) (x3 : Int32) (x4 : Int32) (y7 : Int64) (h : ea_H), fct (J89 x1 x2 x3 x4 y7 h) (fun f => J89_ f x1 x2 x3 x4 y7 h)) {x1 : Int32} {x2 : Int32} {x3 : Int32} {x4 : Int32} {h : ea_H} : fct (BX10_leaveRun_13 J89 x1 x2 x3 x4 h) (fun f => BX10_leaveRun_13 (J89_ f) x1 x2 x3 x4 h) :=
  (fct_ite (fct_rfl _) (fct_gd (fct_let fun _ => (fct_let fun _ => (fct_ite (fct_bind (fct_rfl _) fun _ => (fct_let fun _ => (mJ89 _ _ _ _ _ _))) (fct_ite (mJ89 _ _ _ _ _ _) (fct_let fun _ => (mJ89 _ _ _ _ _ _))))))))
noncomputable def BX10_leaveRun_89 (J13 : Int32 → Int32 → Int32 → Int32 → ea_H → Option (Unit × ea_H)) (x1 : Int32) (x2 : Int32) (x3 : Int32) (x4 : Int32) (y7 : Int64) (h : ea_H) : Option (Unit × ea_H) :=
  (Option.bind (qX10_dayIn (x1 : Int32) h) fun w13 => (Option.bind (qX10_trainIn (x1 : Int32) w13.2) fun w14 => (ea_let (((12 : Int32) * (((10 : Int32) * w13.1) + w14.1)) + x4) fun (v15 : Int32) => (gd (vp_in v15 840) (gd (vp_in v15 840) (ea_let (ea_wj w14.2 16 (Int32.toNatClampNeg v15) (if y7 < (ea_j w14.2 16 (Int32.toNatClampNeg v15)) then y7 else (ea_j w14.2 16 (Int32.toNatClampNeg v15)))) fun H18 => (J13 (x1 : Int32) (x2 : Int32) (x3 : Int32) ((x4 + (1 : Int32)) : Int32) H18)))))))
theorem tBX10_leaveRun_89 {d : Nat} {h0 : ea_H} (hd : 3 ≤ d) {J13 : Int32 → Int32 → Int32 → Int32 → ea_H → Option (Unit × ea_H)}  (kJ13 : ∀ (x1 : Int32) (x2 : Int32) (x3 : Int32) (x4 : Int32) (h : ea_H) (r : Unit) (h' : ea_H), J13 x1 x2 x3 x4 h = some (r, h') → ShC h → ea_W mX10_leaveRun d h0 none h' 13 [(0, vR (some 13)), (1, vI x1), (2, vI x2), (3, vI x3), (4, vI x4)] [] h) {x1 : Int32} {x2 : Int32} {x3 : Int32} {x4 : Int32} {y7 : Int64} {h : ea_H} {r : Unit} {h' : ea_H} (E : BX10_leaveRun_89 J13 x1 x2 x3 x4 y7 h = some (r, h')) (hs : ShC h) : ea_W mX10_leaveRun d h0 none h' 89 [(0, vR (some 13)), (1, vI x1), (2, vI x2), (3, vI x3), (4, vI x4), (7, vJ y7)] [] h := by
  unfold BX10_leaveRun_89 at E
  obtain ⟨w13, Ew13, E⟩ := bd_some E
  have hsw13 : ShC w13.2 := ShC_core ((kpX10_dayIn _ _) _ Ew13) hs
  refine ea_bipush (pc := 89) dX10_leaveRun_89 (v := 12) rfl ?_
  refine ea_bipush (pc := 91) dX10_leaveRun_91 (v := 10) rfl ?_
  refine ea_iload_n (pc := 93) dX10_leaveRun_93 rfl 1 rfl ?_
  refine ea_callS (pc := 94) (d' := d - 1) (As := [vI x1]) (st := [vI 10, vI 12]) dX10_leaveRun_94 kX10_dayIn (sX10_dayIn (d := d - 1) (by omega) Ew13) (by omega) rfl (Nat.le_of_ble_eq_true rfl) ew_826 ew_827 ?_
  obtain ⟨w14, Ew14, E⟩ := bd_some E
  have hsw14 : ShC w14.2 := ShC_core ((kpX10_trainIn _ _) _ Ew14) hsw13
  refine ea_imul (pc := 97) dX10_leaveRun_97 ?_
  refine ea_iload_n (pc := 98) dX10_leaveRun_98 rfl 1 rfl ?_
  refine ea_callS (pc := 99) (d' := d - 1) (As := [vI x1]) (st := [vI ((10 : Int32) * w13.1), vI 12]) dX10_leaveRun_99 kX10_trainIn (sX10_trainIn (d := d - 1) (by omega) Ew14) (by omega) rfl (Nat.le_of_ble_eq_true rfl) ew_785 ew_786 ?_
  obtain ⟨v15, ev15, E⟩ := let_some E
  refine ea_iadd (pc := 102) dX10_leaveRun_102 ?_
  refine ea_imul (pc := 103) dX10_leaveRun_103 ?_
  refine ea_iload (pc := 104) dX10_leaveRun_104 4 rfl ?_
  refine ea_iadd (pc := 106) dX10_leaveRun_106 ?_
  obtain ⟨z16, E⟩ := gd_some E
  refine ea_istore (pc := 107) (lv' := [(0, vR (some 13)), (1, vI x1), (2, vI x2), (3, vI x3), (4, vI x4), (7, vJ y7), (9, vI v15)]) dX10_leaveRun_107 (Nat.le_of_ble_eq_true rfl) [1, 2, 3, 4, 5, 6, 0] (by rw [ev15]; rfl) ?_
  refine ea_aload_n (pc := 109) dX10_leaveRun_109 rfl 0 rfl ?_
  refine ea_getR (pc := 110) dX10_leaveRun_110 ec_10 (k := 5) (Nat.le_of_ble_eq_true rfl) rfl (Or.inl ew_240) (cShC_13 hsw14).1 (cShC_13 hsw14).2.1 (rShC_13_5 hsw14) ?_
  refine ea_iload (pc := 113) dX10_leaveRun_113 6 rfl ?_
  refine ea_aload_n (pc := 115) dX10_leaveRun_115 rfl 0 rfl ?_
  refine ea_getR (pc := 116) dX10_leaveRun_116 ec_10 (k := 5) (Nat.le_of_ble_eq_true rfl) rfl (Or.inl ew_240) (cShC_13 hsw14).1 (cShC_13 hsw14).2.1 (rShC_13_5 hsw14) ?_
  refine ea_iload (pc := 119) dX10_leaveRun_119 6 rfl ?_
  obtain ⟨z17, E⟩ := gd_some E
  refine ea_lald (pc := 121) dX10_leaveRun_121 (cShC_16 hsw14).1 (cShC_16 hsw14).2.1 (ea_vpl (cShC_16 hsw14).2.2 z16) ?_
  refine ea_lload (pc := 122) dX10_leaveRun_122 5 rfl ?_
  refine ea_mminJ (pc := 124) dX10_leaveRun_124 ew_830 ew_831 ew_119 ew_832 (by omega) (Nat.le_of_ble_eq_true rfl) ?_
  obtain ⟨H18, eH18, E⟩ := let_some E
  refine ea_last (pc := 127) dX10_leaveRun_127 (cShC_16 hsw14).1 (cShC_16 hsw14).2.1 (ea_vpl (cShC_16 hsw14).2.2 z17) ?_
  refine ea_nm eH18 ?_
  have hsH18 : ShC H18 := by rw [eH18]; exact hsw14
  refine ea_iinc (pc := 128) (v := 1) (lv' := [(0, vR (some 13)), (1, vI x1), (2, vI x2), (3, vI x3), (4, vI (x4 + (1 : Int32)))]) dX10_leaveRun_128 4 rfl rfl (Nat.le_of_ble_eq_true rfl) [1, 2, 3, 4, 0] rfl ?_
  refine ea_goto (pc := 131) (tgt := 13) dX10_leaveRun_131 rfl ?_
  exact (kJ13 (x1 : Int32) (x2 : Int32) (x3 : Int32) ((x4 + (1 : Int32)) : Int32) H18 _ _ E hsH18)
theorem kBX10_leaveRun_89 {J13 : Int32 → Int32 → Int32 → Int32 → ea_H → Option (Unit × ea_H)}  (cJ13 : ∀ (x1 : Int32) (x2 : Int32) (x3 : Int32) (x4 : Int32) (h : ea_H), kp (ea_core h) (J13 x1 x2 x3 x4 h)) {x1 : Int32} {x2 : Int32} {x3 : Int32} {x4 : Int32} {y7 : Int64} {h : ea_H} : kp (ea_core h) (BX10_leaveRun_89 J13 x1 x2 x3 x4 y7 h) :=
  (kp_bind (kp_tw (kpX10_dayIn _ _) rfl) fun w13 hcw13 => (kp_bind (kp_tw (kpX10_trainIn _ _) hcw13) fun w14 hcw14 => (kp_let (kp_gd (kp_gd (kp_let (kp_tw (cJ13 _ _ _ _ _) hcw14)))))))
theorem lBX10_leaveRun_89 {J13 : Int32 → Int32 → Int32 → Int32 → ea_H → Option (Unit × ea_H)} {J13_ : Int32 → Int32 → Int32 → Int32 → ea_H → Option (Unit × ea_H)}  (mJ13 : ∀ (x1 : Int32) (x2 : Int32) (x3 : Int32) (x4 : Int32) (h : ea_H), fle (J13 x1 x2 x3 x4 h) (J13_ x1 x2 x3 x4 h)) {x1 : Int32} {x2 : Int32} {x3 : Int32} {x4 : Int32} {y7 : Int64} {h : ea_H} : fle (BX10_leaveRun_89 J13 x1 x2 x3 x4 y7 h) (BX10_leaveRun_89 J13_ x1 x2 x3 x4 y7 h) :=
  (fle_bind (fle_rfl _) fun _ => (fle_bind (fle_rfl _) fun _ => (fle_let fun _ => (fle_gd (fle_gd (fle_let fun _ => (mJ13 _ _ _ _ _)))))))
theorem nBX10_leaveRun_89 {J13 : Int32 → Int32 → Int32 → Int32 → ea_H → Option (Unit × ea_H)} {J13_ : Nat → (Int32 → Int32 → Int32 → Int32 → ea_H → Option (Unit × ea_H))}  (mJ13 : ∀ (x1 : Int32) (x2 : Int32) (x3 : Int32) (x4 : Int32) (h : ea_H), fct (J13 x1 x2 x3 x4 h) (fun f => J13_ f x1 x2 x3 x4 h)) {x1 : Int32} {x2 : Int32} {x3 : Int32} {x4 : Int32} {y7 : Int64} {h : ea_H} : fct (BX10_leaveRun_89 J13 x1 x2 x3 x4 y7 h) (fun f => BX10_leaveRun_89 (J13_ f) x1 x2 x3 x4 y7 h) :=
  (fct_bind (fct_rfl _) fun _ => (fct_bind (fct_rfl _) fun _ => (fct_let fun _ => (fct_gd (fct_gd (fct_let fun _ => (mJ13 _ _ _ _ _)))))))
noncomputable def gX10_leaveRun : Nat → (Int32 → Int32 → ea_H → Option (Unit × ea_H)) × (Int32 → Int32 → Int32 → Int32 → ea_H → Option (Unit × ea_H)) × (Int32 → Int32 → Int32 → Int32 → Int64 → ea_H → Option (Unit × ea_H))
  | 0 => (fun _ _ _ => none, fun _ _ _ _ _ => none, fun _ _ _ _ _ _ => none)
  | f + 1 => (BX10_leaveRun_0 (gX10_leaveRun f).2.1, BX10_leaveRun_13 (gX10_leaveRun f).2.2, BX10_leaveRun_89 (gX10_leaveRun f).2.1)
theorem mgX10_leaveRun : ∀ f : Nat, (∀ (x1 : Int32) (x2 : Int32) (h : ea_H), fle ((gX10_leaveRun f).1 x1 x2 h) ((gX10_leaveRun (f + 1)).1 x1 x2 h)) ∧ (∀ (x1 : Int32) (x2 : Int32) (x3 : Int32) (x4 : Int32) (h : ea_H), fle ((gX10_leaveRun f).2.1 x1 x2 x3 x4 h) ((gX10_leaveRun (f + 1)).2.1 x1 x2 x3 x4 h)) ∧ (∀ (x1 : Int32) (x2 : Int32) (x3 : Int32) (x4 : Int32) (y7 : Int64) (h : ea_H), fle ((gX10_leaveRun f).2.2 x1 x2 x3 x4 y7 h) ((gX10_leaveRun (f + 1)).2.2 x1 x2 x3 x4 y7 h)) := by
  intro f
  induction f with
  | zero => exact ⟨fun _ _ _ => fle_none _, fun _ _ _ _ _ => fle_none _, fun _ _ _ _ _ _ => fle_none _⟩
  | succ f ih => exact ⟨fun _ _ _ => lBX10_leaveRun_0 ih.2.1, fun _ _ _ _ _ => lBX10_leaveRun_13 ih.2.2, fun _ _ _ _ _ _ => lBX10_leaveRun_89 ih.2.1⟩
noncomputable def qX10_leaveRun_0 (x1 : Int32) (x2 : Int32) (h : ea_H) : Option (Unit × ea_H) := flim fun f => (gX10_leaveRun f).1 x1 x2 h
noncomputable def qX10_leaveRun_13 (x1 : Int32) (x2 : Int32) (x3 : Int32) (x4 : Int32) (h : ea_H) : Option (Unit × ea_H) := flim fun f => (gX10_leaveRun f).2.1 x1 x2 x3 x4 h
noncomputable def qX10_leaveRun_89 (x1 : Int32) (x2 : Int32) (x3 : Int32) (x4 : Int32) (y7 : Int64) (h : ea_H) : Option (Unit × ea_H) := flim fun f => (gX10_leaveRun f).2.2 x1 x2 x3 x4 y7 h
theorem fqX10_leaveRun_0 (x1 : Int32) (x2 : Int32) (h : ea_H) : fct (qX10_leaveRun_0 x1 x2 h) fun f => (gX10_leaveRun f).1 x1 x2 h := flim_ct fun f => (mgX10_leaveRun f).1 x1 x2 h
theorem fqX10_leaveRun_13 (x1 : Int32) (x2 : Int32) (x3 : Int32) (x4 : Int32) (h : ea_H) : fct (qX10_leaveRun_13 x1 x2 x3 x4 h) fun f => (gX10_leaveRun f).2.1 x1 x2 x3 x4 h := flim_ct fun f => (mgX10_leaveRun f).2.1 x1 x2 x3 x4 h
theorem fqX10_leaveRun_89 (x1 : Int32) (x2 : Int32) (x3 : Int32) (x4 : Int32) (y7 : Int64) (h : ea_H) : fct (qX10_leaveRun_89 x1 x2 x3 x4 y7 h) fun f => (gX10_leaveRun f).2.2 x1 x2 x3 x4 y7 h := flim_ct fun f => (mgX10_leaveRun f).2.2 x1 x2 x3 x4 y7 h
/-- how a block opens -/
theorem uqX10_leaveRun_0 {x1 : Int32} {x2 : Int32} {h : ea_H} {P : Unit × ea_H → Prop} (H : sat (BX10_leaveRun_0 qX10_leaveRun_13 x1 x2 h) P) : sat (qX10_leaveRun_0 x1 x2 h) P := by
  obtain ⟨x, e, hp⟩ := H
  obtain ⟨n, hn⟩ := nBX10_leaveRun_0 fqX10_leaveRun_13 x e
  exact ⟨x, flim_at (fun f => (mgX10_leaveRun f).1 x1 x2 h) (f := n + 1) (hn n (Nat.le_refl _)), hp⟩
/-- how a block opens -/
theorem uqX10_leaveRun_13 {x1 : Int32} {x2 : Int32} {x3 : Int32} {x4 : Int32} {h : ea_H} {P : Unit × ea_H → Prop} (H : sat (BX10_leaveRun_13 qX10_leaveRun_89 x1 x2 x3 x4 h) P) : sat (qX10_leaveRun_13 x1 x2 x3 x4 h) P := by
  obtain ⟨x, e, hp⟩ := H
  obtain ⟨n, hn⟩ := nBX10_leaveRun_13 fqX10_leaveRun_89 x e
  exact ⟨x, flim_at (fun f => (mgX10_leaveRun f).2.1 x1 x2 x3 x4 h) (f := n + 1) (hn n (Nat.le_refl _)), hp⟩
/-- how a block opens -/
theorem uqX10_leaveRun_89 {x1 : Int32} {x2 : Int32} {x3 : Int32} {x4 : Int32} {y7 : Int64} {h : ea_H} {P : Unit × ea_H → Prop} (H : sat (BX10_leaveRun_89 qX10_leaveRun_13 x1 x2 x3 x4 y7 h) P) : sat (qX10_leaveRun_89 x1 x2 x3 x4 y7 h) P := by
  obtain ⟨x, e, hp⟩ := H
  obtain ⟨n, hn⟩ := nBX10_leaveRun_89 fqX10_leaveRun_13 x e
  exact ⟨x, flim_at (fun f => (mgX10_leaveRun f).2.2 x1 x2 x3 x4 y7 h) (f := n + 1) (hn n (Nat.le_refl _)), hp⟩
theorem kgX10_leaveRun : ∀ f : Nat, (∀ (x1 : Int32) (x2 : Int32) (h : ea_H), kp (ea_core h) ((gX10_leaveRun f).1 x1 x2 h)) ∧ (∀ (x1 : Int32) (x2 : Int32) (x3 : Int32) (x4 : Int32) (h : ea_H), kp (ea_core h) ((gX10_leaveRun f).2.1 x1 x2 x3 x4 h)) ∧ (∀ (x1 : Int32) (x2 : Int32) (x3 : Int32) (x4 : Int32) (y7 : Int64) (h : ea_H), kp (ea_core h) ((gX10_leaveRun f).2.2 x1 x2 x3 x4 y7 h)) := by
  intro f
  induction f with
  | zero => exact ⟨fun _ _ _ => kp_none _, fun _ _ _ _ _ => kp_none _, fun _ _ _ _ _ _ => kp_none _⟩
  | succ f ih => exact ⟨fun _ _ _ => kBX10_leaveRun_0 ih.2.1, fun _ _ _ _ _ => kBX10_leaveRun_13 ih.2.2, fun _ _ _ _ _ _ => kBX10_leaveRun_89 ih.2.1⟩
theorem tgX10_leaveRun {d : Nat} {h0 : ea_H} (hd : 3 ≤ d) : ∀ f : Nat, (∀ (x1 : Int32) (x2 : Int32) (h : ea_H) (r : Unit) (h' : ea_H), (gX10_leaveRun f).1 x1 x2 h = some (r, h') → ShC h → ea_W mX10_leaveRun d h0 none h' 0 [(0, vR (some 13)), (1, vI x1), (2, vI x2)] [] h) ∧ (∀ (x1 : Int32) (x2 : Int32) (x3 : Int32) (x4 : Int32) (h : ea_H) (r : Unit) (h' : ea_H), (gX10_leaveRun f).2.1 x1 x2 x3 x4 h = some (r, h') → ShC h → ea_W mX10_leaveRun d h0 none h' 13 [(0, vR (some 13)), (1, vI x1), (2, vI x2), (3, vI x3), (4, vI x4)] [] h) ∧ (∀ (x1 : Int32) (x2 : Int32) (x3 : Int32) (x4 : Int32) (y7 : Int64) (h : ea_H) (r : Unit) (h' : ea_H), (gX10_leaveRun f).2.2 x1 x2 x3 x4 y7 h = some (r, h') → ShC h → ea_W mX10_leaveRun d h0 none h' 89 [(0, vR (some 13)), (1, vI x1), (2, vI x2), (3, vI x3), (4, vI x4), (7, vJ y7)] [] h) := by
  intro f
  induction f with
  | zero => exact ⟨fun _ _ _ _ _ E => no_some E, fun _ _ _ _ _ _ _ E => no_some E, fun _ _ _ _ _ _ _ _ E => no_some E⟩
  | succ f ih => exact ⟨fun _ _ _ _ _ E hs => tBX10_leaveRun_0 hd ih.2.1 E hs, fun _ _ _ _ _ _ _ E hs => tBX10_leaveRun_13 hd ih.2.2 E hs, fun _ _ _ _ _ _ _ _ E hs => tBX10_leaveRun_89 hd ih.2.1 E hs⟩
noncomputable def qX10_leaveRun (x1 : Int32) (x2 : Int32) (h : ea_H) : Option (Unit × ea_H) := qX10_leaveRun_0 x1 x2 h
theorem sX10_leaveRun {d : Nat} {x1 : Int32} {x2 : Int32} {h : ea_H} {r : Unit} {h' : ea_H} (hd : 3 ≤ d) (hs : ShC h) (K : qX10_leaveRun x1 x2 h = some (r, h')) : ea_Met mX10_leaveRun d [vR (some 13), vI x1, vI x2] h none h' := by
  unfold qX10_leaveRun at K
  obtain ⟨n, hn⟩ := fqX10_leaveRun_0 x1 x2 h _ K
  have W := (tgX10_leaveRun (d := d) (h0 := h) hd n).1 x1 x2 h _ _ (hn n (Nat.le_refl _)) hs
  exact ea_enter rfl (Nat.le_of_ble_eq_true rfl) W
theorem kpX10_leaveRun (x1 : Int32) (x2 : Int32) (h : ea_H) : kp (ea_core h) (qX10_leaveRun x1 x2 h) := fun x e => by
  obtain ⟨n, hn⟩ := fqX10_leaveRun_0 x1 x2 h x e
  exact (kgX10_leaveRun n).1 x1 x2 h x (hn n (Nat.le_refl _))
noncomputable def BX11_miles_0 (x1 : Int32) (x2 : Int32) (h : ea_H) : Option (Int32 × ea_H) :=
  (Option.bind (qX7_has (x1 : Int32) h) fun w1 => (if w1.1 = (0 : Int32) then (some (((-1) : Int32), w1.2)) else (Option.bind (qX7_has (x2 : Int32) w1.2) fun w2 => (if w2.1 = (0 : Int32) then (some (((-1) : Int32), w2.2)) else (Option.bind (qX7_between (x1 : Int32) (x2 : Int32) w2.2) fun w3 => (some (w3.1, w3.2)))))))
theorem tBX11_miles_0 {d : Nat} {h0 : ea_H} (hd : 2 ≤ d)  {x1 : Int32} {x2 : Int32} {h : ea_H} {r : Int32} {h' : ea_H} (E : BX11_miles_0 x1 x2 h = some (r, h')) (hs : ShC h) : ea_W mX11_miles d h0 (some (vI r)) h' 0 [(0, vR (some 0)), (1, vI x1), (2, vI x2)] [] h := by
  unfold BX11_miles_0 at E
  obtain ⟨w1, Ew1, E⟩ := bd_some E
  have hsw1 : ShC w1.2 := ShC_core ((kpX7_has _ _) _ Ew1) hs
  refine ea_aload_n (pc := 0) dX11_miles_0 rfl 0 rfl ?_
  refine ea_getR (pc := 1) dX11_miles_1 ec_11 (k := 0) (Nat.le_of_ble_eq_true rfl) rfl (Or.inl ew_614) (cShC_0 hs).1 (cShC_0 hs).2.1 (rShC_0_0 hs) ?_
  refine ea_iload_n (pc := 4) dX11_miles_4 rfl 1 rfl ?_
  refine ea_callV (pc := 5) (d' := d - 1) (As := [vI x1]) (st := []) dX11_miles_5 kX7_has (sX7_has (d := d - 1) (by omega) hs Ew1) (by omega) rfl (Nat.le_of_ble_eq_true rfl) ew_680 ew_681 ew_682 (ci := 7) rfl (by decide) (cShC_1 hs).1 (cShC_1 hs).2.1 ?_
  refine ea_if_eq (pc := 8) (tgt := 22) dX11_miles_8 rfl (fun c5 => ?_) (fun c5 => ?_)
  · have E := (if_pos c5).symm.trans E
    refine ea_iconst (pc := 22) dX11_miles_22 (v := (-1)) rfl ?_
    exact ea_iretO (pc := 23) dX11_miles_23 rfl rfl E
  · have E := (if_neg c5).symm.trans E
    obtain ⟨w2, Ew2, E⟩ := bd_some E
    have hsw2 : ShC w2.2 := ShC_core ((kpX7_has _ _) _ Ew2) hsw1
    refine ea_aload_n (pc := 11) dX11_miles_11 rfl 0 rfl ?_
    refine ea_getR (pc := 12) dX11_miles_12 ec_11 (k := 0) (Nat.le_of_ble_eq_true rfl) rfl (Or.inl ew_614) (cShC_0 hsw1).1 (cShC_0 hsw1).2.1 (rShC_0_0 hsw1) ?_
    refine ea_iload_n (pc := 15) dX11_miles_15 rfl 2 rfl ?_
    refine ea_callV (pc := 16) (d' := d - 1) (As := [vI x2]) (st := []) dX11_miles_16 kX7_has (sX7_has (d := d - 1) (by omega) hsw1 Ew2) (by omega) rfl (Nat.le_of_ble_eq_true rfl) ew_680 ew_681 ew_682 (ci := 7) rfl (by decide) (cShC_1 hsw1).1 (cShC_1 hsw1).2.1 ?_
    refine ea_if_ne (pc := 19) (tgt := 24) dX11_miles_19 rfl (fun c4 => ?_) (fun c4 => ?_)
    · have E := (if_neg c4).symm.trans E
      obtain ⟨w3, Ew3, E⟩ := bd_some E
      have hsw3 : ShC w3.2 := ShC_core ((kpX7_between _ _ _) _ Ew3) hsw2
      refine ea_aload_n (pc := 24) dX11_miles_24 rfl 0 rfl ?_
      refine ea_getR (pc := 25) dX11_miles_25 ec_11 (k := 0) (Nat.le_of_ble_eq_true rfl) rfl (Or.inl ew_614) (cShC_0 hsw2).1 (cShC_0 hsw2).2.1 (rShC_0_0 hsw2) ?_
      refine ea_iload_n (pc := 28) dX11_miles_28 rfl 1 rfl ?_
      refine ea_iload_n (pc := 29) dX11_miles_29 rfl 2 rfl ?_
      refine ea_callV (pc := 30) (d' := d - 1) (As := [vI x1, vI x2]) (st := []) dX11_miles_30 kX7_between (sX7_between (d := d - 1) (by omega) hsw2 Ew3) (by omega) rfl (Nat.le_of_ble_eq_true rfl) ew_692 ew_693 ew_694 (ci := 7) rfl (by decide) (cShC_1 hsw2).1 (cShC_1 hsw2).2.1 ?_
      exact ea_iretO (pc := 33) dX11_miles_33 rfl rfl E
    · have E := (if_pos c4).symm.trans E
      refine ea_iconst (pc := 22) dX11_miles_22 (v := (-1)) rfl ?_
      exact ea_iretO (pc := 23) dX11_miles_23 rfl rfl E
theorem kBX11_miles_0  {x1 : Int32} {x2 : Int32} {h : ea_H} : kp (ea_core h) (BX11_miles_0 x1 x2 h) :=
  (kp_bind (kp_tw (kpX7_has _ _) rfl) fun w1 hcw1 => (kp_ite (kp_ret hcw1) (kp_bind (kp_tw (kpX7_has _ _) hcw1) fun w2 hcw2 => (kp_ite (kp_ret hcw2) (kp_bind (kp_tw (kpX7_between _ _ _) hcw2) fun w3 hcw3 => (kp_ret hcw3))))))
noncomputable def qX11_miles (x1 : Int32) (x2 : Int32) (h : ea_H) : Option (Int32 × ea_H) := BX11_miles_0 x1 x2 h
theorem sX11_miles {d : Nat} {x1 : Int32} {x2 : Int32} {h : ea_H} {r : Int32} {h' : ea_H} (hd : 2 ≤ d) (hs : ShC h) (K : qX11_miles x1 x2 h = some (r, h')) : ea_Met mX11_miles d [vR (some 0), vI x1, vI x2] h (some (vI r)) h' := by
  unfold qX11_miles at K
  have W := tBX11_miles_0 hd (h0 := h) K hs
  exact ea_enter rfl (Nat.le_of_ble_eq_true rfl) W
theorem kpX11_miles (x1 : Int32) (x2 : Int32) (h : ea_H) : kp (ea_core h) (qX11_miles x1 x2 h) := kBX11_miles_0
noncomputable def BX11_stop_0 (x1 : Int32) (x2 : Int32) (x3 : Int32) (x4 : Int32) (x5 : Int32) (h : ea_H) : Option (Int32 × ea_H) :=
  (if (0 : Int32) < (ea_i h 0 14) then (some (((-1) : Int32), h)) else (Option.bind (qX9_has (x1 : Int32) h) fun w1 => (if w1.1 = (0 : Int32) then (some (((-1) : Int32), w1.2)) else (Option.bind (qX7_has (x2 : Int32) w1.2) fun w2 => (if w2.1 = (0 : Int32) then (some (((-1) : Int32), w2.2)) else (Option.bind (qX9_add (x1 : Int32) (x2 : Int32) (x3 : Int32) (x4 : Int32) (x5 : Int32) w2.2) fun w3 => (if w3.1 = ((-1) : Int32) then (some (w3.1, w3.2)) else (Option.bind (qX11_tableChanged  w3.2) fun w4 => (some (w3.1, w4.2))))))))))
theorem tBX11_stop_0 {d : Nat} {h0 : ea_H} (hd : 2 ≤ d)  {x1 : Int32} {x2 : Int32} {x3 : Int32} {x4 : Int32} {x5 : Int32} {h : ea_H} {r : Int32} {h' : ea_H} (E : BX11_stop_0 x1 x2 x3 x4 x5 h = some (r, h')) (hs : ShC h) : ea_W mX11_stop d h0 (some (vI r)) h' 0 [(0, vR (some 0)), (1, vI x1), (2, vI x2), (3, vI x3), (4, vI x4), (5, vI x5)] [] h := by
  unfold BX11_stop_0 at E
  refine ea_aload_n (pc := 0) dX11_stop_0 rfl 0 rfl ?_
  refine ea_getI (pc := 1) dX11_stop_1 ec_11 (k := 14) (Nat.le_of_ble_eq_true rfl) rfl (Or.inl ew_628) (cShC_0 hs).1 (cShC_0 hs).2.1 ?_
  refine ea_if_gt (pc := 4) (tgt := 29) dX11_stop_4 rfl (fun c8 => ?_) (fun c8 => ?_)
  · have E := (if_pos c8).symm.trans E
    refine ea_iconst (pc := 29) dX11_stop_29 (v := (-1)) rfl ?_
    exact ea_iretO (pc := 30) dX11_stop_30 rfl rfl E
  · have E := (if_neg c8).symm.trans E
    obtain ⟨w1, Ew1, E⟩ := bd_some E
    have hsw1 : ShC w1.2 := ShC_core ((kpX9_has _ _) _ Ew1) hs
    refine ea_aload_n (pc := 7) dX11_stop_7 rfl 0 rfl ?_
    refine ea_getR (pc := 8) dX11_stop_8 ec_11 (k := 1) (Nat.le_of_ble_eq_true rfl) rfl (Or.inl ew_615) (cShC_0 hs).1 (cShC_0 hs).2.1 (rShC_0_1 hs) ?_
    refine ea_iload_n (pc := 11) dX11_stop_11 rfl 1 rfl ?_
    refine ea_callV (pc := 12) (d' := d - 1) (As := [vI x1]) (st := []) dX11_stop_12 kX9_has (sX9_has (d := d - 1) (by omega) hs Ew1) (by omega) rfl (Nat.le_of_ble_eq_true rfl) ew_704 ew_705 ew_706 (ci := 9) rfl (by decide) (cShC_5 hs).1 (cShC_5 hs).2.1 ?_
    refine ea_if_eq (pc := 15) (tgt := 29) dX11_stop_15 rfl (fun c7 => ?_) (fun c7 => ?_)
    · have E := (if_pos c7).symm.trans E
      refine ea_iconst (pc := 29) dX11_stop_29 (v := (-1)) rfl ?_
      exact ea_iretO (pc := 30) dX11_stop_30 rfl rfl E
    · have E := (if_neg c7).symm.trans E
      obtain ⟨w2, Ew2, E⟩ := bd_some E
      have hsw2 : ShC w2.2 := ShC_core ((kpX7_has _ _) _ Ew2) hsw1
      refine ea_aload_n (pc := 18) dX11_stop_18 rfl 0 rfl ?_
      refine ea_getR (pc := 19) dX11_stop_19 ec_11 (k := 0) (Nat.le_of_ble_eq_true rfl) rfl (Or.inl ew_614) (cShC_0 hsw1).1 (cShC_0 hsw1).2.1 (rShC_0_0 hsw1) ?_
      refine ea_iload_n (pc := 22) dX11_stop_22 rfl 2 rfl ?_
      refine ea_callV (pc := 23) (d' := d - 1) (As := [vI x2]) (st := []) dX11_stop_23 kX7_has (sX7_has (d := d - 1) (by omega) hsw1 Ew2) (by omega) rfl (Nat.le_of_ble_eq_true rfl) ew_680 ew_681 ew_682 (ci := 7) rfl (by decide) (cShC_1 hsw1).1 (cShC_1 hsw1).2.1 ?_
      refine ea_if_ne (pc := 26) (tgt := 31) dX11_stop_26 rfl (fun c6 => ?_) (fun c6 => ?_)
      · have E := (if_neg c6).symm.trans E
        obtain ⟨w3, Ew3, E⟩ := bd_some E
        have hsw3 : ShC w3.2 := ShC_core ((kpX9_add _ _ _ _ _ _) _ Ew3) hsw2
        refine ea_aload_n (pc := 31) dX11_stop_31 rfl 0 rfl ?_
        refine ea_getR (pc := 32) dX11_stop_32 ec_11 (k := 1) (Nat.le_of_ble_eq_true rfl) rfl (Or.inl ew_615) (cShC_0 hsw2).1 (cShC_0 hsw2).2.1 (rShC_0_1 hsw2) ?_
        refine ea_iload_n (pc := 35) dX11_stop_35 rfl 1 rfl ?_
        refine ea_iload_n (pc := 36) dX11_stop_36 rfl 2 rfl ?_
        refine ea_iload_n (pc := 37) dX11_stop_37 rfl 3 rfl ?_
        refine ea_iload (pc := 38) dX11_stop_38 4 rfl ?_
        refine ea_iload (pc := 40) dX11_stop_40 5 rfl ?_
        refine ea_callV (pc := 42) (d' := d - 1) (As := [vI x1, vI x2, vI x3, vI x4, vI x5]) (st := []) dX11_stop_42 kX9_add (sX9_add (d := d - 1) (by omega) hsw2 Ew3) (by omega) rfl (Nat.le_of_ble_eq_true rfl) ew_708 ew_709 ew_710 (ci := 9) rfl (by decide) (cShC_5 hsw2).1 (cShC_5 hsw2).2.1 ?_
        refine ea_istore (pc := 45) (lv' := [(0, vR (some 0)), (6, vI w3.1)]) dX11_stop_45 (Nat.le_of_ble_eq_true rfl) [1, 0] rfl ?_
        refine ea_iload (pc := 47) dX11_stop_47 1 rfl ?_
        refine ea_iconst (pc := 49) dX11_stop_49 (v := (-1)) rfl ?_
        refine ea_icmp_eq (pc := 50) (tgt := 57) dX11_stop_50 rfl (fun c5 => ?_) (fun c5 => ?_)
        · have E := (if_pos c5).symm.trans E
          refine ea_iload (pc := 57) dX11_stop_57 1 rfl ?_
          exact ea_iretO (pc := 59) dX11_stop_59 rfl rfl E
        · have E := (if_neg c5).symm.trans E
          obtain ⟨w4, Ew4, E⟩ := bd_some E
          have hsw4 : ShC w4.2 := ShC_core ((kpX11_tableChanged _) _ Ew4) hsw3
          refine ea_aload_n (pc := 53) dX11_stop_53 rfl 0 rfl ?_
          refine ea_callV (pc := 54) (d' := d - 1) (As := []) (st := []) dX11_stop_54 kX11_tableChanged (sX11_tableChanged (d := d - 1) (by omega) hsw3 Ew4) (by omega) rfl (Nat.le_of_ble_eq_true rfl) ew_712 ew_714 ew_1 (ci := 11) rfl (by decide) (cShC_0 hsw3).1 (cShC_0 hsw3).2.1 ?_
          refine ea_iload (pc := 57) dX11_stop_57 1 rfl ?_
          exact ea_iretO (pc := 59) dX11_stop_59 rfl rfl E
      · have E := (if_pos c6).symm.trans E
        refine ea_iconst (pc := 29) dX11_stop_29 (v := (-1)) rfl ?_
        exact ea_iretO (pc := 30) dX11_stop_30 rfl rfl E
theorem kBX11_stop_0  {x1 : Int32} {x2 : Int32} {x3 : Int32} {x4 : Int32} {x5 : Int32} {h : ea_H} : kp (ea_core h) (BX11_stop_0 x1 x2 x3 x4 x5 h) :=
  (kp_ite (kp_ret rfl) (kp_bind (kp_tw (kpX9_has _ _) rfl) fun w1 hcw1 => (kp_ite (kp_ret hcw1) (kp_bind (kp_tw (kpX7_has _ _) hcw1) fun w2 hcw2 => (kp_ite (kp_ret hcw2) (kp_bind (kp_tw (kpX9_add _ _ _ _ _ _) hcw2) fun w3 hcw3 => (kp_ite (kp_ret hcw3) (kp_bind (kp_tw (kpX11_tableChanged _) hcw3) fun w4 hcw4 => (kp_ret hcw4)))))))))
noncomputable def qX11_stop (x1 : Int32) (x2 : Int32) (x3 : Int32) (x4 : Int32) (x5 : Int32) (h : ea_H) : Option (Int32 × ea_H) := BX11_stop_0 x1 x2 x3 x4 x5 h
theorem sX11_stop {d : Nat} {x1 : Int32} {x2 : Int32} {x3 : Int32} {x4 : Int32} {x5 : Int32} {h : ea_H} {r : Int32} {h' : ea_H} (hd : 2 ≤ d) (hs : ShC h) (K : qX11_stop x1 x2 x3 x4 x5 h = some (r, h')) : ea_Met mX11_stop d [vR (some 0), vI x1, vI x2, vI x3, vI x4, vI x5] h (some (vI r)) h' := by
  unfold qX11_stop at K
  have W := tBX11_stop_0 hd (h0 := h) K hs
  exact ea_enter rfl (Nat.le_of_ble_eq_true rfl) W
theorem kpX11_stop (x1 : Int32) (x2 : Int32) (x3 : Int32) (x4 : Int32) (x5 : Int32) (h : ea_H) : kp (ea_core h) (qX11_stop x1 x2 x3 x4 x5 h) := kBX11_stop_0
noncomputable def BX11_stopOf_0 (x1 : Int32) (x2 : Int32) (x3 : Int32) (h : ea_H) : Option (Int32 × ea_H) :=
  (Option.bind (qX9_has (x1 : Int32) h) fun w1 => (if w1.1 = (0 : Int32) then (some (((-1) : Int32), w1.2)) else (if x2 = ((-1) : Int32) then (if x3 = (0 : Int32) then (gd (vp_in x1 10) (some ((ea_i w1.2 6 (Int32.toNatClampNeg x1)), w1.2))) else (some (((-1) : Int32), w1.2))) else (if x2 < (0 : Int32) then (some (((-1) : Int32), w1.2)) else (gd (vp_in x1 10) (if x2 < (ea_i w1.2 6 (Int32.toNatClampNeg x1)) then (ea_let (((8 : Int32) * x1) + x2) fun (v3 : Int32) => (if Int32.toInt x3 = 0 then (gd (vp_in v3 80) (some ((ea_i w1.2 7 (Int32.toNatClampNeg v3)), w1.2))) else (if Int32.toInt x3 = 1 then (gd (vp_in v3 80) (some ((ea_i w1.2 8 (Int32.toNatClampNeg v3)), w1.2))) else (if Int32.toInt x3 = 2 then (gd (vp_in v3 80) (some ((ea_i w1.2 9 (Int32.toNatClampNeg v3)), w1.2))) else (if Int32.toInt x3 = 3 then (gd (vp_in v3 80) (if (ea_i w1.2 10 (Int32.toNatClampNeg v3)) = (0 : Int32) then (some ((0 : Int32), w1.2)) else (some ((1 : Int32), w1.2)))) else (some (((-1) : Int32), w1.2))))))) else (some (((-1) : Int32), w1.2))))))))
theorem tBX11_stopOf_0 {d : Nat} {h0 : ea_H} (hd : 2 ≤ d)  {x1 : Int32} {x2 : Int32} {x3 : Int32} {h : ea_H} {r : Int32} {h' : ea_H} (E : BX11_stopOf_0 x1 x2 x3 h = some (r, h')) (hs : ShC h) : ea_W mX11_stopOf d h0 (some (vI r)) h' 0 [(0, vR (some 0)), (1, vI x1), (2, vI x2), (3, vI x3)] [] h := by
  unfold BX11_stopOf_0 at E
  obtain ⟨w1, Ew1, E⟩ := bd_some E
  have hsw1 : ShC w1.2 := ShC_core ((kpX9_has _ _) _ Ew1) hs
  refine ea_aload_n (pc := 0) dX11_stopOf_0 rfl 0 rfl ?_
  refine ea_getR (pc := 1) dX11_stopOf_1 ec_11 (k := 1) (Nat.le_of_ble_eq_true rfl) rfl (Or.inl ew_615) (cShC_0 hs).1 (cShC_0 hs).2.1 (rShC_0_1 hs) ?_
  refine ea_iload_n (pc := 4) dX11_stopOf_4 rfl 1 rfl ?_
  refine ea_callV (pc := 5) (d' := d - 1) (As := [vI x1]) (st := []) dX11_stopOf_5 kX9_has (sX9_has (d := d - 1) (by omega) hs Ew1) (by omega) rfl (Nat.le_of_ble_eq_true rfl) ew_704 ew_705 ew_706 (ci := 9) rfl (by decide) (cShC_5 hs).1 (cShC_5 hs).2.1 ?_
  refine ea_if_ne (pc := 8) (tgt := 13) dX11_stopOf_8 rfl (fun c14 => ?_) (fun c14 => ?_)
  · have E := (if_neg c14).symm.trans E
    refine ea_iload_n (pc := 13) dX11_stopOf_13 rfl 2 rfl ?_
    refine ea_iconst (pc := 14) dX11_stopOf_14 (v := (-1)) rfl ?_
    refine ea_icmp_ne (pc := 15) (tgt := 36) dX11_stopOf_15 rfl (fun c13 => ?_) (fun c13 => ?_)
    · have E := (if_neg c13).symm.trans E
      refine ea_iload_n (pc := 36) dX11_stopOf_36 rfl 2 rfl ?_
      refine ea_if_lt (pc := 37) (tgt := 53) dX11_stopOf_37 rfl (fun c10 => ?_) (fun c10 => ?_)
      · have E := (if_pos c10).symm.trans E
        refine ea_iconst (pc := 53) dX11_stopOf_53 (v := (-1)) rfl ?_
        exact ea_iretO (pc := 54) dX11_stopOf_54 rfl rfl E
      · have E := (if_neg c10).symm.trans E
        obtain ⟨z2, E⟩ := gd_some E
        refine ea_iload_n (pc := 40) dX11_stopOf_40 rfl 2 rfl ?_
        refine ea_aload_n (pc := 41) dX11_stopOf_41 rfl 0 rfl ?_
        refine ea_getR (pc := 42) dX11_stopOf_42 ec_11 (k := 1) (Nat.le_of_ble_eq_true rfl) rfl (Or.inl ew_615) (cShC_0 hsw1).1 (cShC_0 hsw1).2.1 (rShC_0_1 hsw1) ?_
        refine ea_getR (pc := 45) dX11_stopOf_45 ec_9 (k := 1) (Nat.le_of_ble_eq_true rfl) rfl (Or.inl ew_188) (cShC_5 hsw1).1 (cShC_5 hsw1).2.1 (rShC_5_1 hsw1) ?_
        refine ea_iload_n (pc := 48) dX11_stopOf_48 rfl 1 rfl ?_
        refine ea_iald (pc := 49) dX11_stopOf_49 (cShC_6 hsw1).1 (cShC_6 hsw1).2.1 (ea_vpl (cShC_6 hsw1).2.2 z2) ?_
        refine ea_icmp_lt (pc := 50) (tgt := 55) dX11_stopOf_50 rfl (fun c9 => ?_) (fun c9 => ?_)
        · have E := (if_pos c9).symm.trans E
          obtain ⟨v3, ev3, E⟩ := let_some E
          refine ea_bipush (pc := 55) dX11_stopOf_55 (v := 8) rfl ?_
          refine ea_iload_n (pc := 57) dX11_stopOf_57 rfl 1 rfl ?_
          refine ea_imul (pc := 58) dX11_stopOf_58 ?_
          refine ea_iload_n (pc := 59) dX11_stopOf_59 rfl 2 rfl ?_
          refine ea_iadd (pc := 60) dX11_stopOf_60 ?_
          refine ea_istore (pc := 61) (lv' := [(0, vR (some 0)), (3, vI x3), (4, vI v3)]) dX11_stopOf_61 (Nat.le_of_ble_eq_true rfl) [1, 4, 0] (by rw [ev3]; rfl) ?_
          refine ea_iload_n (pc := 63) dX11_stopOf_63 rfl 1 rfl ?_
          by_cases q64_0 : Int32.toInt x3 = 0
          · have E := (if_pos q64_0).symm.trans E
            obtain ⟨z8, E⟩ := gd_some E
            refine ea_tswIn (pc := 64) (tgt := 96) dX11_stopOf_64 (by rw [q64_0]; decide) (by rw [q64_0]; decide) (by rw [q64_0]; rfl) rfl ?_
            refine ea_aload_n (pc := 96) dX11_stopOf_96 rfl 0 rfl ?_
            refine ea_getR (pc := 97) dX11_stopOf_97 ec_11 (k := 1) (Nat.le_of_ble_eq_true rfl) rfl (Or.inl ew_615) (cShC_0 hsw1).1 (cShC_0 hsw1).2.1 (rShC_0_1 hsw1) ?_
            refine ea_getR (pc := 100) dX11_stopOf_100 ec_9 (k := 2) (Nat.le_of_ble_eq_true rfl) rfl (Or.inl ew_193) (cShC_5 hsw1).1 (cShC_5 hsw1).2.1 (rShC_5_2 hsw1) ?_
            refine ea_iload (pc := 103) dX11_stopOf_103 2 rfl ?_
            refine ea_iald (pc := 105) dX11_stopOf_105 (cShC_7 hsw1).1 (cShC_7 hsw1).2.1 (ea_vpl (cShC_7 hsw1).2.2 z8) ?_
            exact ea_iretO (pc := 106) dX11_stopOf_106 rfl rfl E
          have E := (if_neg q64_0).symm.trans E
          by_cases q64_1 : Int32.toInt x3 = 1
          · have E := (if_pos q64_1).symm.trans E
            obtain ⟨z7, E⟩ := gd_some E
            refine ea_tswIn (pc := 64) (tgt := 107) dX11_stopOf_64 (by rw [q64_1]; decide) (by rw [q64_1]; decide) (by rw [q64_1]; rfl) rfl ?_
            refine ea_aload_n (pc := 107) dX11_stopOf_107 rfl 0 rfl ?_
            refine ea_getR (pc := 108) dX11_stopOf_108 ec_11 (k := 1) (Nat.le_of_ble_eq_true rfl) rfl (Or.inl ew_615) (cShC_0 hsw1).1 (cShC_0 hsw1).2.1 (rShC_0_1 hsw1) ?_
            refine ea_getR (pc := 111) dX11_stopOf_111 ec_9 (k := 3) (Nat.le_of_ble_eq_true rfl) rfl (Or.inl ew_197) (cShC_5 hsw1).1 (cShC_5 hsw1).2.1 (rShC_5_3 hsw1) ?_
            refine ea_iload (pc := 114) dX11_stopOf_114 2 rfl ?_
            refine ea_iald (pc := 116) dX11_stopOf_116 (cShC_8 hsw1).1 (cShC_8 hsw1).2.1 (ea_vpl (cShC_8 hsw1).2.2 z7) ?_
            exact ea_iretO (pc := 117) dX11_stopOf_117 rfl rfl E
          have E := (if_neg q64_1).symm.trans E
          by_cases q64_2 : Int32.toInt x3 = 2
          · have E := (if_pos q64_2).symm.trans E
            obtain ⟨z6, E⟩ := gd_some E
            refine ea_tswIn (pc := 64) (tgt := 118) dX11_stopOf_64 (by rw [q64_2]; decide) (by rw [q64_2]; decide) (by rw [q64_2]; rfl) rfl ?_
            refine ea_aload_n (pc := 118) dX11_stopOf_118 rfl 0 rfl ?_
            refine ea_getR (pc := 119) dX11_stopOf_119 ec_11 (k := 1) (Nat.le_of_ble_eq_true rfl) rfl (Or.inl ew_615) (cShC_0 hsw1).1 (cShC_0 hsw1).2.1 (rShC_0_1 hsw1) ?_
            refine ea_getR (pc := 122) dX11_stopOf_122 ec_9 (k := 4) (Nat.le_of_ble_eq_true rfl) rfl (Or.inl ew_200) (cShC_5 hsw1).1 (cShC_5 hsw1).2.1 (rShC_5_4 hsw1) ?_
            refine ea_iload (pc := 125) dX11_stopOf_125 2 rfl ?_
            refine ea_iald (pc := 127) dX11_stopOf_127 (cShC_9 hsw1).1 (cShC_9 hsw1).2.1 (ea_vpl (cShC_9 hsw1).2.2 z6) ?_
            exact ea_iretO (pc := 128) dX11_stopOf_128 rfl rfl E
          have E := (if_neg q64_2).symm.trans E
          by_cases q64_3 : Int32.toInt x3 = 3
          · have E := (if_pos q64_3).symm.trans E
            obtain ⟨z4, E⟩ := gd_some E
            refine ea_tswIn (pc := 64) (tgt := 129) dX11_stopOf_64 (by rw [q64_3]; decide) (by rw [q64_3]; decide) (by rw [q64_3]; rfl) rfl ?_
            refine ea_aload_n (pc := 129) dX11_stopOf_129 rfl 0 rfl ?_
            refine ea_getR (pc := 130) dX11_stopOf_130 ec_11 (k := 1) (Nat.le_of_ble_eq_true rfl) rfl (Or.inl ew_615) (cShC_0 hsw1).1 (cShC_0 hsw1).2.1 (rShC_0_1 hsw1) ?_
            refine ea_getR (pc := 133) dX11_stopOf_133 ec_9 (k := 5) (Nat.le_of_ble_eq_true rfl) rfl (Or.inl ew_203) (cShC_5 hsw1).1 (cShC_5 hsw1).2.1 (rShC_5_5 hsw1) ?_
            refine ea_iload (pc := 136) dX11_stopOf_136 2 rfl ?_
            refine ea_zald (pc := 138) dX11_stopOf_138 (cShC_10 hsw1).1 (cShC_10 hsw1).2.1 (ea_vpl (cShC_10 hsw1).2.2 z4) ?_
            refine ea_if_eq (pc := 139) (tgt := 146) dX11_stopOf_139 rfl (fun c5 => ?_) (fun c5 => ?_)
            · have E := (if_pos c5).symm.trans E
              refine ea_iconst (pc := 146) dX11_stopOf_146 (v := 0) rfl ?_
              exact ea_iretO (pc := 147) dX11_stopOf_147 rfl rfl E
            · have E := (if_neg c5).symm.trans E
              refine ea_iconst (pc := 142) dX11_stopOf_142 (v := 1) rfl ?_
              refine ea_goto (pc := 143) (tgt := 147) dX11_stopOf_143 rfl ?_
              exact ea_iretO (pc := 147) dX11_stopOf_147 rfl rfl E
          have E := (if_neg q64_3).symm.trans E
          refine ea_tswOut (pc := 64) (tgt := 148) dX11_stopOf_64 (ea_sw_0_3 q64_0 q64_1 q64_2 q64_3) rfl ?_
          refine ea_iconst (pc := 148) dX11_stopOf_148 (v := (-1)) rfl ?_
          exact ea_iretO (pc := 149) dX11_stopOf_149 rfl rfl E
        · have E := (if_neg c9).symm.trans E
          refine ea_iconst (pc := 53) dX11_stopOf_53 (v := (-1)) rfl ?_
          exact ea_iretO (pc := 54) dX11_stopOf_54 rfl rfl E
    · have E := (if_pos c13).symm.trans E
      refine ea_iload_n (pc := 18) dX11_stopOf_18 rfl 3 rfl ?_
      refine ea_if_ne (pc := 19) (tgt := 34) dX11_stopOf_19 rfl (fun c12 => ?_) (fun c12 => ?_)
      · have E := (if_neg c12).symm.trans E
        refine ea_iconst (pc := 34) dX11_stopOf_34 (v := (-1)) rfl ?_
        exact ea_iretO (pc := 35) dX11_stopOf_35 rfl rfl E
      · have E := (if_pos c12).symm.trans E
        obtain ⟨z11, E⟩ := gd_some E
        refine ea_aload_n (pc := 22) dX11_stopOf_22 rfl 0 rfl ?_
        refine ea_getR (pc := 23) dX11_stopOf_23 ec_11 (k := 1) (Nat.le_of_ble_eq_true rfl) rfl (Or.inl ew_615) (cShC_0 hsw1).1 (cShC_0 hsw1).2.1 (rShC_0_1 hsw1) ?_
        refine ea_getR (pc := 26) dX11_stopOf_26 ec_9 (k := 1) (Nat.le_of_ble_eq_true rfl) rfl (Or.inl ew_188) (cShC_5 hsw1).1 (cShC_5 hsw1).2.1 (rShC_5_1 hsw1) ?_
        refine ea_iload_n (pc := 29) dX11_stopOf_29 rfl 1 rfl ?_
        refine ea_iald (pc := 30) dX11_stopOf_30 (cShC_6 hsw1).1 (cShC_6 hsw1).2.1 (ea_vpl (cShC_6 hsw1).2.2 z11) ?_
        refine ea_goto (pc := 31) (tgt := 35) dX11_stopOf_31 rfl ?_
        exact ea_iretO (pc := 35) dX11_stopOf_35 rfl rfl E
  · have E := (if_pos c14).symm.trans E
    refine ea_iconst (pc := 11) dX11_stopOf_11 (v := (-1)) rfl ?_
    exact ea_iretO (pc := 12) dX11_stopOf_12 rfl rfl E
theorem kBX11_stopOf_0  {x1 : Int32} {x2 : Int32} {x3 : Int32} {h : ea_H} : kp (ea_core h) (BX11_stopOf_0 x1 x2 x3 h) :=
  (kp_bind (kp_tw (kpX9_has _ _) rfl) fun w1 hcw1 => (kp_ite (kp_ret hcw1) (kp_ite (kp_ite (kp_gd (kp_ret hcw1)) (kp_ret hcw1)) (kp_ite (kp_ret hcw1) (kp_gd (kp_ite (kp_let (kp_ite (kp_gd (kp_ret hcw1)) (kp_ite (kp_gd (kp_ret hcw1)) (kp_ite (kp_gd (kp_ret hcw1)) (kp_ite (kp_gd (kp_ite (kp_ret hcw1) (kp_ret hcw1))) (kp_ret hcw1)))))) (kp_ret hcw1)))))))
noncomputable def qX11_stopOf (x1 : Int32) (x2 : Int32) (x3 : Int32) (h : ea_H) : Option (Int32 × ea_H) := BX11_stopOf_0 x1 x2 x3 h
theorem sX11_stopOf {d : Nat} {x1 : Int32} {x2 : Int32} {x3 : Int32} {h : ea_H} {r : Int32} {h' : ea_H} (hd : 2 ≤ d) (hs : ShC h) (K : qX11_stopOf x1 x2 x3 h = some (r, h')) : ea_Met mX11_stopOf d [vR (some 0), vI x1, vI x2, vI x3] h (some (vI r)) h' := by
  unfold qX11_stopOf at K
  have W := tBX11_stopOf_0 hd (h0 := h) K hs
  exact ea_enter rfl (Nat.le_of_ble_eq_true rfl) W
theorem kpX11_stopOf (x1 : Int32) (x2 : Int32) (x3 : Int32) (h : ea_H) : kp (ea_core h) (qX11_stopOf x1 x2 x3 h) := kBX11_stopOf_0
noncomputable def BX11_miss_0 (x1 : Int32) (x2 : Int32) (x3 : Int32) (h : ea_H) : Option (Int32 × ea_H) :=
  (Option.bind (qX9_hasRun (x1 : Int32) (x2 : Int32) h) fun w1 => (if w1.1 = (0 : Int32) then (some ((0 : Int32), w1.2)) else (if x3 < (0 : Int32) then (some ((0 : Int32), w1.2)) else (gd (vp_in x1 10) (if x3 < ((ea_i w1.2 6 (Int32.toNatClampNeg x1)) - (1 : Int32)) then (ea_let (((10 : Int32) * x2) + x1) fun (v3 : Int32) => (gd (vp_in (((8 : Int32) * x1) + x3) 80) (if (ea_i w1.2 10 (Int32.toNatClampNeg (((8 : Int32) * x1) + x3))) = (0 : Int32) then (some ((0 : Int32), w1.2)) else (Option.bind (qX9_isMissed (v3 : Int32) (x3 : Int32) w1.2) fun w5 => (if w5.1 = (0 : Int32) then (Option.bind (qX9_comesAt (x1 : Int32) (x2 : Int32) (x3 : Int32) w5.2) fun w6 => (if (ea_i w6.2 0 14) < w6.1 then (gd (vp_in v3 70) (gd (vp_in v3 70) (ea_let (ea_wi w6.2 12 (Int32.toNatClampNeg v3) ((ea_i w6.2 12 (Int32.toNatClampNeg v3)) ||| ((1 : Int32) <<< (x3 &&& 31)))) fun H9 => (ea_let (ea_wi H9 0 15 0) fun H10 => (some ((1 : Int32), H10)))))) else (some ((0 : Int32), w6.2)))) else (some ((0 : Int32), w5.2))))))) else (some ((0 : Int32), w1.2)))))))
theorem tBX11_miss_0 {d : Nat} {h0 : ea_H} (hd : 3 ≤ d)  {x1 : Int32} {x2 : Int32} {x3 : Int32} {h : ea_H} {r : Int32} {h' : ea_H} (E : BX11_miss_0 x1 x2 x3 h = some (r, h')) (hs : ShC h) : ea_W mX11_miss d h0 (some (vI r)) h' 0 [(0, vR (some 0)), (1, vI x1), (2, vI x2), (3, vI x3)] [] h := by
  unfold BX11_miss_0 at E
  obtain ⟨w1, Ew1, E⟩ := bd_some E
  have hsw1 : ShC w1.2 := ShC_core ((kpX9_hasRun _ _ _) _ Ew1) hs
  refine ea_aload_n (pc := 0) dX11_miss_0 rfl 0 rfl ?_
  refine ea_getR (pc := 1) dX11_miss_1 ec_11 (k := 1) (Nat.le_of_ble_eq_true rfl) rfl (Or.inl ew_615) (cShC_0 hs).1 (cShC_0 hs).2.1 (rShC_0_1 hs) ?_
  refine ea_iload_n (pc := 4) dX11_miss_4 rfl 1 rfl ?_
  refine ea_iload_n (pc := 5) dX11_miss_5 rfl 2 rfl ?_
  refine ea_callV (pc := 6) (d' := d - 1) (As := [vI x1, vI x2]) (st := []) dX11_miss_6 kX9_hasRun (sX9_hasRun (d := d - 1) (by omega) hs Ew1) (by omega) rfl (Nat.le_of_ble_eq_true rfl) ew_728 ew_729 ew_730 (ci := 9) rfl (by decide) (cShC_5 hs).1 (cShC_5 hs).2.1 ?_
  refine ea_if_eq (pc := 9) (tgt := 31) dX11_miss_9 rfl (fun c16 => ?_) (fun c16 => ?_)
  · have E := (if_pos c16).symm.trans E
    refine ea_iconst (pc := 31) dX11_miss_31 (v := 0) rfl ?_
    exact ea_iretO (pc := 32) dX11_miss_32 rfl (ea_bn (Or.inl rfl)) E
  · have E := (if_neg c16).symm.trans E
    refine ea_iload_n (pc := 12) dX11_miss_12 rfl 3 rfl ?_
    refine ea_if_lt (pc := 13) (tgt := 31) dX11_miss_13 rfl (fun c15 => ?_) (fun c15 => ?_)
    · have E := (if_pos c15).symm.trans E
      refine ea_iconst (pc := 31) dX11_miss_31 (v := 0) rfl ?_
      exact ea_iretO (pc := 32) dX11_miss_32 rfl (ea_bn (Or.inl rfl)) E
    · have E := (if_neg c15).symm.trans E
      obtain ⟨z2, E⟩ := gd_some E
      refine ea_iload_n (pc := 16) dX11_miss_16 rfl 3 rfl ?_
      refine ea_aload_n (pc := 17) dX11_miss_17 rfl 0 rfl ?_
      refine ea_getR (pc := 18) dX11_miss_18 ec_11 (k := 1) (Nat.le_of_ble_eq_true rfl) rfl (Or.inl ew_615) (cShC_0 hsw1).1 (cShC_0 hsw1).2.1 (rShC_0_1 hsw1) ?_
      refine ea_getR (pc := 21) dX11_miss_21 ec_9 (k := 1) (Nat.le_of_ble_eq_true rfl) rfl (Or.inl ew_188) (cShC_5 hsw1).1 (cShC_5 hsw1).2.1 (rShC_5_1 hsw1) ?_
      refine ea_iload_n (pc := 24) dX11_miss_24 rfl 1 rfl ?_
      refine ea_iald (pc := 25) dX11_miss_25 (cShC_6 hsw1).1 (cShC_6 hsw1).2.1 (ea_vpl (cShC_6 hsw1).2.2 z2) ?_
      refine ea_iconst (pc := 26) dX11_miss_26 (v := 1) rfl ?_
      refine ea_isub (pc := 27) dX11_miss_27 ?_
      refine ea_icmp_lt (pc := 28) (tgt := 33) dX11_miss_28 rfl (fun c14 => ?_) (fun c14 => ?_)
      · have E := (if_pos c14).symm.trans E
        obtain ⟨v3, ev3, E⟩ := let_some E
        refine ea_bipush (pc := 33) dX11_miss_33 (v := 10) rfl ?_
        refine ea_iload_n (pc := 35) dX11_miss_35 rfl 2 rfl ?_
        refine ea_imul (pc := 36) dX11_miss_36 ?_
        refine ea_iload_n (pc := 37) dX11_miss_37 rfl 1 rfl ?_
        refine ea_iadd (pc := 38) dX11_miss_38 ?_
        obtain ⟨z4, E⟩ := gd_some E
        refine ea_istore (pc := 39) (lv' := [(0, vR (some 0)), (1, vI x1), (2, vI x2), (3, vI x3), (4, vI v3)]) dX11_miss_39 (Nat.le_of_ble_eq_true rfl) [1, 2, 3, 4, 0] (by rw [ev3]; rfl) ?_
        refine ea_aload_n (pc := 41) dX11_miss_41 rfl 0 rfl ?_
        refine ea_getR (pc := 42) dX11_miss_42 ec_11 (k := 1) (Nat.le_of_ble_eq_true rfl) rfl (Or.inl ew_615) (cShC_0 hsw1).1 (cShC_0 hsw1).2.1 (rShC_0_1 hsw1) ?_
        refine ea_getR (pc := 45) dX11_miss_45 ec_9 (k := 5) (Nat.le_of_ble_eq_true rfl) rfl (Or.inl ew_203) (cShC_5 hsw1).1 (cShC_5 hsw1).2.1 (rShC_5_5 hsw1) ?_
        refine ea_bipush (pc := 48) dX11_miss_48 (v := 8) rfl ?_
        refine ea_iload_n (pc := 50) dX11_miss_50 rfl 1 rfl ?_
        refine ea_imul (pc := 51) dX11_miss_51 ?_
        refine ea_iload_n (pc := 52) dX11_miss_52 rfl 3 rfl ?_
        refine ea_iadd (pc := 53) dX11_miss_53 ?_
        refine ea_zald (pc := 54) dX11_miss_54 (cShC_10 hsw1).1 (cShC_10 hsw1).2.1 (ea_vpl (cShC_10 hsw1).2.2 z4) ?_
        refine ea_if_eq (pc := 55) (tgt := 88) dX11_miss_55 rfl (fun c13 => ?_) (fun c13 => ?_)
        · have E := (if_pos c13).symm.trans E
          refine ea_iconst (pc := 88) dX11_miss_88 (v := 0) rfl ?_
          exact ea_iretO (pc := 89) dX11_miss_89 rfl (ea_bn (Or.inl rfl)) E
        · have E := (if_neg c13).symm.trans E
          obtain ⟨w5, Ew5, E⟩ := bd_some E
          have hsw5 : ShC w5.2 := ShC_core ((kpX9_isMissed _ _ _) _ Ew5) hsw1
          refine ea_aload_n (pc := 58) dX11_miss_58 rfl 0 rfl ?_
          refine ea_getR (pc := 59) dX11_miss_59 ec_11 (k := 1) (Nat.le_of_ble_eq_true rfl) rfl (Or.inl ew_615) (cShC_0 hsw1).1 (cShC_0 hsw1).2.1 (rShC_0_1 hsw1) ?_
          refine ea_iload (pc := 62) dX11_miss_62 4 rfl ?_
          refine ea_iload_n (pc := 64) dX11_miss_64 rfl 3 rfl ?_
          refine ea_callV (pc := 65) (d' := d - 1) (As := [vI v3, vI x3]) (st := []) dX11_miss_65 kX9_isMissed (sX9_isMissed (d := d - 1) (by omega) hsw1 Ew5) (by omega) rfl (Nat.le_of_ble_eq_true rfl) ew_737 ew_738 ew_739 (ci := 9) rfl (by decide) (cShC_5 hsw1).1 (cShC_5 hsw1).2.1 ?_
          refine ea_if_ne (pc := 68) (tgt := 88) dX11_miss_68 rfl (fun c12 => ?_) (fun c12 => ?_)
          · have E := (if_neg c12).symm.trans E
            refine ea_iconst (pc := 88) dX11_miss_88 (v := 0) rfl ?_
            exact ea_iretO (pc := 89) dX11_miss_89 rfl (ea_bn (Or.inl rfl)) E
          · have E := (if_pos c12).symm.trans E
            obtain ⟨w6, Ew6, E⟩ := bd_some E
            have hsw6 : ShC w6.2 := ShC_core ((kpX9_comesAt _ _ _ _) _ Ew6) hsw5
            refine ea_aload_n (pc := 71) dX11_miss_71 rfl 0 rfl ?_
            refine ea_getR (pc := 72) dX11_miss_72 ec_11 (k := 1) (Nat.le_of_ble_eq_true rfl) rfl (Or.inl ew_615) (cShC_0 hsw5).1 (cShC_0 hsw5).2.1 (rShC_0_1 hsw5) ?_
            refine ea_iload_n (pc := 75) dX11_miss_75 rfl 1 rfl ?_
            refine ea_iload_n (pc := 76) dX11_miss_76 rfl 2 rfl ?_
            refine ea_iload_n (pc := 77) dX11_miss_77 rfl 3 rfl ?_
            refine ea_callV (pc := 78) (d' := d - 1) (As := [vI x1, vI x2, vI x3]) (st := []) dX11_miss_78 kX9_comesAt (sX9_comesAt (d := d - 1) (by omega) hsw5 Ew6) (by omega) rfl (Nat.le_of_ble_eq_true rfl) ew_741 ew_742 ew_743 (ci := 9) rfl (by decide) (cShC_5 hsw5).1 (cShC_5 hsw5).2.1 ?_
            refine ea_aload_n (pc := 81) dX11_miss_81 rfl 0 rfl ?_
            refine ea_getI (pc := 82) dX11_miss_82 ec_11 (k := 14) (Nat.le_of_ble_eq_true rfl) rfl (Or.inl ew_628) (cShC_0 hsw6).1 (cShC_0 hsw6).2.1 ?_
            refine ea_icmp_gt (pc := 85) (tgt := 90) dX11_miss_85 rfl (fun c11 => ?_) (fun c11 => ?_)
            · have E := (if_pos c11).symm.trans E
              obtain ⟨z7, E⟩ := gd_some E
              refine ea_aload_n (pc := 90) dX11_miss_90 rfl 0 rfl ?_
              refine ea_getR (pc := 91) dX11_miss_91 ec_11 (k := 1) (Nat.le_of_ble_eq_true rfl) rfl (Or.inl ew_615) (cShC_0 hsw6).1 (cShC_0 hsw6).2.1 (rShC_0_1 hsw6) ?_
              refine ea_getR (pc := 94) dX11_miss_94 ec_9 (k := 7) (Nat.le_of_ble_eq_true rfl) rfl (Or.inl ew_207) (cShC_5 hsw6).1 (cShC_5 hsw6).2.1 (rShC_5_7 hsw6) ?_
              refine ea_iload (pc := 97) dX11_miss_97 4 rfl ?_
              refine ea_dup2 (pc := 99) dX11_miss_99 rfl rfl ?_
              obtain ⟨z8, E⟩ := gd_some E
              refine ea_iald (pc := 100) dX11_miss_100 (cShC_12 hsw6).1 (cShC_12 hsw6).2.1 (ea_vpl (cShC_12 hsw6).2.2 z7) ?_
              refine ea_iconst (pc := 101) dX11_miss_101 (v := 1) rfl ?_
              refine ea_iload_n (pc := 102) dX11_miss_102 rfl 3 rfl ?_
              refine ea_ishl (pc := 103) dX11_miss_103 ?_
              refine ea_ior (pc := 104) dX11_miss_104 ?_
              obtain ⟨H9, eH9, E⟩ := let_some E
              refine ea_iast (pc := 105) dX11_miss_105 (cShC_12 hsw6).1 (cShC_12 hsw6).2.1 (ea_vpl (cShC_12 hsw6).2.2 z8) ?_
              refine ea_nm eH9 ?_
              have hsH9 : ShC H9 := by rw [eH9]; exact hsw6
              obtain ⟨H10, eH10, E⟩ := let_some E
              refine ea_aload_n (pc := 106) dX11_miss_106 rfl 0 rfl ?_
              refine ea_iconst (pc := 107) dX11_miss_107 (v := 0) rfl ?_
              refine ea_putI (pc := 108) dX11_miss_108 ec_11 (k := 15) (Nat.le_of_ble_eq_true rfl) rfl (Or.inl ⟨rfl, Or.inl ew_629⟩) (ea_bn (Or.inl rfl)) (ea_bf (Or.inl rfl)) (cShC_0 hsH9).1 (cShC_0 hsH9).2.1 ?_
              refine ea_nm eH10 ?_
              have hsH10 : ShC H10 := by rw [eH10]; exact hsH9
              refine ea_iconst (pc := 111) dX11_miss_111 (v := 1) rfl ?_
              exact ea_iretO (pc := 112) dX11_miss_112 rfl (ea_bn (Or.inr rfl)) E
            · have E := (if_neg c11).symm.trans E
              refine ea_iconst (pc := 88) dX11_miss_88 (v := 0) rfl ?_
              exact ea_iretO (pc := 89) dX11_miss_89 rfl (ea_bn (Or.inl rfl)) E
      · have E := (if_neg c14).symm.trans E
        refine ea_iconst (pc := 31) dX11_miss_31 (v := 0) rfl ?_
        exact ea_iretO (pc := 32) dX11_miss_32 rfl (ea_bn (Or.inl rfl)) E
theorem kBX11_miss_0  {x1 : Int32} {x2 : Int32} {x3 : Int32} {h : ea_H} : kp (ea_core h) (BX11_miss_0 x1 x2 x3 h) :=
  (kp_bind (kp_tw (kpX9_hasRun _ _ _) rfl) fun w1 hcw1 => (kp_ite (kp_ret hcw1) (kp_ite (kp_ret hcw1) (kp_gd (kp_ite (kp_let (kp_gd (kp_ite (kp_ret hcw1) (kp_bind (kp_tw (kpX9_isMissed _ _ _) hcw1) fun w5 hcw5 => (kp_ite (kp_bind (kp_tw (kpX9_comesAt _ _ _ _) hcw5) fun w6 hcw6 => (kp_ite (kp_gd (kp_gd (kp_let (kp_let (kp_ret hcw6))))) (kp_ret hcw6))) (kp_ret hcw5)))))) (kp_ret hcw1))))))
noncomputable def qX11_miss (x1 : Int32) (x2 : Int32) (x3 : Int32) (h : ea_H) : Option (Int32 × ea_H) := BX11_miss_0 x1 x2 x3 h
theorem sX11_miss {d : Nat} {x1 : Int32} {x2 : Int32} {x3 : Int32} {h : ea_H} {r : Int32} {h' : ea_H} (hd : 3 ≤ d) (hs : ShC h) (K : qX11_miss x1 x2 x3 h = some (r, h')) : ea_Met mX11_miss d [vR (some 0), vI x1, vI x2, vI x3] h (some (vI r)) h' := by
  unfold qX11_miss at K
  have W := tBX11_miss_0 hd (h0 := h) K hs
  exact ea_enter rfl (Nat.le_of_ble_eq_true rfl) W
theorem kpX11_miss (x1 : Int32) (x2 : Int32) (x3 : Int32) (h : ea_H) : kp (ea_core h) (qX11_miss x1 x2 x3 h) := kBX11_miss_0
noncomputable def BX11_look_0 (J24 : Int32 → ea_H → Option (Int32 × ea_H)) (x1 : Int32) (h : ea_H) : Option (Int32 × ea_H) :=
  (if x1 < (10 : Int32) then (J24 (x1 : Int32) h) else (if (16 : Int32) < x1 then (J24 (x1 : Int32) h) else (Option.bind (qX1_inState_at52 ((x1 - (10 : Int32)) : Int32) h) fun w1 => (some (w1.1, w1.2)))))
theorem tBX11_look_0 {d : Nat} {h0 : ea_H} (hd : 2 ≤ d) {J24 : Int32 → ea_H → Option (Int32 × ea_H)}  (kJ24 : ∀ (x1 : Int32) (h : ea_H) (r : Int32) (h' : ea_H), J24 x1 h = some (r, h') → ShC h → ea_W mX11_look d h0 (some (vI r)) h' 24 [(0, vR (some 0)), (1, vI x1)] [] h) {x1 : Int32} {h : ea_H} {r : Int32} {h' : ea_H} (E : BX11_look_0 J24 x1 h = some (r, h')) (hs : ShC h) : ea_W mX11_look d h0 (some (vI r)) h' 0 [(0, vR (some 0)), (1, vI x1)] [] h := by
  unfold BX11_look_0 at E
  refine ea_iload_n (pc := 0) dX11_look_0 rfl 1 rfl ?_
  refine ea_bipush (pc := 1) dX11_look_1 (v := 10) rfl ?_
  refine ea_icmp_lt (pc := 3) (tgt := 24) dX11_look_3 rfl (fun c3 => ?_) (fun c3 => ?_)
  · have E := (if_pos c3).symm.trans E
    exact (kJ24 (x1 : Int32) h _ _ E hs)
  · have E := (if_neg c3).symm.trans E
    refine ea_iload_n (pc := 6) dX11_look_6 rfl 1 rfl ?_
    refine ea_bipush (pc := 7) dX11_look_7 (v := 16) rfl ?_
    refine ea_icmp_gt (pc := 9) (tgt := 24) dX11_look_9 rfl (fun c2 => ?_) (fun c2 => ?_)
    · have E := (if_pos c2).symm.trans E
      exact (kJ24 (x1 : Int32) h _ _ E hs)
    · have E := (if_neg c2).symm.trans E
      obtain ⟨w1, Ew1, E⟩ := bd_some E
      have hsw1 : ShC w1.2 := ShC_core ((kpX1_inState_at52 _ _) _ Ew1) hs
      refine ea_aload_n (pc := 12) dX11_look_12 rfl 0 rfl ?_
      refine ea_getR (pc := 13) dX11_look_13 ec_11 (k := 7) (Nat.le_of_ble_eq_true rfl) rfl (Or.inl ew_621) (cShC_0 hs).1 (cShC_0 hs).2.1 (rShC_0_7 hs) ?_
      refine ea_iload_n (pc := 16) dX11_look_16 rfl 1 rfl ?_
      refine ea_bipush (pc := 17) dX11_look_17 (v := 10) rfl ?_
      refine ea_isub (pc := 19) dX11_look_19 ?_
      refine ea_callV (pc := 20) (d' := d - 1) (As := [vI (x1 - (10 : Int32))]) (st := []) dX11_look_20 kX1_inState (sX1_inState_at52 (d := d - 1) (by omega) hs Ew1) (by omega) rfl (Nat.le_of_ble_eq_true rfl) ew_916 ew_917 ew_918 (ci := 1) rfl (by decide) (cShC_52 hs).1 (cShC_52 hs).2.1 ?_
      exact ea_iretO (pc := 23) dX11_look_23 rfl rfl E
theorem kBX11_look_0 {J24 : Int32 → ea_H → Option (Int32 × ea_H)}  (cJ24 : ∀ (x1 : Int32) (h : ea_H), kp (ea_core h) (J24 x1 h)) {x1 : Int32} {h : ea_H} : kp (ea_core h) (BX11_look_0 J24 x1 h) :=
  (kp_ite (kp_tw (cJ24 _ _) rfl) (kp_ite (kp_tw (cJ24 _ _) rfl) (kp_bind (kp_tw (kpX1_inState_at52 _ _) rfl) fun w1 hcw1 => (kp_ret hcw1))))
theorem lBX11_look_0 {J24 : Int32 → ea_H → Option (Int32 × ea_H)} {J24_ : Int32 → ea_H → Option (Int32 × ea_H)}  (mJ24 : ∀ (x1 : Int32) (h : ea_H), fle (J24 x1 h) (J24_ x1 h)) {x1 : Int32} {h : ea_H} : fle (BX11_look_0 J24 x1 h) (BX11_look_0 J24_ x1 h) :=
  (fle_ite (mJ24 _ _) (fle_ite (mJ24 _ _) (fle_rfl _)))
theorem nBX11_look_0 {J24 : Int32 → ea_H → Option (Int32 × ea_H)} {J24_ : Nat → (Int32 → ea_H → Option (Int32 × ea_H))}  (mJ24 : ∀ (x1 : Int32) (h : ea_H), fct (J24 x1 h) (fun f => J24_ f x1 h)) {x1 : Int32} {h : ea_H} : fct (BX11_look_0 J24 x1 h) (fun f => BX11_look_0 (J24_ f) x1 h) :=
  (fct_ite (mJ24 _ _) (fct_ite (mJ24 _ _) (fct_rfl _)))
noncomputable def BX11_look_24 (x1 : Int32) (h : ea_H) : Option (Int32 × ea_H) :=
  (if Int32.toInt x1 = 0 then (some ((ea_i h 0 14), h)) else (if Int32.toInt x1 = 1 then (some ((ea_i h 1 0), h)) else (if Int32.toInt x1 = 2 then (some ((ea_i h 5 0), h)) else (if Int32.toInt x1 = 3 then (some ((ea_i h 52 0), h)) else (if Int32.toInt x1 = 4 then (some ((ea_i h 18 0), h)) else (if Int32.toInt x1 = 5 then (some ((ea_i h 23 1), h)) else (some (((-1) : Int32), h))))))))
theorem tBX11_look_24 {d : Nat} {h0 : ea_H} (hd : 2 ≤ d)  {x1 : Int32} {h : ea_H} {r : Int32} {h' : ea_H} (E : BX11_look_24 x1 h = some (r, h')) (hs : ShC h) : ea_W mX11_look d h0 (some (vI r)) h' 24 [(0, vR (some 0)), (1, vI x1)] [] h := by
  unfold BX11_look_24 at E
  refine ea_iload_n (pc := 24) dX11_look_24 rfl 1 rfl ?_
  by_cases q25_0 : Int32.toInt x1 = 0
  · have E := (if_pos q25_0).symm.trans E
    refine ea_tswIn (pc := 25) (tgt := 64) dX11_look_25 (by rw [q25_0]; decide) (by rw [q25_0]; decide) (by rw [q25_0]; rfl) rfl ?_
    refine ea_aload_n (pc := 64) dX11_look_64 rfl 0 rfl ?_
    refine ea_getI (pc := 65) dX11_look_65 ec_11 (k := 14) (Nat.le_of_ble_eq_true rfl) rfl (Or.inl ew_628) (cShC_0 hs).1 (cShC_0 hs).2.1 ?_
    exact ea_iretO (pc := 68) dX11_look_68 rfl rfl E
  have E := (if_neg q25_0).symm.trans E
  by_cases q25_1 : Int32.toInt x1 = 1
  · have E := (if_pos q25_1).symm.trans E
    refine ea_tswIn (pc := 25) (tgt := 69) dX11_look_25 (by rw [q25_1]; decide) (by rw [q25_1]; decide) (by rw [q25_1]; rfl) rfl ?_
    refine ea_aload_n (pc := 69) dX11_look_69 rfl 0 rfl ?_
    refine ea_getR (pc := 70) dX11_look_70 ec_11 (k := 0) (Nat.le_of_ble_eq_true rfl) rfl (Or.inl ew_614) (cShC_0 hs).1 (cShC_0 hs).2.1 (rShC_0_0 hs) ?_
    refine ea_getI (pc := 73) dX11_look_73 ec_7 (k := 0) (Nat.le_of_ble_eq_true rfl) rfl (Or.inl ew_163) (cShC_1 hs).1 (cShC_1 hs).2.1 ?_
    exact ea_iretO (pc := 76) dX11_look_76 rfl rfl E
  have E := (if_neg q25_1).symm.trans E
  by_cases q25_2 : Int32.toInt x1 = 2
  · have E := (if_pos q25_2).symm.trans E
    refine ea_tswIn (pc := 25) (tgt := 77) dX11_look_25 (by rw [q25_2]; decide) (by rw [q25_2]; decide) (by rw [q25_2]; rfl) rfl ?_
    refine ea_aload_n (pc := 77) dX11_look_77 rfl 0 rfl ?_
    refine ea_getR (pc := 78) dX11_look_78 ec_11 (k := 1) (Nat.le_of_ble_eq_true rfl) rfl (Or.inl ew_615) (cShC_0 hs).1 (cShC_0 hs).2.1 (rShC_0_1 hs) ?_
    refine ea_getI (pc := 81) dX11_look_81 ec_9 (k := 0) (Nat.le_of_ble_eq_true rfl) rfl (Or.inl ew_185) (cShC_5 hs).1 (cShC_5 hs).2.1 ?_
    exact ea_iretO (pc := 84) dX11_look_84 rfl rfl E
  have E := (if_neg q25_2).symm.trans E
  by_cases q25_3 : Int32.toInt x1 = 3
  · have E := (if_pos q25_3).symm.trans E
    refine ea_tswIn (pc := 25) (tgt := 85) dX11_look_25 (by rw [q25_3]; decide) (by rw [q25_3]; decide) (by rw [q25_3]; rfl) rfl ?_
    refine ea_aload_n (pc := 85) dX11_look_85 rfl 0 rfl ?_
    refine ea_getR (pc := 86) dX11_look_86 ec_11 (k := 7) (Nat.le_of_ble_eq_true rfl) rfl (Or.inl ew_621) (cShC_0 hs).1 (cShC_0 hs).2.1 (rShC_0_7 hs) ?_
    refine ea_getI (pc := 89) dX11_look_89 ec_1 (k := 0) (Nat.le_of_ble_eq_true rfl) rfl (Or.inl ew_442) (cShC_52 hs).1 (cShC_52 hs).2.1 ?_
    exact ea_iretO (pc := 92) dX11_look_92 rfl rfl E
  have E := (if_neg q25_3).symm.trans E
  by_cases q25_4 : Int32.toInt x1 = 4
  · have E := (if_pos q25_4).symm.trans E
    refine ea_tswIn (pc := 25) (tgt := 93) dX11_look_25 (by rw [q25_4]; decide) (by rw [q25_4]; decide) (by rw [q25_4]; rfl) rfl ?_
    refine ea_aload_n (pc := 93) dX11_look_93 rfl 0 rfl ?_
    refine ea_getR (pc := 94) dX11_look_94 ec_11 (k := 3) (Nat.le_of_ble_eq_true rfl) rfl (Or.inl ew_617) (cShC_0 hs).1 (cShC_0 hs).2.1 (rShC_0_3 hs) ?_
    refine ea_getI (pc := 97) dX11_look_97 ec_3 (k := 0) (Nat.le_of_ble_eq_true rfl) rfl (Or.inl ew_265) (cShC_18 hs).1 (cShC_18 hs).2.1 ?_
    exact ea_iretO (pc := 100) dX11_look_100 rfl rfl E
  have E := (if_neg q25_4).symm.trans E
  by_cases q25_5 : Int32.toInt x1 = 5
  · have E := (if_pos q25_5).symm.trans E
    refine ea_tswIn (pc := 25) (tgt := 101) dX11_look_25 (by rw [q25_5]; decide) (by rw [q25_5]; decide) (by rw [q25_5]; rfl) rfl ?_
    refine ea_aload_n (pc := 101) dX11_look_101 rfl 0 rfl ?_
    refine ea_getR (pc := 102) dX11_look_102 ec_11 (k := 4) (Nat.le_of_ble_eq_true rfl) rfl (Or.inl ew_618) (cShC_0 hs).1 (cShC_0 hs).2.1 (rShC_0_4 hs) ?_
    refine ea_getI (pc := 105) dX11_look_105 ec_8 (k := 1) (Nat.le_of_ble_eq_true rfl) rfl (Or.inl ew_399) (cShC_23 hs).1 (cShC_23 hs).2.1 ?_
    exact ea_iretO (pc := 108) dX11_look_108 rfl rfl E
  have E := (if_neg q25_5).symm.trans E
  refine ea_tswOut (pc := 25) (tgt := 109) dX11_look_25 (ea_sw_0_5 q25_0 q25_1 q25_2 q25_3 q25_4 q25_5) rfl ?_
  refine ea_iconst (pc := 109) dX11_look_109 (v := (-1)) rfl ?_
  exact ea_iretO (pc := 110) dX11_look_110 rfl rfl E
theorem kBX11_look_24  {x1 : Int32} {h : ea_H} : kp (ea_core h) (BX11_look_24 x1 h) :=
  (kp_ite (kp_ret rfl) (kp_ite (kp_ret rfl) (kp_ite (kp_ret rfl) (kp_ite (kp_ret rfl) (kp_ite (kp_ret rfl) (kp_ite (kp_ret rfl) (kp_ret rfl)))))))
theorem lBX11_look_24  {x1 : Int32} {h : ea_H} : fle (BX11_look_24 x1 h) (BX11_look_24 x1 h) :=
  (fle_rfl _)
theorem nBX11_look_24  {x1 : Int32} {h : ea_H} : fct (BX11_look_24 x1 h) (fun f => BX11_look_24 x1 h) :=
  (fct_rfl _)
noncomputable def gX11_look : Nat → (Int32 → ea_H → Option (Int32 × ea_H)) × (Int32 → ea_H → Option (Int32 × ea_H))
  | 0 => (fun _ _ => none, fun _ _ => none)
  | f + 1 => (BX11_look_0 (gX11_look f).2, BX11_look_24)
theorem mgX11_look : ∀ f : Nat, (∀ (x1 : Int32) (h : ea_H), fle ((gX11_look f).1 x1 h) ((gX11_look (f + 1)).1 x1 h)) ∧ (∀ (x1 : Int32) (h : ea_H), fle ((gX11_look f).2 x1 h) ((gX11_look (f + 1)).2 x1 h)) := by
  intro f
  induction f with
  | zero => exact ⟨fun _ _ => fle_none _, fun _ _ => fle_none _⟩
  | succ f ih => exact ⟨fun _ _ => lBX11_look_0 ih.2, fun _ _ => lBX11_look_24⟩
noncomputable def qX11_look_0 (x1 : Int32) (h : ea_H) : Option (Int32 × ea_H) := flim fun f => (gX11_look f).1 x1 h
noncomputable def qX11_look_24 (x1 : Int32) (h : ea_H) : Option (Int32 × ea_H) := flim fun f => (gX11_look f).2 x1 h
theorem fqX11_look_0 (x1 : Int32) (h : ea_H) : fct (qX11_look_0 x1 h) fun f => (gX11_look f).1 x1 h := flim_ct fun f => (mgX11_look f).1 x1 h
theorem fqX11_look_24 (x1 : Int32) (h : ea_H) : fct (qX11_look_24 x1 h) fun f => (gX11_look f).2 x1 h := flim_ct fun f => (mgX11_look f).2 x1 h
/-- how a block opens -/
theorem uqX11_look_0 {x1 : Int32} {h : ea_H} {P : Int32 × ea_H → Prop} (H : sat (BX11_look_0 qX11_look_24 x1 h) P) : sat (qX11_look_0 x1 h) P := by
  obtain ⟨x, e, hp⟩ := H
  obtain ⟨n, hn⟩ := nBX11_look_0 fqX11_look_24 x e
  exact ⟨x, flim_at (fun f => (mgX11_look f).1 x1 h) (f := n + 1) (hn n (Nat.le_refl _)), hp⟩
/-- how a block opens -/
theorem uqX11_look_24 {x1 : Int32} {h : ea_H} {P : Int32 × ea_H → Prop} (H : sat (BX11_look_24 x1 h) P) : sat (qX11_look_24 x1 h) P := by
  obtain ⟨x, e, hp⟩ := H
  obtain ⟨n, hn⟩ := nBX11_look_24 x e
  exact ⟨x, flim_at (fun f => (mgX11_look f).2 x1 h) (f := n + 1) (hn n (Nat.le_refl _)), hp⟩
theorem kgX11_look : ∀ f : Nat, (∀ (x1 : Int32) (h : ea_H), kp (ea_core h) ((gX11_look f).1 x1 h)) ∧ (∀ (x1 : Int32) (h : ea_H), kp (ea_core h) ((gX11_look f).2 x1 h)) := by
  intro f
  induction f with
  | zero => exact ⟨fun _ _ => kp_none _, fun _ _ => kp_none _⟩
  | succ f ih => exact ⟨fun _ _ => kBX11_look_0 ih.2, fun _ _ => kBX11_look_24⟩
theorem tgX11_look {d : Nat} {h0 : ea_H} (hd : 2 ≤ d) : ∀ f : Nat, (∀ (x1 : Int32) (h : ea_H) (r : Int32) (h' : ea_H), (gX11_look f).1 x1 h = some (r, h') → ShC h → ea_W mX11_look d h0 (some (vI r)) h' 0 [(0, vR (some 0)), (1, vI x1)] [] h) ∧ (∀ (x1 : Int32) (h : ea_H) (r : Int32) (h' : ea_H), (gX11_look f).2 x1 h = some (r, h') → ShC h → ea_W mX11_look d h0 (some (vI r)) h' 24 [(0, vR (some 0)), (1, vI x1)] [] h) := by
  intro f
  induction f with
  | zero => exact ⟨fun _ _ _ _ E => no_some E, fun _ _ _ _ E => no_some E⟩
  | succ f ih => exact ⟨fun _ _ _ _ E hs => tBX11_look_0 hd ih.2 E hs, fun _ _ _ _ E hs => tBX11_look_24 hd E hs⟩
noncomputable def qX11_look (x1 : Int32) (h : ea_H) : Option (Int32 × ea_H) := qX11_look_0 x1 h
theorem sX11_look {d : Nat} {x1 : Int32} {h : ea_H} {r : Int32} {h' : ea_H} (hd : 2 ≤ d) (hs : ShC h) (K : qX11_look x1 h = some (r, h')) : ea_Met mX11_look d [vR (some 0), vI x1] h (some (vI r)) h' := by
  unfold qX11_look at K
  obtain ⟨n, hn⟩ := fqX11_look_0 x1 h _ K
  have W := (tgX11_look (d := d) (h0 := h) hd n).1 x1 h _ _ (hn n (Nat.le_refl _)) hs
  exact ea_enter rfl (Nat.le_of_ble_eq_true rfl) W
theorem kpX11_look (x1 : Int32) (h : ea_H) : kp (ea_core h) (qX11_look x1 h) := fun x e => by
  obtain ⟨n, hn⟩ := fqX11_look_0 x1 h x e
  exact (kgX11_look n).1 x1 h x (hn n (Nat.le_refl _))
noncomputable def BX11_feed_0 (x1 : Int32) (x2 : Int32) (x3 : Int32) (x4 : Int32) (x5 : Int32) (h : ea_H) : Option (Int32 × ea_H) :=
  (if ((ea_i h 24 0) + (20 : Int32)) ≤ (600 : Int32) then (Option.bind (qX6_take (x1 : Int32) h) fun w1 => (Option.bind (qX6_take (x2 : Int32) w1.2) fun w2 => (Option.bind (qX6_take (x3 : Int32) w2.2) fun w3 => (Option.bind (qX6_take (x4 : Int32) w3.2) fun w4 => (Option.bind (qX6_take (x5 : Int32) w4.2) fun w5 => (some ((ea_i w5.2 24 0), w5.2))))))) else (some (((-1) : Int32), h)))
theorem tBX11_feed_0 {d : Nat} {h0 : ea_H} (hd : 2 ≤ d)  {x1 : Int32} {x2 : Int32} {x3 : Int32} {x4 : Int32} {x5 : Int32} {h : ea_H} {r : Int32} {h' : ea_H} (E : BX11_feed_0 x1 x2 x3 x4 x5 h = some (r, h')) (hs : ShC h) : ea_W mX11_feed d h0 (some (vI r)) h' 0 [(0, vR (some 0)), (1, vI x1), (2, vI x2), (3, vI x3), (4, vI x4), (5, vI x5)] [] h := by
  unfold BX11_feed_0 at E
  refine ea_aload_n (pc := 0) dX11_feed_0 rfl 0 rfl ?_
  refine ea_getR (pc := 1) dX11_feed_1 ec_11 (k := 4) (Nat.le_of_ble_eq_true rfl) rfl (Or.inl ew_618) (cShC_0 hs).1 (cShC_0 hs).2.1 (rShC_0_4 hs) ?_
  refine ea_getR (pc := 4) dX11_feed_4 ec_8 (k := 0) (Nat.le_of_ble_eq_true rfl) rfl (Or.inl ew_397) (cShC_23 hs).1 (cShC_23 hs).2.1 (rShC_23_0 hs) ?_
  refine ea_astore (pc := 7) (lv' := [(1, vI x1), (2, vI x2), (3, vI x3), (4, vI x4), (5, vI x5), (6, vR (some 24))]) dX11_feed_7 (Nat.le_of_ble_eq_true rfl) [2, 3, 4, 5, 6, 0] rfl ?_
  refine ea_aload (pc := 9) dX11_feed_9 5 rfl ?_
  refine ea_getI (pc := 11) dX11_feed_11 ec_6 (k := 0) (Nat.le_of_ble_eq_true rfl) rfl (Or.inl ew_295) (cShC_24 hs).1 (cShC_24 hs).2.1 ?_
  refine ea_bipush (pc := 14) dX11_feed_14 (v := 20) rfl ?_
  refine ea_iadd (pc := 16) dX11_feed_16 ?_
  refine ea_sipush (pc := 17) dX11_feed_17 (v := 600) rfl ?_
  refine ea_icmp_le (pc := 20) (tgt := 25) dX11_feed_20 rfl (fun c6 => ?_) (fun c6 => ?_)
  · have E := (if_pos c6).symm.trans E
    obtain ⟨w1, Ew1, E⟩ := bd_some E
    have hsw1 : ShC w1.2 := ShC_core ((kpX6_take _ _) _ Ew1) hs
    refine ea_aload (pc := 25) dX11_feed_25 5 rfl ?_
    refine ea_iload_n (pc := 27) dX11_feed_27 rfl 0 rfl ?_
    refine ea_callV (pc := 28) (d' := d - 1) (As := [vI x1]) (st := []) dX11_feed_28 kX6_take (sX6_take (d := d - 1) (by omega) hs Ew1) (by omega) rfl (Nat.le_of_ble_eq_true rfl) ew_924 ew_925 ew_926 (ci := 6) rfl (by decide) (cShC_24 hs).1 (cShC_24 hs).2.1 ?_
    obtain ⟨w2, Ew2, E⟩ := bd_some E
    have hsw2 : ShC w2.2 := ShC_core ((kpX6_take _ _) _ Ew2) hsw1
    refine ea_aload (pc := 31) dX11_feed_31 5 rfl ?_
    refine ea_iload_n (pc := 33) dX11_feed_33 rfl 1 rfl ?_
    refine ea_callV (pc := 34) (d' := d - 1) (As := [vI x2]) (st := []) dX11_feed_34 kX6_take (sX6_take (d := d - 1) (by omega) hsw1 Ew2) (by omega) rfl (Nat.le_of_ble_eq_true rfl) ew_924 ew_925 ew_926 (ci := 6) rfl (by decide) (cShC_24 hsw1).1 (cShC_24 hsw1).2.1 ?_
    obtain ⟨w3, Ew3, E⟩ := bd_some E
    have hsw3 : ShC w3.2 := ShC_core ((kpX6_take _ _) _ Ew3) hsw2
    refine ea_aload (pc := 37) dX11_feed_37 5 rfl ?_
    refine ea_iload_n (pc := 39) dX11_feed_39 rfl 2 rfl ?_
    refine ea_callV (pc := 40) (d' := d - 1) (As := [vI x3]) (st := []) dX11_feed_40 kX6_take (sX6_take (d := d - 1) (by omega) hsw2 Ew3) (by omega) rfl (Nat.le_of_ble_eq_true rfl) ew_924 ew_925 ew_926 (ci := 6) rfl (by decide) (cShC_24 hsw2).1 (cShC_24 hsw2).2.1 ?_
    obtain ⟨w4, Ew4, E⟩ := bd_some E
    have hsw4 : ShC w4.2 := ShC_core ((kpX6_take _ _) _ Ew4) hsw3
    refine ea_aload (pc := 43) dX11_feed_43 5 rfl ?_
    refine ea_iload (pc := 45) dX11_feed_45 3 rfl ?_
    refine ea_callV (pc := 47) (d' := d - 1) (As := [vI x4]) (st := []) dX11_feed_47 kX6_take (sX6_take (d := d - 1) (by omega) hsw3 Ew4) (by omega) rfl (Nat.le_of_ble_eq_true rfl) ew_924 ew_925 ew_926 (ci := 6) rfl (by decide) (cShC_24 hsw3).1 (cShC_24 hsw3).2.1 ?_
    obtain ⟨w5, Ew5, E⟩ := bd_some E
    have hsw5 : ShC w5.2 := ShC_core ((kpX6_take _ _) _ Ew5) hsw4
    refine ea_aload (pc := 50) dX11_feed_50 5 rfl ?_
    refine ea_iload (pc := 52) dX11_feed_52 4 rfl ?_
    refine ea_callV (pc := 54) (d' := d - 1) (As := [vI x5]) (st := []) dX11_feed_54 kX6_take (sX6_take (d := d - 1) (by omega) hsw4 Ew5) (by omega) rfl (Nat.le_of_ble_eq_true rfl) ew_924 ew_925 ew_926 (ci := 6) rfl (by decide) (cShC_24 hsw4).1 (cShC_24 hsw4).2.1 ?_
    refine ea_aload (pc := 57) dX11_feed_57 5 rfl ?_
    refine ea_getI (pc := 59) dX11_feed_59 ec_6 (k := 0) (Nat.le_of_ble_eq_true rfl) rfl (Or.inl ew_295) (cShC_24 hsw5).1 (cShC_24 hsw5).2.1 ?_
    exact ea_iretO (pc := 62) dX11_feed_62 rfl rfl E
  · have E := (if_neg c6).symm.trans E
    refine ea_iconst (pc := 23) dX11_feed_23 (v := (-1)) rfl ?_
    exact ea_iretO (pc := 24) dX11_feed_24 rfl rfl E
theorem kBX11_feed_0  {x1 : Int32} {x2 : Int32} {x3 : Int32} {x4 : Int32} {x5 : Int32} {h : ea_H} : kp (ea_core h) (BX11_feed_0 x1 x2 x3 x4 x5 h) :=
  (kp_ite (kp_bind (kp_tw (kpX6_take _ _) rfl) fun w1 hcw1 => (kp_bind (kp_tw (kpX6_take _ _) hcw1) fun w2 hcw2 => (kp_bind (kp_tw (kpX6_take _ _) hcw2) fun w3 hcw3 => (kp_bind (kp_tw (kpX6_take _ _) hcw3) fun w4 hcw4 => (kp_bind (kp_tw (kpX6_take _ _) hcw4) fun w5 hcw5 => (kp_ret hcw5)))))) (kp_ret rfl))
noncomputable def qX11_feed (x1 : Int32) (x2 : Int32) (x3 : Int32) (x4 : Int32) (x5 : Int32) (h : ea_H) : Option (Int32 × ea_H) := BX11_feed_0 x1 x2 x3 x4 x5 h
theorem sX11_feed {d : Nat} {x1 : Int32} {x2 : Int32} {x3 : Int32} {x4 : Int32} {x5 : Int32} {h : ea_H} {r : Int32} {h' : ea_H} (hd : 2 ≤ d) (hs : ShC h) (K : qX11_feed x1 x2 x3 x4 x5 h = some (r, h')) : ea_Met mX11_feed d [vR (some 0), vI x1, vI x2, vI x3, vI x4, vI x5] h (some (vI r)) h' := by
  unfold qX11_feed at K
  have W := tBX11_feed_0 hd (h0 := h) K hs
  exact ea_enter rfl (Nat.le_of_ble_eq_true rfl) W
theorem kpX11_feed (x1 : Int32) (x2 : Int32) (x3 : Int32) (x4 : Int32) (x5 : Int32) (h : ea_H) : kp (ea_core h) (qX11_feed x1 x2 x3 x4 x5 h) := kBX11_feed_0
noncomputable def BX11_inForce_0 (x1 : Int32) (x2 : Int32) (h : ea_H) : Option (Int32 × ea_H) :=
  (if x1 < (0 : Int32) then (some (((-1) : Int32), h)) else (if x1 < (7 : Int32) then (Option.bind (qX8_numberOn (x1 : Int32) h) fun w1 => (Option.bind (qX8_actOf (w1.1 : Int32) w1.2) fun w2 => (if w2.1 = none then (some (((-1) : Int32), w2.2)) else (if Int32.toInt x2 = 0 then (some (w1.1, w2.2)) else (if Int32.toInt x2 = 1 then (gd (w2.1 = some (Option.getD w2.1 0)) (gd (((Option.getD w2.1 0) < ea_n w2.2 ∧ ea_c w2.2 (Option.getD w2.1 0) = 0)) (some ((ea_i w2.2 (Option.getD w2.1 0) 1), w2.2)))) else (if Int32.toInt x2 = 2 then (gd (w2.1 = some (Option.getD w2.1 0)) (gd (((Option.getD w2.1 0) < ea_n w2.2 ∧ ea_c w2.2 (Option.getD w2.1 0) = 0)) (some ((ea_i w2.2 (Option.getD w2.1 0) 2), w2.2)))) else (if Int32.toInt x2 = 3 then (gd (w2.1 = some (Option.getD w2.1 0)) (gd (((Option.getD w2.1 0) < ea_n w2.2 ∧ ea_c w2.2 (Option.getD w2.1 0) = 0)) (some ((ea_i w2.2 (Option.getD w2.1 0) 3), w2.2)))) else (if Int32.toInt x2 = 4 then (gd (w2.1 = some (Option.getD w2.1 0)) (gd (((Option.getD w2.1 0) < ea_n w2.2 ∧ ea_c w2.2 (Option.getD w2.1 0) = 0)) (some ((ea_i w2.2 (Option.getD w2.1 0) 4), w2.2)))) else (if Int32.toInt x2 = 5 then (gd (w2.1 = some (Option.getD w2.1 0)) (gd (((Option.getD w2.1 0) < ea_n w2.2 ∧ ea_c w2.2 (Option.getD w2.1 0) = 0)) (some ((ea_i w2.2 (Option.getD w2.1 0) 5), w2.2)))) else (if Int32.toInt x2 = 6 then (gd (w2.1 = some (Option.getD w2.1 0)) (gd (((Option.getD w2.1 0) < ea_n w2.2 ∧ ea_c w2.2 (Option.getD w2.1 0) = 0)) (some ((ea_i w2.2 (Option.getD w2.1 0) 6), w2.2)))) else (if Int32.toInt x2 = 7 then (gd (w2.1 = some (Option.getD w2.1 0)) (gd (((Option.getD w2.1 0) < ea_n w2.2 ∧ ea_c w2.2 (Option.getD w2.1 0) = 0)) (some ((ea_i w2.2 (Option.getD w2.1 0) 7), w2.2)))) else (some (((-1) : Int32), w2.2))))))))))))) else (some (((-1) : Int32), h))))
theorem tBX11_inForce_0 {d : Nat} {h0 : ea_H} (hd : 2 ≤ d)  {x1 : Int32} {x2 : Int32} {h : ea_H} {r : Int32} {h' : ea_H} (E : BX11_inForce_0 x1 x2 h = some (r, h')) (hs : ShC h) : ea_W mX11_inForce d h0 (some (vI r)) h' 0 [(0, vR (some 0)), (1, vI x1), (2, vI x2)] [] h := by
  unfold BX11_inForce_0 at E
  refine ea_iload_n (pc := 0) dX11_inForce_0 rfl 1 rfl ?_
  refine ea_if_lt (pc := 1) (tgt := 10) dX11_inForce_1 rfl (fun c20 => ?_) (fun c20 => ?_)
  · have E := (if_pos c20).symm.trans E
    refine ea_iconst (pc := 10) dX11_inForce_10 (v := (-1)) rfl ?_
    exact ea_iretO (pc := 11) dX11_inForce_11 rfl rfl E
  · have E := (if_neg c20).symm.trans E
    refine ea_iload_n (pc := 4) dX11_inForce_4 rfl 1 rfl ?_
    refine ea_bipush (pc := 5) dX11_inForce_5 (v := 7) rfl ?_
    refine ea_icmp_lt (pc := 7) (tgt := 12) dX11_inForce_7 rfl (fun c19 => ?_) (fun c19 => ?_)
    · have E := (if_pos c19).symm.trans E
      obtain ⟨w1, Ew1, E⟩ := bd_some E
      have hsw1 : ShC w1.2 := ShC_core ((kpX8_numberOn _ _) _ Ew1) hs
      refine ea_aload_n (pc := 12) dX11_inForce_12 rfl 0 rfl ?_
      refine ea_getR (pc := 13) dX11_inForce_13 ec_11 (k := 4) (Nat.le_of_ble_eq_true rfl) rfl (Or.inl ew_618) (cShC_0 hs).1 (cShC_0 hs).2.1 (rShC_0_4 hs) ?_
      refine ea_iload_n (pc := 16) dX11_inForce_16 rfl 1 rfl ?_
      refine ea_callV (pc := 17) (d' := d - 1) (As := [vI x1]) (st := []) dX11_inForce_17 kX8_numberOn (sX8_numberOn (d := d - 1) (by omega) hs Ew1) (by omega) rfl (Nat.le_of_ble_eq_true rfl) ew_1057 ew_1058 ew_1059 (ci := 8) rfl (by decide) (cShC_23 hs).1 (cShC_23 hs).2.1 ?_
      obtain ⟨w2, Ew2, E⟩ := bd_some E
      have hsw2 : ShC w2.2 := ShC_core ((kpX8_actOf _ _) _ Ew2) hsw1
      refine ea_istore_n (pc := 20) (lv' := [(0, vR (some 0)), (2, vI x2), (3, vI w1.1)]) dX11_inForce_20 rfl (Nat.le_of_ble_eq_true rfl) [1, 3, 0] rfl ?_
      refine ea_aload_n (pc := 21) dX11_inForce_21 rfl 0 rfl ?_
      refine ea_getR (pc := 22) dX11_inForce_22 ec_11 (k := 4) (Nat.le_of_ble_eq_true rfl) rfl (Or.inl ew_618) (cShC_0 hsw1).1 (cShC_0 hsw1).2.1 (rShC_0_4 hsw1) ?_
      refine ea_iload_n (pc := 25) dX11_inForce_25 rfl 2 rfl ?_
      refine ea_callV (pc := 26) (d' := d - 1) (As := [vI w1.1]) (st := []) dX11_inForce_26 kX8_actOf (sX8_actOf (d := d - 1) (by omega) hsw1 Ew2) (by omega) rfl (Nat.le_of_ble_eq_true rfl) ew_1061 ew_1062 ew_1063 (ci := 8) rfl (by decide) (cShC_23 hsw1).1 (cShC_23 hsw1).2.1 ?_
      refine ea_astore (pc := 29) (lv' := [(2, vI x2), (3, vI w1.1), (4, vR w2.1)]) dX11_inForce_29 (Nat.le_of_ble_eq_true rfl) [2, 3, 0] rfl ?_
      refine ea_aload (pc := 31) dX11_inForce_31 2 rfl ?_
      refine ea_ifnonnull (pc := 33) (tgt := 38) dX11_inForce_33 rfl (fun a18 c17 => ?_) (fun c17 => ?_)
      · have c17n : ¬ w2.1 = none := by rw [c17]; exact fun q => nomatch q
        have E := (if_neg c17n).symm.trans E
        refine ea_iload_n (pc := 38) dX11_inForce_38 rfl 0 rfl ?_
        by_cases q39_0 : Int32.toInt x2 = 0
        · have E := (if_pos q39_0).symm.trans E
          refine ea_tswIn (pc := 39) (tgt := 84) dX11_inForce_39 (by rw [q39_0]; decide) (by rw [q39_0]; decide) (by rw [q39_0]; rfl) rfl ?_
          refine ea_iload_n (pc := 84) dX11_inForce_84 rfl 1 rfl ?_
          exact ea_iretO (pc := 85) dX11_inForce_85 rfl rfl E
        have E := (if_neg q39_0).symm.trans E
        by_cases q39_1 : Int32.toInt x2 = 1
        · have E := (if_pos q39_1).symm.trans E
          obtain ⟨e15, E⟩ := gd_some E
          refine ea_tswIn (pc := 39) (tgt := 86) dX11_inForce_39 (by rw [q39_1]; decide) (by rw [q39_1]; decide) (by rw [q39_1]; rfl) rfl ?_
          refine ea_aload (pc := 86) dX11_inForce_86 2 rfl ?_
          obtain ⟨f16, E⟩ := gd_some E
          refine ea_deref0 e15 ?_
          refine ea_getI (pc := 88) dX11_inForce_88 ec_0 (k := 1) (Nat.le_of_ble_eq_true rfl) rfl (Or.inl ew_339) f16.1 f16.2 ?_
          exact ea_iretO (pc := 91) dX11_inForce_91 rfl rfl E
        have E := (if_neg q39_1).symm.trans E
        by_cases q39_2 : Int32.toInt x2 = 2
        · have E := (if_pos q39_2).symm.trans E
          obtain ⟨e13, E⟩ := gd_some E
          refine ea_tswIn (pc := 39) (tgt := 92) dX11_inForce_39 (by rw [q39_2]; decide) (by rw [q39_2]; decide) (by rw [q39_2]; rfl) rfl ?_
          refine ea_aload (pc := 92) dX11_inForce_92 2 rfl ?_
          obtain ⟨f14, E⟩ := gd_some E
          refine ea_deref0 e13 ?_
          refine ea_getI (pc := 94) dX11_inForce_94 ec_0 (k := 2) (Nat.le_of_ble_eq_true rfl) rfl (Or.inl ew_343) f14.1 f14.2 ?_
          exact ea_iretO (pc := 97) dX11_inForce_97 rfl rfl E
        have E := (if_neg q39_2).symm.trans E
        by_cases q39_3 : Int32.toInt x2 = 3
        · have E := (if_pos q39_3).symm.trans E
          obtain ⟨e11, E⟩ := gd_some E
          refine ea_tswIn (pc := 39) (tgt := 98) dX11_inForce_39 (by rw [q39_3]; decide) (by rw [q39_3]; decide) (by rw [q39_3]; rfl) rfl ?_
          refine ea_aload (pc := 98) dX11_inForce_98 2 rfl ?_
          obtain ⟨f12, E⟩ := gd_some E
          refine ea_deref0 e11 ?_
          refine ea_getI (pc := 100) dX11_inForce_100 ec_0 (k := 3) (Nat.le_of_ble_eq_true rfl) rfl (Or.inl ew_347) f12.1 f12.2 ?_
          exact ea_iretO (pc := 103) dX11_inForce_103 rfl rfl E
        have E := (if_neg q39_3).symm.trans E
        by_cases q39_4 : Int32.toInt x2 = 4
        · have E := (if_pos q39_4).symm.trans E
          obtain ⟨e9, E⟩ := gd_some E
          refine ea_tswIn (pc := 39) (tgt := 104) dX11_inForce_39 (by rw [q39_4]; decide) (by rw [q39_4]; decide) (by rw [q39_4]; rfl) rfl ?_
          refine ea_aload (pc := 104) dX11_inForce_104 2 rfl ?_
          obtain ⟨f10, E⟩ := gd_some E
          refine ea_deref0 e9 ?_
          refine ea_getI (pc := 106) dX11_inForce_106 ec_0 (k := 4) (Nat.le_of_ble_eq_true rfl) rfl (Or.inl ew_351) f10.1 f10.2 ?_
          exact ea_iretO (pc := 109) dX11_inForce_109 rfl rfl E
        have E := (if_neg q39_4).symm.trans E
        by_cases q39_5 : Int32.toInt x2 = 5
        · have E := (if_pos q39_5).symm.trans E
          obtain ⟨e7, E⟩ := gd_some E
          refine ea_tswIn (pc := 39) (tgt := 110) dX11_inForce_39 (by rw [q39_5]; decide) (by rw [q39_5]; decide) (by rw [q39_5]; rfl) rfl ?_
          refine ea_aload (pc := 110) dX11_inForce_110 2 rfl ?_
          obtain ⟨f8, E⟩ := gd_some E
          refine ea_deref0 e7 ?_
          refine ea_getI (pc := 112) dX11_inForce_112 ec_0 (k := 5) (Nat.le_of_ble_eq_true rfl) rfl (Or.inl ew_355) f8.1 f8.2 ?_
          exact ea_iretO (pc := 115) dX11_inForce_115 rfl rfl E
        have E := (if_neg q39_5).symm.trans E
        by_cases q39_6 : Int32.toInt x2 = 6
        · have E := (if_pos q39_6).symm.trans E
          obtain ⟨e5, E⟩ := gd_some E
          refine ea_tswIn (pc := 39) (tgt := 116) dX11_inForce_39 (by rw [q39_6]; decide) (by rw [q39_6]; decide) (by rw [q39_6]; rfl) rfl ?_
          refine ea_aload (pc := 116) dX11_inForce_116 2 rfl ?_
          obtain ⟨f6, E⟩ := gd_some E
          refine ea_deref0 e5 ?_
          refine ea_getI (pc := 118) dX11_inForce_118 ec_0 (k := 6) (Nat.le_of_ble_eq_true rfl) rfl (Or.inl ew_359) f6.1 f6.2 ?_
          exact ea_iretO (pc := 121) dX11_inForce_121 rfl rfl E
        have E := (if_neg q39_6).symm.trans E
        by_cases q39_7 : Int32.toInt x2 = 7
        · have E := (if_pos q39_7).symm.trans E
          obtain ⟨e3, E⟩ := gd_some E
          refine ea_tswIn (pc := 39) (tgt := 122) dX11_inForce_39 (by rw [q39_7]; decide) (by rw [q39_7]; decide) (by rw [q39_7]; rfl) rfl ?_
          refine ea_aload (pc := 122) dX11_inForce_122 2 rfl ?_
          obtain ⟨f4, E⟩ := gd_some E
          refine ea_deref0 e3 ?_
          refine ea_getI (pc := 124) dX11_inForce_124 ec_0 (k := 7) (Nat.le_of_ble_eq_true rfl) rfl (Or.inl ew_363) f4.1 f4.2 ?_
          exact ea_iretO (pc := 127) dX11_inForce_127 rfl rfl E
        have E := (if_neg q39_7).symm.trans E
        refine ea_tswOut (pc := 39) (tgt := 128) dX11_inForce_39 (ea_sw_0_7 q39_0 q39_1 q39_2 q39_3 q39_4 q39_5 q39_6 q39_7) rfl ?_
        refine ea_iconst (pc := 128) dX11_inForce_128 (v := (-1)) rfl ?_
        exact ea_iretO (pc := 129) dX11_inForce_129 rfl rfl E
      · have E := (if_pos c17).symm.trans E
        refine ea_iconst (pc := 36) dX11_inForce_36 (v := (-1)) rfl ?_
        exact ea_iretO (pc := 37) dX11_inForce_37 rfl rfl E
    · have E := (if_neg c19).symm.trans E
      refine ea_iconst (pc := 10) dX11_inForce_10 (v := (-1)) rfl ?_
      exact ea_iretO (pc := 11) dX11_inForce_11 rfl rfl E
theorem kBX11_inForce_0  {x1 : Int32} {x2 : Int32} {h : ea_H} : kp (ea_core h) (BX11_inForce_0 x1 x2 h) :=
  (kp_ite (kp_ret rfl) (kp_ite (kp_bind (kp_tw (kpX8_numberOn _ _) rfl) fun w1 hcw1 => (kp_bind (kp_tw (kpX8_actOf _ _) hcw1) fun w2 hcw2 => (kp_ite (kp_ret hcw2) (kp_ite (kp_ret hcw2) (kp_ite (kp_gd (kp_gd (kp_ret hcw2))) (kp_ite (kp_gd (kp_gd (kp_ret hcw2))) (kp_ite (kp_gd (kp_gd (kp_ret hcw2))) (kp_ite (kp_gd (kp_gd (kp_ret hcw2))) (kp_ite (kp_gd (kp_gd (kp_ret hcw2))) (kp_ite (kp_gd (kp_gd (kp_ret hcw2))) (kp_ite (kp_gd (kp_gd (kp_ret hcw2))) (kp_ret hcw2)))))))))))) (kp_ret rfl)))
noncomputable def qX11_inForce (x1 : Int32) (x2 : Int32) (h : ea_H) : Option (Int32 × ea_H) := BX11_inForce_0 x1 x2 h
theorem sX11_inForce {d : Nat} {x1 : Int32} {x2 : Int32} {h : ea_H} {r : Int32} {h' : ea_H} (hd : 2 ≤ d) (hs : ShC h) (K : qX11_inForce x1 x2 h = some (r, h')) : ea_Met mX11_inForce d [vR (some 0), vI x1, vI x2] h (some (vI r)) h' := by
  unfold qX11_inForce at K
  have W := tBX11_inForce_0 hd (h0 := h) K hs
  exact ea_enter rfl (Nat.le_of_ble_eq_true rfl) W
theorem kpX11_inForce (x1 : Int32) (x2 : Int32) (h : ea_H) : kp (ea_core h) (qX11_inForce x1 x2 h) := kBX11_inForce_0
noncomputable def BX11_of_0 (J30 : Int32 → Int32 → Option Nat → Int32 → ea_H → Option (Int32 × ea_H)) (x1 : Int32) (x2 : Int32) (h : ea_H) : Option (Int32 × ea_H) :=
  (Option.bind (qX11_letterOf (x1 : Int32) h) fun w1 => (if w1.1 = none then (some (((-1) : Int32), w1.2)) else (gd (vp_in x1 120) (if (ea_i w1.2 53 (Int32.toNatClampNeg x1)) = (1 : Int32) then (J30 (x1 : Int32) (x2 : Int32) (w1.1 : Option Nat) (1 : Int32) w1.2) else (J30 (x1 : Int32) (x2 : Int32) (w1.1 : Option Nat) (0 : Int32) w1.2)))))
theorem tBX11_of_0 {d : Nat} {h0 : ea_H} (hd : 2 ≤ d) {J30 : Int32 → Int32 → Option Nat → Int32 → ea_H → Option (Int32 × ea_H)}  (kJ30 : ∀ (x1 : Int32) (x2 : Int32) (r3 : Option Nat) (sx0 : Int32) (h : ea_H) (r : Int32) (h' : ea_H), J30 x1 x2 r3 sx0 h = some (r, h') → ShC h → ea_W mX11_of d h0 (some (vI r)) h' 30 [(0, vR (some 0)), (1, vI x1), (2, vI x2), (3, vR r3)] [vI sx0] h) {x1 : Int32} {x2 : Int32} {h : ea_H} {r : Int32} {h' : ea_H} (E : BX11_of_0 J30 x1 x2 h = some (r, h')) (hs : ShC h) : ea_W mX11_of d h0 (some (vI r)) h' 0 [(0, vR (some 0)), (1, vI x1), (2, vI x2)] [] h := by
  unfold BX11_of_0 at E
  obtain ⟨w1, Ew1, E⟩ := bd_some E
  have hsw1 : ShC w1.2 := ShC_core ((kpX11_letterOf _ _) _ Ew1) hs
  refine ea_aload_n (pc := 0) dX11_of_0 rfl 0 rfl ?_
  refine ea_iload_n (pc := 1) dX11_of_1 rfl 1 rfl ?_
  refine ea_callV (pc := 2) (d' := d - 1) (As := [vI x1]) (st := []) dX11_of_2 kX11_letterOf (sX11_letterOf (d := d - 1) (by omega) hs Ew1) (by omega) rfl (Nat.le_of_ble_eq_true rfl) ew_1130 ew_1132 ew_37 (ci := 11) rfl (by decide) (cShC_0 hs).1 (cShC_0 hs).2.1 ?_
  refine ea_astore_n (pc := 5) (lv' := [(0, vR (some 0)), (1, vI x1), (2, vI x2), (3, vR w1.1)]) dX11_of_5 rfl (Nat.le_of_ble_eq_true rfl) [1, 2, 3, 0] rfl ?_
  refine ea_aload_n (pc := 6) dX11_of_6 rfl 3 rfl ?_
  refine ea_ifnonnull (pc := 7) (tgt := 12) dX11_of_7 rfl (fun a5 c4 => ?_) (fun c4 => ?_)
  · have c4n : ¬ w1.1 = none := by rw [c4]; exact fun q => nomatch q
    have E := (if_neg c4n).symm.trans E
    obtain ⟨z2, E⟩ := gd_some E
    refine ea_aload_n (pc := 12) dX11_of_12 rfl 0 rfl ?_
    refine ea_getR (pc := 13) dX11_of_13 ec_11 (k := 7) (Nat.le_of_ble_eq_true rfl) rfl (Or.inl ew_621) (cShC_0 hsw1).1 (cShC_0 hsw1).2.1 (rShC_0_7 hsw1) ?_
    refine ea_getR (pc := 16) dX11_of_16 ec_1 (k := 1) (Nat.le_of_ble_eq_true rfl) rfl (Or.inl ew_444) (cShC_52 hsw1).1 (cShC_52 hsw1).2.1 (rShC_52_1 hsw1) ?_
    refine ea_iload_n (pc := 19) dX11_of_19 rfl 1 rfl ?_
    refine ea_iald (pc := 20) dX11_of_20 (cShC_53 hsw1).1 (cShC_53 hsw1).2.1 (ea_vpl (cShC_53 hsw1).2.2 z2) ?_
    refine ea_iconst (pc := 21) dX11_of_21 (v := 1) rfl ?_
    refine ea_icmp_ne (pc := 22) (tgt := 29) dX11_of_22 rfl (fun c3 => ?_) (fun c3 => ?_)
    · have E := (if_neg c3).symm.trans E
      refine ea_iconst (pc := 29) dX11_of_29 (v := 0) rfl ?_
      exact (kJ30 (x1 : Int32) (x2 : Int32) (w1.1 : Option Nat) (0 : Int32) w1.2 _ _ E hsw1)
    · have E := (if_pos c3).symm.trans E
      refine ea_iconst (pc := 25) dX11_of_25 (v := 1) rfl ?_
      refine ea_goto (pc := 26) (tgt := 30) dX11_of_26 rfl ?_
      exact (kJ30 (x1 : Int32) (x2 : Int32) (w1.1 : Option Nat) (1 : Int32) w1.2 _ _ E hsw1)
  · have E := (if_pos c4).symm.trans E
    refine ea_iconst (pc := 10) dX11_of_10 (v := (-1)) rfl ?_
    exact ea_iretO (pc := 11) dX11_of_11 rfl rfl E
theorem kBX11_of_0 {J30 : Int32 → Int32 → Option Nat → Int32 → ea_H → Option (Int32 × ea_H)}  (cJ30 : ∀ (x1 : Int32) (x2 : Int32) (r3 : Option Nat) (sx0 : Int32) (h : ea_H), kp (ea_core h) (J30 x1 x2 r3 sx0 h)) {x1 : Int32} {x2 : Int32} {h : ea_H} : kp (ea_core h) (BX11_of_0 J30 x1 x2 h) :=
  (kp_bind (kp_tw (kpX11_letterOf _ _) rfl) fun w1 hcw1 => (kp_ite (kp_ret hcw1) (kp_gd (kp_ite (kp_tw (cJ30 _ _ _ _ _) hcw1) (kp_tw (cJ30 _ _ _ _ _) hcw1)))))
theorem lBX11_of_0 {J30 : Int32 → Int32 → Option Nat → Int32 → ea_H → Option (Int32 × ea_H)} {J30_ : Int32 → Int32 → Option Nat → Int32 → ea_H → Option (Int32 × ea_H)}  (mJ30 : ∀ (x1 : Int32) (x2 : Int32) (r3 : Option Nat) (sx0 : Int32) (h : ea_H), fle (J30 x1 x2 r3 sx0 h) (J30_ x1 x2 r3 sx0 h)) {x1 : Int32} {x2 : Int32} {h : ea_H} : fle (BX11_of_0 J30 x1 x2 h) (BX11_of_0 J30_ x1 x2 h) :=
  (fle_bind (fle_rfl _) fun _ => (fle_ite (fle_rfl _) (fle_gd (fle_ite (mJ30 _ _ _ _ _) (mJ30 _ _ _ _ _)))))
theorem nBX11_of_0 {J30 : Int32 → Int32 → Option Nat → Int32 → ea_H → Option (Int32 × ea_H)} {J30_ : Nat → (Int32 → Int32 → Option Nat → Int32 → ea_H → Option (Int32 × ea_H))}  (mJ30 : ∀ (x1 : Int32) (x2 : Int32) (r3 : Option Nat) (sx0 : Int32) (h : ea_H), fct (J30 x1 x2 r3 sx0 h) (fun f => J30_ f x1 x2 r3 sx0 h)) {x1 : Int32} {x2 : Int32} {h : ea_H} : fct (BX11_of_0 J30 x1 x2 h) (fun f => BX11_of_0 (J30_ f) x1 x2 h) :=
  (fct_bind (fct_rfl _) fun _ => (fct_ite (fct_rfl _) (fct_gd (fct_ite (mJ30 _ _ _ _ _) (mJ30 _ _ _ _ _)))))
noncomputable def BX11_of_30 (x1 : Int32) (x2 : Int32) (r3 : Option Nat) (sx0 : Int32) (h : ea_H) : Option (Int32 × ea_H) :=
  (if Int32.toInt x2 = 0 then (gd (r3 = some (Option.getD r3 0)) (gd (((Option.getD r3 0) < ea_n h ∧ ea_c h (Option.getD r3 0) = 5)) (some ((ea_i h (Option.getD r3 0) 0), h)))) else (if Int32.toInt x2 = 1 then (gd (r3 = some (Option.getD r3 0)) (gd (((Option.getD r3 0) < ea_n h ∧ ea_c h (Option.getD r3 0) = 5)) (some ((ea_i h (Option.getD r3 0) 1), h)))) else (if Int32.toInt x2 = 2 then (gd (r3 = some (Option.getD r3 0)) (gd (((Option.getD r3 0) < ea_n h ∧ ea_c h (Option.getD r3 0) = 5)) (some ((ea_i h (Option.getD r3 0) 2), h)))) else (if Int32.toInt x2 = 3 then (gd (r3 = some (Option.getD r3 0)) (gd (((Option.getD r3 0) < ea_n h ∧ ea_c h (Option.getD r3 0) = 5)) (some ((ea_i h (Option.getD r3 0) 3), h)))) else (if Int32.toInt x2 = 4 then (gd (r3 = some (Option.getD r3 0)) (gd (((Option.getD r3 0) < ea_n h ∧ ea_c h (Option.getD r3 0) = 5)) (some ((ea_i h (Option.getD r3 0) 4), h)))) else (if Int32.toInt x2 = 5 then (gd (r3 = some (Option.getD r3 0)) (gd (((Option.getD r3 0) < ea_n h ∧ ea_c h (Option.getD r3 0) = 5)) (some ((ea_i h (Option.getD r3 0) 5), h)))) else (if Int32.toInt x2 = 6 then (gd (r3 = some (Option.getD r3 0)) (gd (((Option.getD r3 0) < ea_n h ∧ ea_c h (Option.getD r3 0) = 5)) (some ((ea_i h (Option.getD r3 0) 6), h)))) else (if Int32.toInt x2 = 7 then (gd (vp_in x1 120) (some ((ea_i h 53 (Int32.toNatClampNeg x1)), h))) else (if Int32.toInt x2 = 8 then (gd (vp_in x1 120) (some ((ea_i h 54 (Int32.toNatClampNeg x1)), h))) else (if Int32.toInt x2 = 9 then (gd (r3 = some (Option.getD r3 0)) (gd (((Option.getD r3 0) < ea_n h ∧ ea_c h (Option.getD r3 0) = 5)) (if (ea_i h (Option.getD r3 0) 8) = (0 : Int32) then (some ((0 : Int32), h)) else (some ((1 : Int32), h))))) else (if Int32.toInt x2 = 10 then (if sx0 = (0 : Int32) then (some ((0 : Int32), h)) else (gd (vp_in x1 120) (if (ea_i h 57 (Int32.toNatClampNeg x1)) = (0 : Int32) then (some ((0 : Int32), h)) else (some ((1 : Int32), h))))) else (if Int32.toInt x2 = 11 then (if sx0 = (0 : Int32) then (some (((-1) : Int32), h)) else (gd (vp_in x1 120) (some ((ea_i h 55 (Int32.toNatClampNeg x1)), h)))) else (if Int32.toInt x2 = 12 then (gd (vp_in x1 120) (some ((ea_i h 56 (Int32.toNatClampNeg x1)), h))) else (some (((-1) : Int32), h)))))))))))))))
theorem tBX11_of_30 {d : Nat} {h0 : ea_H} (hd : 2 ≤ d)  {x1 : Int32} {x2 : Int32} {r3 : Option Nat} {sx0 : Int32} {h : ea_H} {r : Int32} {h' : ea_H} (E : BX11_of_30 x1 x2 r3 sx0 h = some (r, h')) (hs : ShC h) : ea_W mX11_of d h0 (some (vI r)) h' 30 [(0, vR (some 0)), (1, vI x1), (2, vI x2), (3, vR r3)] [vI sx0] h := by
  unfold BX11_of_30 at E
  refine ea_istore (pc := 30) (lv' := [(0, vR (some 0)), (1, vI x1), (2, vI x2), (3, vR r3), (4, vI sx0)]) dX11_of_30 (Nat.le_of_ble_eq_true rfl) [1, 2, 3, 4, 0] rfl ?_
  refine ea_iload_n (pc := 32) dX11_of_32 rfl 2 rfl ?_
  by_cases q33_0 : Int32.toInt x2 = 0
  · have E := (if_pos q33_0).symm.trans E
    obtain ⟨e29, E⟩ := gd_some E
    refine ea_tswIn (pc := 33) (tgt := 100) dX11_of_33 (by rw [q33_0]; decide) (by rw [q33_0]; decide) (by rw [q33_0]; rfl) rfl ?_
    refine ea_aload_n (pc := 100) dX11_of_100 rfl 3 rfl ?_
    obtain ⟨f30, E⟩ := gd_some E
    refine ea_deref0 e29 ?_
    refine ea_getI (pc := 101) dX11_of_101 ec_5 (k := 0) (Nat.le_of_ble_eq_true rfl) rfl (Or.inl ew_506) f30.1 f30.2 ?_
    exact ea_iretO (pc := 104) dX11_of_104 rfl rfl E
  have E := (if_neg q33_0).symm.trans E
  by_cases q33_1 : Int32.toInt x2 = 1
  · have E := (if_pos q33_1).symm.trans E
    obtain ⟨e27, E⟩ := gd_some E
    refine ea_tswIn (pc := 33) (tgt := 105) dX11_of_33 (by rw [q33_1]; decide) (by rw [q33_1]; decide) (by rw [q33_1]; rfl) rfl ?_
    refine ea_aload_n (pc := 105) dX11_of_105 rfl 3 rfl ?_
    obtain ⟨f28, E⟩ := gd_some E
    refine ea_deref0 e27 ?_
    refine ea_getI (pc := 106) dX11_of_106 ec_5 (k := 1) (Nat.le_of_ble_eq_true rfl) rfl (Or.inl ew_509) f28.1 f28.2 ?_
    exact ea_iretO (pc := 109) dX11_of_109 rfl rfl E
  have E := (if_neg q33_1).symm.trans E
  by_cases q33_2 : Int32.toInt x2 = 2
  · have E := (if_pos q33_2).symm.trans E
    obtain ⟨e25, E⟩ := gd_some E
    refine ea_tswIn (pc := 33) (tgt := 110) dX11_of_33 (by rw [q33_2]; decide) (by rw [q33_2]; decide) (by rw [q33_2]; rfl) rfl ?_
    refine ea_aload_n (pc := 110) dX11_of_110 rfl 3 rfl ?_
    obtain ⟨f26, E⟩ := gd_some E
    refine ea_deref0 e25 ?_
    refine ea_getI (pc := 111) dX11_of_111 ec_5 (k := 2) (Nat.le_of_ble_eq_true rfl) rfl (Or.inl ew_512) f26.1 f26.2 ?_
    exact ea_iretO (pc := 114) dX11_of_114 rfl rfl E
  have E := (if_neg q33_2).symm.trans E
  by_cases q33_3 : Int32.toInt x2 = 3
  · have E := (if_pos q33_3).symm.trans E
    obtain ⟨e23, E⟩ := gd_some E
    refine ea_tswIn (pc := 33) (tgt := 115) dX11_of_33 (by rw [q33_3]; decide) (by rw [q33_3]; decide) (by rw [q33_3]; rfl) rfl ?_
    refine ea_aload_n (pc := 115) dX11_of_115 rfl 3 rfl ?_
    obtain ⟨f24, E⟩ := gd_some E
    refine ea_deref0 e23 ?_
    refine ea_getI (pc := 116) dX11_of_116 ec_5 (k := 3) (Nat.le_of_ble_eq_true rfl) rfl (Or.inl ew_515) f24.1 f24.2 ?_
    exact ea_iretO (pc := 119) dX11_of_119 rfl rfl E
  have E := (if_neg q33_3).symm.trans E
  by_cases q33_4 : Int32.toInt x2 = 4
  · have E := (if_pos q33_4).symm.trans E
    obtain ⟨e21, E⟩ := gd_some E
    refine ea_tswIn (pc := 33) (tgt := 120) dX11_of_33 (by rw [q33_4]; decide) (by rw [q33_4]; decide) (by rw [q33_4]; rfl) rfl ?_
    refine ea_aload_n (pc := 120) dX11_of_120 rfl 3 rfl ?_
    obtain ⟨f22, E⟩ := gd_some E
    refine ea_deref0 e21 ?_
    refine ea_getI (pc := 121) dX11_of_121 ec_5 (k := 4) (Nat.le_of_ble_eq_true rfl) rfl (Or.inl ew_518) f22.1 f22.2 ?_
    exact ea_iretO (pc := 124) dX11_of_124 rfl rfl E
  have E := (if_neg q33_4).symm.trans E
  by_cases q33_5 : Int32.toInt x2 = 5
  · have E := (if_pos q33_5).symm.trans E
    obtain ⟨e19, E⟩ := gd_some E
    refine ea_tswIn (pc := 33) (tgt := 125) dX11_of_33 (by rw [q33_5]; decide) (by rw [q33_5]; decide) (by rw [q33_5]; rfl) rfl ?_
    refine ea_aload_n (pc := 125) dX11_of_125 rfl 3 rfl ?_
    obtain ⟨f20, E⟩ := gd_some E
    refine ea_deref0 e19 ?_
    refine ea_getI (pc := 126) dX11_of_126 ec_5 (k := 5) (Nat.le_of_ble_eq_true rfl) rfl (Or.inl ew_520) f20.1 f20.2 ?_
    exact ea_iretO (pc := 129) dX11_of_129 rfl rfl E
  have E := (if_neg q33_5).symm.trans E
  by_cases q33_6 : Int32.toInt x2 = 6
  · have E := (if_pos q33_6).symm.trans E
    obtain ⟨e17, E⟩ := gd_some E
    refine ea_tswIn (pc := 33) (tgt := 130) dX11_of_33 (by rw [q33_6]; decide) (by rw [q33_6]; decide) (by rw [q33_6]; rfl) rfl ?_
    refine ea_aload_n (pc := 130) dX11_of_130 rfl 3 rfl ?_
    obtain ⟨f18, E⟩ := gd_some E
    refine ea_deref0 e17 ?_
    refine ea_getI (pc := 131) dX11_of_131 ec_5 (k := 6) (Nat.le_of_ble_eq_true rfl) rfl (Or.inl ew_524) f18.1 f18.2 ?_
    exact ea_iretO (pc := 134) dX11_of_134 rfl rfl E
  have E := (if_neg q33_6).symm.trans E
  by_cases q33_7 : Int32.toInt x2 = 7
  · have E := (if_pos q33_7).symm.trans E
    obtain ⟨z16, E⟩ := gd_some E
    refine ea_tswIn (pc := 33) (tgt := 135) dX11_of_33 (by rw [q33_7]; decide) (by rw [q33_7]; decide) (by rw [q33_7]; rfl) rfl ?_
    refine ea_aload_n (pc := 135) dX11_of_135 rfl 0 rfl ?_
    refine ea_getR (pc := 136) dX11_of_136 ec_11 (k := 7) (Nat.le_of_ble_eq_true rfl) rfl (Or.inl ew_621) (cShC_0 hs).1 (cShC_0 hs).2.1 (rShC_0_7 hs) ?_
    refine ea_getR (pc := 139) dX11_of_139 ec_1 (k := 1) (Nat.le_of_ble_eq_true rfl) rfl (Or.inl ew_444) (cShC_52 hs).1 (cShC_52 hs).2.1 (rShC_52_1 hs) ?_
    refine ea_iload_n (pc := 142) dX11_of_142 rfl 1 rfl ?_
    refine ea_iald (pc := 143) dX11_of_143 (cShC_53 hs).1 (cShC_53 hs).2.1 (ea_vpl (cShC_53 hs).2.2 z16) ?_
    exact ea_iretO (pc := 144) dX11_of_144 rfl rfl E
  have E := (if_neg q33_7).symm.trans E
  by_cases q33_8 : Int32.toInt x2 = 8
  · have E := (if_pos q33_8).symm.trans E
    obtain ⟨z15, E⟩ := gd_some E
    refine ea_tswIn (pc := 33) (tgt := 145) dX11_of_33 (by rw [q33_8]; decide) (by rw [q33_8]; decide) (by rw [q33_8]; rfl) rfl ?_
    refine ea_aload_n (pc := 145) dX11_of_145 rfl 0 rfl ?_
    refine ea_getR (pc := 146) dX11_of_146 ec_11 (k := 7) (Nat.le_of_ble_eq_true rfl) rfl (Or.inl ew_621) (cShC_0 hs).1 (cShC_0 hs).2.1 (rShC_0_7 hs) ?_
    refine ea_getR (pc := 149) dX11_of_149 ec_1 (k := 2) (Nat.le_of_ble_eq_true rfl) rfl (Or.inl ew_446) (cShC_52 hs).1 (cShC_52 hs).2.1 (rShC_52_2 hs) ?_
    refine ea_iload_n (pc := 152) dX11_of_152 rfl 1 rfl ?_
    refine ea_iald (pc := 153) dX11_of_153 (cShC_54 hs).1 (cShC_54 hs).2.1 (ea_vpl (cShC_54 hs).2.2 z15) ?_
    exact ea_iretO (pc := 154) dX11_of_154 rfl rfl E
  have E := (if_neg q33_8).symm.trans E
  by_cases q33_9 : Int32.toInt x2 = 9
  · have E := (if_pos q33_9).symm.trans E
    obtain ⟨e12, E⟩ := gd_some E
    refine ea_tswIn (pc := 33) (tgt := 155) dX11_of_33 (by rw [q33_9]; decide) (by rw [q33_9]; decide) (by rw [q33_9]; rfl) rfl ?_
    refine ea_aload_n (pc := 155) dX11_of_155 rfl 3 rfl ?_
    obtain ⟨f13, E⟩ := gd_some E
    refine ea_deref0 e12 ?_
    refine ea_getI (pc := 156) dX11_of_156 ec_5 (k := 8) (Nat.le_of_ble_eq_true rfl) rfl (Or.inl ew_528) f13.1 f13.2 ?_
    refine ea_if_eq (pc := 159) (tgt := 166) dX11_of_159 rfl (fun c14 => ?_) (fun c14 => ?_)
    · have E := (if_pos c14).symm.trans E
      refine ea_iconst (pc := 166) dX11_of_166 (v := 0) rfl ?_
      exact ea_iretO (pc := 167) dX11_of_167 rfl rfl E
    · have E := (if_neg c14).symm.trans E
      refine ea_iconst (pc := 162) dX11_of_162 (v := 1) rfl ?_
      refine ea_goto (pc := 163) (tgt := 167) dX11_of_163 rfl ?_
      exact ea_iretO (pc := 167) dX11_of_167 rfl rfl E
  have E := (if_neg q33_9).symm.trans E
  by_cases q33_10 : Int32.toInt x2 = 10
  · have E := (if_pos q33_10).symm.trans E
    refine ea_tswIn (pc := 33) (tgt := 168) dX11_of_33 (by rw [q33_10]; decide) (by rw [q33_10]; decide) (by rw [q33_10]; rfl) rfl ?_
    refine ea_iload (pc := 168) dX11_of_168 4 rfl ?_
    refine ea_if_eq (pc := 170) (tgt := 189) dX11_of_170 rfl (fun c11 => ?_) (fun c11 => ?_)
    · have E := (if_pos c11).symm.trans E
      refine ea_iconst (pc := 189) dX11_of_189 (v := 0) rfl ?_
      exact ea_iretO (pc := 190) dX11_of_190 rfl rfl E
    · have E := (if_neg c11).symm.trans E
      obtain ⟨z9, E⟩ := gd_some E
      refine ea_aload_n (pc := 173) dX11_of_173 rfl 0 rfl ?_
      refine ea_getR (pc := 174) dX11_of_174 ec_11 (k := 7) (Nat.le_of_ble_eq_true rfl) rfl (Or.inl ew_621) (cShC_0 hs).1 (cShC_0 hs).2.1 (rShC_0_7 hs) ?_
      refine ea_getR (pc := 177) dX11_of_177 ec_1 (k := 5) (Nat.le_of_ble_eq_true rfl) rfl (Or.inl ew_452) (cShC_52 hs).1 (cShC_52 hs).2.1 (rShC_52_5 hs) ?_
      refine ea_iload_n (pc := 180) dX11_of_180 rfl 1 rfl ?_
      refine ea_zald (pc := 181) dX11_of_181 (cShC_57 hs).1 (cShC_57 hs).2.1 (ea_vpl (cShC_57 hs).2.2 z9) ?_
      refine ea_if_eq (pc := 182) (tgt := 189) dX11_of_182 rfl (fun c10 => ?_) (fun c10 => ?_)
      · have E := (if_pos c10).symm.trans E
        refine ea_iconst (pc := 189) dX11_of_189 (v := 0) rfl ?_
        exact ea_iretO (pc := 190) dX11_of_190 rfl rfl E
      · have E := (if_neg c10).symm.trans E
        refine ea_iconst (pc := 185) dX11_of_185 (v := 1) rfl ?_
        refine ea_goto (pc := 186) (tgt := 190) dX11_of_186 rfl ?_
        exact ea_iretO (pc := 190) dX11_of_190 rfl rfl E
  have E := (if_neg q33_10).symm.trans E
  by_cases q33_11 : Int32.toInt x2 = 11
  · have E := (if_pos q33_11).symm.trans E
    refine ea_tswIn (pc := 33) (tgt := 191) dX11_of_33 (by rw [q33_11]; decide) (by rw [q33_11]; decide) (by rw [q33_11]; rfl) rfl ?_
    refine ea_iload (pc := 191) dX11_of_191 4 rfl ?_
    refine ea_if_eq (pc := 193) (tgt := 208) dX11_of_193 rfl (fun c8 => ?_) (fun c8 => ?_)
    · have E := (if_pos c8).symm.trans E
      refine ea_iconst (pc := 208) dX11_of_208 (v := (-1)) rfl ?_
      exact ea_iretO (pc := 209) dX11_of_209 rfl rfl E
    · have E := (if_neg c8).symm.trans E
      obtain ⟨z7, E⟩ := gd_some E
      refine ea_aload_n (pc := 196) dX11_of_196 rfl 0 rfl ?_
      refine ea_getR (pc := 197) dX11_of_197 ec_11 (k := 7) (Nat.le_of_ble_eq_true rfl) rfl (Or.inl ew_621) (cShC_0 hs).1 (cShC_0 hs).2.1 (rShC_0_7 hs) ?_
      refine ea_getR (pc := 200) dX11_of_200 ec_1 (k := 3) (Nat.le_of_ble_eq_true rfl) rfl (Or.inl ew_448) (cShC_52 hs).1 (cShC_52 hs).2.1 (rShC_52_3 hs) ?_
      refine ea_iload_n (pc := 203) dX11_of_203 rfl 1 rfl ?_
      refine ea_iald (pc := 204) dX11_of_204 (cShC_55 hs).1 (cShC_55 hs).2.1 (ea_vpl (cShC_55 hs).2.2 z7) ?_
      refine ea_goto (pc := 205) (tgt := 209) dX11_of_205 rfl ?_
      exact ea_iretO (pc := 209) dX11_of_209 rfl rfl E
  have E := (if_neg q33_11).symm.trans E
  by_cases q33_12 : Int32.toInt x2 = 12
  · have E := (if_pos q33_12).symm.trans E
    obtain ⟨z6, E⟩ := gd_some E
    refine ea_tswIn (pc := 33) (tgt := 210) dX11_of_33 (by rw [q33_12]; decide) (by rw [q33_12]; decide) (by rw [q33_12]; rfl) rfl ?_
    refine ea_aload_n (pc := 210) dX11_of_210 rfl 0 rfl ?_
    refine ea_getR (pc := 211) dX11_of_211 ec_11 (k := 7) (Nat.le_of_ble_eq_true rfl) rfl (Or.inl ew_621) (cShC_0 hs).1 (cShC_0 hs).2.1 (rShC_0_7 hs) ?_
    refine ea_getR (pc := 214) dX11_of_214 ec_1 (k := 4) (Nat.le_of_ble_eq_true rfl) rfl (Or.inl ew_450) (cShC_52 hs).1 (cShC_52 hs).2.1 (rShC_52_4 hs) ?_
    refine ea_iload_n (pc := 217) dX11_of_217 rfl 1 rfl ?_
    refine ea_iald (pc := 218) dX11_of_218 (cShC_56 hs).1 (cShC_56 hs).2.1 (ea_vpl (cShC_56 hs).2.2 z6) ?_
    exact ea_iretO (pc := 219) dX11_of_219 rfl rfl E
  have E := (if_neg q33_12).symm.trans E
  refine ea_tswOut (pc := 33) (tgt := 220) dX11_of_33 (ea_sw_0_12 q33_0 q33_1 q33_2 q33_3 q33_4 q33_5 q33_6 q33_7 q33_8 q33_9 q33_10 q33_11 q33_12) rfl ?_
  refine ea_iconst (pc := 220) dX11_of_220 (v := (-1)) rfl ?_
  exact ea_iretO (pc := 221) dX11_of_221 rfl rfl E
theorem kBX11_of_30  {x1 : Int32} {x2 : Int32} {r3 : Option Nat} {sx0 : Int32} {h : ea_H} : kp (ea_core h) (BX11_of_30 x1 x2 r3 sx0 h) :=
  (kp_ite (kp_gd (kp_gd (kp_ret rfl))) (kp_ite (kp_gd (kp_gd (kp_ret rfl))) (kp_ite (kp_gd (kp_gd (kp_ret rfl))) (kp_ite (kp_gd (kp_gd (kp_ret rfl))) (kp_ite (kp_gd (kp_gd (kp_ret rfl))) (kp_ite (kp_gd (kp_gd (kp_ret rfl))) (kp_ite (kp_gd (kp_gd (kp_ret rfl))) (kp_ite (kp_gd (kp_ret rfl)) (kp_ite (kp_gd (kp_ret rfl)) (kp_ite (kp_gd (kp_gd (kp_ite (kp_ret rfl) (kp_ret rfl)))) (kp_ite (kp_ite (kp_ret rfl) (kp_gd (kp_ite (kp_ret rfl) (kp_ret rfl)))) (kp_ite (kp_ite (kp_ret rfl) (kp_gd (kp_ret rfl))) (kp_ite (kp_gd (kp_ret rfl)) (kp_ret rfl))))))))))))))
theorem lBX11_of_30  {x1 : Int32} {x2 : Int32} {r3 : Option Nat} {sx0 : Int32} {h : ea_H} : fle (BX11_of_30 x1 x2 r3 sx0 h) (BX11_of_30 x1 x2 r3 sx0 h) :=
  (fle_rfl _)
theorem nBX11_of_30  {x1 : Int32} {x2 : Int32} {r3 : Option Nat} {sx0 : Int32} {h : ea_H} : fct (BX11_of_30 x1 x2 r3 sx0 h) (fun f => BX11_of_30 x1 x2 r3 sx0 h) :=
  (fct_rfl _)
noncomputable def gX11_of : Nat → (Int32 → Int32 → ea_H → Option (Int32 × ea_H)) × (Int32 → Int32 → Option Nat → Int32 → ea_H → Option (Int32 × ea_H))
  | 0 => (fun _ _ _ => none, fun _ _ _ _ _ => none)
  | f + 1 => (BX11_of_0 (gX11_of f).2, BX11_of_30)
theorem mgX11_of : ∀ f : Nat, (∀ (x1 : Int32) (x2 : Int32) (h : ea_H), fle ((gX11_of f).1 x1 x2 h) ((gX11_of (f + 1)).1 x1 x2 h)) ∧ (∀ (x1 : Int32) (x2 : Int32) (r3 : Option Nat) (sx0 : Int32) (h : ea_H), fle ((gX11_of f).2 x1 x2 r3 sx0 h) ((gX11_of (f + 1)).2 x1 x2 r3 sx0 h)) := by
  intro f
  induction f with
  | zero => exact ⟨fun _ _ _ => fle_none _, fun _ _ _ _ _ => fle_none _⟩
  | succ f ih => exact ⟨fun _ _ _ => lBX11_of_0 ih.2, fun _ _ _ _ _ => lBX11_of_30⟩
noncomputable def qX11_of_0 (x1 : Int32) (x2 : Int32) (h : ea_H) : Option (Int32 × ea_H) := flim fun f => (gX11_of f).1 x1 x2 h
noncomputable def qX11_of_30 (x1 : Int32) (x2 : Int32) (r3 : Option Nat) (sx0 : Int32) (h : ea_H) : Option (Int32 × ea_H) := flim fun f => (gX11_of f).2 x1 x2 r3 sx0 h
theorem fqX11_of_0 (x1 : Int32) (x2 : Int32) (h : ea_H) : fct (qX11_of_0 x1 x2 h) fun f => (gX11_of f).1 x1 x2 h := flim_ct fun f => (mgX11_of f).1 x1 x2 h
theorem fqX11_of_30 (x1 : Int32) (x2 : Int32) (r3 : Option Nat) (sx0 : Int32) (h : ea_H) : fct (qX11_of_30 x1 x2 r3 sx0 h) fun f => (gX11_of f).2 x1 x2 r3 sx0 h := flim_ct fun f => (mgX11_of f).2 x1 x2 r3 sx0 h
/-- how a block opens -/
theorem uqX11_of_0 {x1 : Int32} {x2 : Int32} {h : ea_H} {P : Int32 × ea_H → Prop} (H : sat (BX11_of_0 qX11_of_30 x1 x2 h) P) : sat (qX11_of_0 x1 x2 h) P := by
  obtain ⟨x, e, hp⟩ := H
  obtain ⟨n, hn⟩ := nBX11_of_0 fqX11_of_30 x e
  exact ⟨x, flim_at (fun f => (mgX11_of f).1 x1 x2 h) (f := n + 1) (hn n (Nat.le_refl _)), hp⟩
/-- how a block opens -/
theorem uqX11_of_30 {x1 : Int32} {x2 : Int32} {r3 : Option Nat} {sx0 : Int32} {h : ea_H} {P : Int32 × ea_H → Prop} (H : sat (BX11_of_30 x1 x2 r3 sx0 h) P) : sat (qX11_of_30 x1 x2 r3 sx0 h) P := by
  obtain ⟨x, e, hp⟩ := H
  obtain ⟨n, hn⟩ := nBX11_of_30 x e
  exact ⟨x, flim_at (fun f => (mgX11_of f).2 x1 x2 r3 sx0 h) (f := n + 1) (hn n (Nat.le_refl _)), hp⟩
theorem kgX11_of : ∀ f : Nat, (∀ (x1 : Int32) (x2 : Int32) (h : ea_H), kp (ea_core h) ((gX11_of f).1 x1 x2 h)) ∧ (∀ (x1 : Int32) (x2 : Int32) (r3 : Option Nat) (sx0 : Int32) (h : ea_H), kp (ea_core h) ((gX11_of f).2 x1 x2 r3 sx0 h)) := by
  intro f
  induction f with
  | zero => exact ⟨fun _ _ _ => kp_none _, fun _ _ _ _ _ => kp_none _⟩
  | succ f ih => exact ⟨fun _ _ _ => kBX11_of_0 ih.2, fun _ _ _ _ _ => kBX11_of_30⟩
theorem tgX11_of {d : Nat} {h0 : ea_H} (hd : 2 ≤ d) : ∀ f : Nat, (∀ (x1 : Int32) (x2 : Int32) (h : ea_H) (r : Int32) (h' : ea_H), (gX11_of f).1 x1 x2 h = some (r, h') → ShC h → ea_W mX11_of d h0 (some (vI r)) h' 0 [(0, vR (some 0)), (1, vI x1), (2, vI x2)] [] h) ∧ (∀ (x1 : Int32) (x2 : Int32) (r3 : Option Nat) (sx0 : Int32) (h : ea_H) (r : Int32) (h' : ea_H), (gX11_of f).2 x1 x2 r3 sx0 h = some (r, h') → ShC h → ea_W mX11_of d h0 (some (vI r)) h' 30 [(0, vR (some 0)), (1, vI x1), (2, vI x2), (3, vR r3)] [vI sx0] h) := by
  intro f
  induction f with
  | zero => exact ⟨fun _ _ _ _ _ E => no_some E, fun _ _ _ _ _ _ _ E => no_some E⟩
  | succ f ih => exact ⟨fun _ _ _ _ _ E hs => tBX11_of_0 hd ih.2 E hs, fun _ _ _ _ _ _ _ E hs => tBX11_of_30 hd E hs⟩
noncomputable def qX11_of (x1 : Int32) (x2 : Int32) (h : ea_H) : Option (Int32 × ea_H) := qX11_of_0 x1 x2 h
theorem sX11_of {d : Nat} {x1 : Int32} {x2 : Int32} {h : ea_H} {r : Int32} {h' : ea_H} (hd : 2 ≤ d) (hs : ShC h) (K : qX11_of x1 x2 h = some (r, h')) : ea_Met mX11_of d [vR (some 0), vI x1, vI x2] h (some (vI r)) h' := by
  unfold qX11_of at K
  obtain ⟨n, hn⟩ := fqX11_of_0 x1 x2 h _ K
  have W := (tgX11_of (d := d) (h0 := h) hd n).1 x1 x2 h _ _ (hn n (Nat.le_refl _)) hs
  exact ea_enter rfl (Nat.le_of_ble_eq_true rfl) W
theorem kpX11_of (x1 : Int32) (x2 : Int32) (h : ea_H) : kp (ea_core h) (qX11_of x1 x2 h) := fun x e => by
  obtain ⟨n, hn⟩ := fqX11_of_0 x1 x2 h x e
  exact (kgX11_of n).1 x1 x2 h x (hn n (Nat.le_refl _))
noncomputable def BX11_charge_0 (x1 : Int32) (x2 : Int32) (h : ea_H) : Option (Int32 × ea_H) :=
  (Option.bind (qX11_letterOf (x1 : Int32) h) fun w1 => (if w1.1 = none then (some (((-1) : Int32), w1.2)) else (if Int32.toInt x2 = 0 then (gd (w1.1 = some (Option.getD w1.1 0)) (gd (((Option.getD w1.1 0) < ea_n w1.2 ∧ ea_c w1.2 (Option.getD w1.1 0) = 5)) (some ((ea_i w1.2 (Option.getD w1.1 0) 10), w1.2)))) else (if Int32.toInt x2 = 1 then (gd (w1.1 = some (Option.getD w1.1 0)) (gd (((Option.getD w1.1 0) < ea_n w1.2 ∧ ea_c w1.2 (Option.getD w1.1 0) = 5)) (some ((ea_i w1.2 (Option.getD w1.1 0) 11), w1.2)))) else (if Int32.toInt x2 = 2 then (gd (w1.1 = some (Option.getD w1.1 0)) (gd (((Option.getD w1.1 0) < ea_n w1.2 ∧ ea_c w1.2 (Option.getD w1.1 0) = 5)) (some ((ea_i w1.2 (Option.getD w1.1 0) 12), w1.2)))) else (if Int32.toInt x2 = 3 then (gd (w1.1 = some (Option.getD w1.1 0)) (gd (((Option.getD w1.1 0) < ea_n w1.2 ∧ ea_c w1.2 (Option.getD w1.1 0) = 5)) (Option.bind (qX5_owed (Option.getD w1.1 0) w1.2) fun w10 => (some (w10.1, w10.2))))) else (if Int32.toInt x2 = 4 then (gd (w1.1 = some (Option.getD w1.1 0)) (gd (((Option.getD w1.1 0) < ea_n w1.2 ∧ ea_c w1.2 (Option.getD w1.1 0) = 5)) (gd (w1.1 = some (Option.getD w1.1 0)) (gd (((Option.getD w1.1 0) < ea_n w1.2 ∧ ea_c w1.2 (Option.getD w1.1 0) = 5)) (Option.bind (qX5_owed (Option.getD w1.1 0) w1.2) fun w7 => (some (((ea_i w1.2 (Option.getD w1.1 0) 10) - w7.1), w7.2))))))) else (if Int32.toInt x2 = 5 then (gd (w1.1 = some (Option.getD w1.1 0)) (gd (((Option.getD w1.1 0) < ea_n w1.2 ∧ ea_c w1.2 (Option.getD w1.1 0) = 5)) (if (ea_i w1.2 (Option.getD w1.1 0) 13) = (0 : Int32) then (some ((0 : Int32), w1.2)) else (some ((1 : Int32), w1.2))))) else (some (((-1) : Int32), w1.2))))))))))
theorem tBX11_charge_0 {d : Nat} {h0 : ea_H} (hd : 2 ≤ d)  {x1 : Int32} {x2 : Int32} {h : ea_H} {r : Int32} {h' : ea_H} (E : BX11_charge_0 x1 x2 h = some (r, h')) (hs : ShC h) : ea_W mX11_charge d h0 (some (vI r)) h' 0 [(0, vR (some 0)), (1, vI x1), (2, vI x2)] [] h := by
  unfold BX11_charge_0 at E
  obtain ⟨w1, Ew1, E⟩ := bd_some E
  have hsw1 : ShC w1.2 := ShC_core ((kpX11_letterOf _ _) _ Ew1) hs
  refine ea_aload_n (pc := 0) dX11_charge_0 rfl 0 rfl ?_
  refine ea_iload_n (pc := 1) dX11_charge_1 rfl 1 rfl ?_
  refine ea_callV (pc := 2) (d' := d - 1) (As := [vI x1]) (st := []) dX11_charge_2 kX11_letterOf (sX11_letterOf (d := d - 1) (by omega) hs Ew1) (by omega) rfl (Nat.le_of_ble_eq_true rfl) ew_1130 ew_1132 ew_37 (ci := 11) rfl (by decide) (cShC_0 hs).1 (cShC_0 hs).2.1 ?_
  refine ea_astore_n (pc := 5) (lv' := [(2, vI x2), (3, vR w1.1)]) dX11_charge_5 rfl (Nat.le_of_ble_eq_true rfl) [3, 0] rfl ?_
  refine ea_aload_n (pc := 6) dX11_charge_6 rfl 1 rfl ?_
  refine ea_ifnonnull (pc := 7) (tgt := 12) dX11_charge_7 rfl (fun a20 c19 => ?_) (fun c19 => ?_)
  · have c19n : ¬ w1.1 = none := by rw [c19]; exact fun q => nomatch q
    have E := (if_neg c19n).symm.trans E
    refine ea_iload_n (pc := 12) dX11_charge_12 rfl 0 rfl ?_
    by_cases q13_0 : Int32.toInt x2 = 0
    · have E := (if_pos q13_0).symm.trans E
      obtain ⟨e17, E⟩ := gd_some E
      refine ea_tswIn (pc := 13) (tgt := 52) dX11_charge_13 (by rw [q13_0]; decide) (by rw [q13_0]; decide) (by rw [q13_0]; rfl) rfl ?_
      refine ea_aload_n (pc := 52) dX11_charge_52 rfl 1 rfl ?_
      obtain ⟨f18, E⟩ := gd_some E
      refine ea_deref0 e17 ?_
      refine ea_getI (pc := 53) dX11_charge_53 ec_5 (k := 10) (Nat.le_of_ble_eq_true rfl) rfl (Or.inl ew_533) f18.1 f18.2 ?_
      exact ea_iretO (pc := 56) dX11_charge_56 rfl rfl E
    have E := (if_neg q13_0).symm.trans E
    by_cases q13_1 : Int32.toInt x2 = 1
    · have E := (if_pos q13_1).symm.trans E
      obtain ⟨e15, E⟩ := gd_some E
      refine ea_tswIn (pc := 13) (tgt := 57) dX11_charge_13 (by rw [q13_1]; decide) (by rw [q13_1]; decide) (by rw [q13_1]; rfl) rfl ?_
      refine ea_aload_n (pc := 57) dX11_charge_57 rfl 1 rfl ?_
      obtain ⟨f16, E⟩ := gd_some E
      refine ea_deref0 e15 ?_
      refine ea_getI (pc := 58) dX11_charge_58 ec_5 (k := 11) (Nat.le_of_ble_eq_true rfl) rfl (Or.inl ew_536) f16.1 f16.2 ?_
      exact ea_iretO (pc := 61) dX11_charge_61 rfl rfl E
    have E := (if_neg q13_1).symm.trans E
    by_cases q13_2 : Int32.toInt x2 = 2
    · have E := (if_pos q13_2).symm.trans E
      obtain ⟨e13, E⟩ := gd_some E
      refine ea_tswIn (pc := 13) (tgt := 62) dX11_charge_13 (by rw [q13_2]; decide) (by rw [q13_2]; decide) (by rw [q13_2]; rfl) rfl ?_
      refine ea_aload_n (pc := 62) dX11_charge_62 rfl 1 rfl ?_
      obtain ⟨f14, E⟩ := gd_some E
      refine ea_deref0 e13 ?_
      refine ea_getI (pc := 63) dX11_charge_63 ec_5 (k := 12) (Nat.le_of_ble_eq_true rfl) rfl (Or.inl ew_539) f14.1 f14.2 ?_
      exact ea_iretO (pc := 66) dX11_charge_66 rfl rfl E
    have E := (if_neg q13_2).symm.trans E
    by_cases q13_3 : Int32.toInt x2 = 3
    · have E := (if_pos q13_3).symm.trans E
      obtain ⟨e11, E⟩ := gd_some E
      refine ea_tswIn (pc := 13) (tgt := 67) dX11_charge_13 (by rw [q13_3]; decide) (by rw [q13_3]; decide) (by rw [q13_3]; rfl) rfl ?_
      refine ea_aload_n (pc := 67) dX11_charge_67 rfl 1 rfl ?_
      obtain ⟨f12, E⟩ := gd_some E
      obtain ⟨w10, Ew10, E⟩ := bd_some E
      have hsw10 : ShC w10.2 := ShC_core ((kpX5_owed _ _) _ Ew10) hsw1
      refine ea_deref0 e11 ?_
      refine ea_callV (pc := 68) (d' := d - 1) (As := []) (st := []) dX11_charge_68 kX5_owed (sX5_owed (d := d - 1) (by omega) Ew10) (by omega) rfl (Nat.le_of_ble_eq_true rfl) ew_1138 ew_1139 ew_1140 (ci := 5) rfl (by decide) f12.1 f12.2 ?_
      exact ea_iretO (pc := 71) dX11_charge_71 rfl rfl E
    have E := (if_neg q13_3).symm.trans E
    by_cases q13_4 : Int32.toInt x2 = 4
    · have E := (if_pos q13_4).symm.trans E
      obtain ⟨e5, E⟩ := gd_some E
      refine ea_tswIn (pc := 13) (tgt := 72) dX11_charge_13 (by rw [q13_4]; decide) (by rw [q13_4]; decide) (by rw [q13_4]; rfl) rfl ?_
      refine ea_aload_n (pc := 72) dX11_charge_72 rfl 1 rfl ?_
      obtain ⟨f6, E⟩ := gd_some E
      obtain ⟨e8, E⟩ := gd_some E
      refine ea_deref0 e5 ?_
      refine ea_getI (pc := 73) dX11_charge_73 ec_5 (k := 10) (Nat.le_of_ble_eq_true rfl) rfl (Or.inl ew_533) f6.1 f6.2 ?_
      refine ea_aload_n (pc := 76) dX11_charge_76 rfl 1 rfl ?_
      obtain ⟨f9, E⟩ := gd_some E
      obtain ⟨w7, Ew7, E⟩ := bd_some E
      have hsw7 : ShC w7.2 := ShC_core ((kpX5_owed _ _) _ Ew7) hsw1
      refine ea_deref0 e8 ?_
      refine ea_callV (pc := 77) (d' := d - 1) (As := []) (st := [vI (ea_i w1.2 (Option.getD w1.1 0) 10)]) dX11_charge_77 kX5_owed (sX5_owed (d := d - 1) (by omega) Ew7) (by omega) rfl (Nat.le_of_ble_eq_true rfl) ew_1138 ew_1139 ew_1140 (ci := 5) rfl (by decide) f9.1 f9.2 ?_
      refine ea_isub (pc := 80) dX11_charge_80 ?_
      exact ea_iretO (pc := 81) dX11_charge_81 rfl rfl E
    have E := (if_neg q13_4).symm.trans E
    by_cases q13_5 : Int32.toInt x2 = 5
    · have E := (if_pos q13_5).symm.trans E
      obtain ⟨e2, E⟩ := gd_some E
      refine ea_tswIn (pc := 13) (tgt := 82) dX11_charge_13 (by rw [q13_5]; decide) (by rw [q13_5]; decide) (by rw [q13_5]; rfl) rfl ?_
      refine ea_aload_n (pc := 82) dX11_charge_82 rfl 1 rfl ?_
      obtain ⟨f3, E⟩ := gd_some E
      refine ea_deref0 e2 ?_
      refine ea_getI (pc := 83) dX11_charge_83 ec_5 (k := 13) (Nat.le_of_ble_eq_true rfl) rfl (Or.inl ew_541) f3.1 f3.2 ?_
      refine ea_if_eq (pc := 86) (tgt := 93) dX11_charge_86 rfl (fun c4 => ?_) (fun c4 => ?_)
      · have E := (if_pos c4).symm.trans E
        refine ea_iconst (pc := 93) dX11_charge_93 (v := 0) rfl ?_
        exact ea_iretO (pc := 94) dX11_charge_94 rfl rfl E
      · have E := (if_neg c4).symm.trans E
        refine ea_iconst (pc := 89) dX11_charge_89 (v := 1) rfl ?_
        refine ea_goto (pc := 90) (tgt := 94) dX11_charge_90 rfl ?_
        exact ea_iretO (pc := 94) dX11_charge_94 rfl rfl E
    have E := (if_neg q13_5).symm.trans E
    refine ea_tswOut (pc := 13) (tgt := 95) dX11_charge_13 (ea_sw_0_5 q13_0 q13_1 q13_2 q13_3 q13_4 q13_5) rfl ?_
    refine ea_iconst (pc := 95) dX11_charge_95 (v := (-1)) rfl ?_
    exact ea_iretO (pc := 96) dX11_charge_96 rfl rfl E
  · have E := (if_pos c19).symm.trans E
    refine ea_iconst (pc := 10) dX11_charge_10 (v := (-1)) rfl ?_
    exact ea_iretO (pc := 11) dX11_charge_11 rfl rfl E
theorem kBX11_charge_0  {x1 : Int32} {x2 : Int32} {h : ea_H} : kp (ea_core h) (BX11_charge_0 x1 x2 h) :=
  (kp_bind (kp_tw (kpX11_letterOf _ _) rfl) fun w1 hcw1 => (kp_ite (kp_ret hcw1) (kp_ite (kp_gd (kp_gd (kp_ret hcw1))) (kp_ite (kp_gd (kp_gd (kp_ret hcw1))) (kp_ite (kp_gd (kp_gd (kp_ret hcw1))) (kp_ite (kp_gd (kp_gd (kp_bind (kp_tw (kpX5_owed _ _) hcw1) fun w10 hcw10 => (kp_ret hcw10)))) (kp_ite (kp_gd (kp_gd (kp_gd (kp_gd (kp_bind (kp_tw (kpX5_owed _ _) hcw1) fun w7 hcw7 => (kp_ret hcw7)))))) (kp_ite (kp_gd (kp_gd (kp_ite (kp_ret hcw1) (kp_ret hcw1)))) (kp_ret hcw1)))))))))
noncomputable def qX11_charge (x1 : Int32) (x2 : Int32) (h : ea_H) : Option (Int32 × ea_H) := BX11_charge_0 x1 x2 h
theorem sX11_charge {d : Nat} {x1 : Int32} {x2 : Int32} {h : ea_H} {r : Int32} {h' : ea_H} (hd : 2 ≤ d) (hs : ShC h) (K : qX11_charge x1 x2 h = some (r, h')) : ea_Met mX11_charge d [vR (some 0), vI x1, vI x2] h (some (vI r)) h' := by
  unfold qX11_charge at K
  have W := tBX11_charge_0 hd (h0 := h) K hs
  exact ea_enter rfl (Nat.le_of_ble_eq_true rfl) W
theorem kpX11_charge (x1 : Int32) (x2 : Int32) (h : ea_H) : kp (ea_core h) (qX11_charge x1 x2 h) := kBX11_charge_0
noncomputable def BX11_sorter_0 (x1 : Int32) (x2 : Int32) (h : ea_H) : Option (Int32 × ea_H) :=
  (if x1 < (1 : Int32) then (some (((-1) : Int32), h)) else (if (99 : Int32) < x1 then (some (((-1) : Int32), h)) else (if x2 < (0 : Int32) then (some (((-1) : Int32), h)) else (if x2 < (4096 : Int32) then (ea_let (ea_wi h 0 15 0) fun H1 => (Option.bind (qX3_add (x1 : Int32) (x2 : Int32) H1) fun w2 => (some (w2.1, w2.2)))) else (some (((-1) : Int32), h))))))
theorem tBX11_sorter_0 {d : Nat} {h0 : ea_H} (hd : 2 ≤ d)  {x1 : Int32} {x2 : Int32} {h : ea_H} {r : Int32} {h' : ea_H} (E : BX11_sorter_0 x1 x2 h = some (r, h')) (hs : ShC h) : ea_W mX11_sorter d h0 (some (vI r)) h' 0 [(0, vR (some 0)), (1, vI x1), (2, vI x2)] [] h := by
  unfold BX11_sorter_0 at E
  refine ea_iload_n (pc := 0) dX11_sorter_0 rfl 1 rfl ?_
  refine ea_iconst (pc := 1) dX11_sorter_1 (v := 1) rfl ?_
  refine ea_icmp_lt (pc := 2) (tgt := 22) dX11_sorter_2 rfl (fun c6 => ?_) (fun c6 => ?_)
  · have E := (if_pos c6).symm.trans E
    refine ea_iconst (pc := 22) dX11_sorter_22 (v := (-1)) rfl ?_
    exact ea_iretO (pc := 23) dX11_sorter_23 rfl rfl E
  · have E := (if_neg c6).symm.trans E
    refine ea_iload_n (pc := 5) dX11_sorter_5 rfl 1 rfl ?_
    refine ea_bipush (pc := 6) dX11_sorter_6 (v := 99) rfl ?_
    refine ea_icmp_gt (pc := 8) (tgt := 22) dX11_sorter_8 rfl (fun c5 => ?_) (fun c5 => ?_)
    · have E := (if_pos c5).symm.trans E
      refine ea_iconst (pc := 22) dX11_sorter_22 (v := (-1)) rfl ?_
      exact ea_iretO (pc := 23) dX11_sorter_23 rfl rfl E
    · have E := (if_neg c5).symm.trans E
      refine ea_iload_n (pc := 11) dX11_sorter_11 rfl 2 rfl ?_
      refine ea_if_lt (pc := 12) (tgt := 22) dX11_sorter_12 rfl (fun c4 => ?_) (fun c4 => ?_)
      · have E := (if_pos c4).symm.trans E
        refine ea_iconst (pc := 22) dX11_sorter_22 (v := (-1)) rfl ?_
        exact ea_iretO (pc := 23) dX11_sorter_23 rfl rfl E
      · have E := (if_neg c4).symm.trans E
        refine ea_iload_n (pc := 15) dX11_sorter_15 rfl 2 rfl ?_
        refine ea_sipush (pc := 16) dX11_sorter_16 (v := 4096) rfl ?_
        refine ea_icmp_lt (pc := 19) (tgt := 24) dX11_sorter_19 rfl (fun c3 => ?_) (fun c3 => ?_)
        · have E := (if_pos c3).symm.trans E
          obtain ⟨H1, eH1, E⟩ := let_some E
          refine ea_aload_n (pc := 24) dX11_sorter_24 rfl 0 rfl ?_
          refine ea_iconst (pc := 25) dX11_sorter_25 (v := 0) rfl ?_
          refine ea_putI (pc := 26) dX11_sorter_26 ec_11 (k := 15) (Nat.le_of_ble_eq_true rfl) rfl (Or.inl ⟨rfl, Or.inl ew_629⟩) (ea_bn (Or.inl rfl)) (ea_bf (Or.inl rfl)) (cShC_0 hs).1 (cShC_0 hs).2.1 ?_
          refine ea_nm eH1 ?_
          have hsH1 : ShC H1 := by rw [eH1]; exact hs
          obtain ⟨w2, Ew2, E⟩ := bd_some E
          have hsw2 : ShC w2.2 := ShC_core ((kpX3_add _ _ _) _ Ew2) hsH1
          refine ea_aload_n (pc := 29) dX11_sorter_29 rfl 0 rfl ?_
          refine ea_getR (pc := 30) dX11_sorter_30 ec_11 (k := 3) (Nat.le_of_ble_eq_true rfl) rfl (Or.inl ew_617) (cShC_0 hsH1).1 (cShC_0 hsH1).2.1 (rShC_0_3 hsH1) ?_
          refine ea_iload_n (pc := 33) dX11_sorter_33 rfl 1 rfl ?_
          refine ea_iload_n (pc := 34) dX11_sorter_34 rfl 2 rfl ?_
          refine ea_callV (pc := 35) (d' := d - 1) (As := [vI x1, vI x2]) (st := []) dX11_sorter_35 kX3_add (sX3_add (d := d - 1) (by omega) hsH1 Ew2) (by omega) rfl (Nat.le_of_ble_eq_true rfl) ew_1212 ew_1213 ew_1214 (ci := 3) rfl (by decide) (cShC_18 hsH1).1 (cShC_18 hsH1).2.1 ?_
          exact ea_iretO (pc := 38) dX11_sorter_38 rfl rfl E
        · have E := (if_neg c3).symm.trans E
          refine ea_iconst (pc := 22) dX11_sorter_22 (v := (-1)) rfl ?_
          exact ea_iretO (pc := 23) dX11_sorter_23 rfl rfl E
theorem kBX11_sorter_0  {x1 : Int32} {x2 : Int32} {h : ea_H} : kp (ea_core h) (BX11_sorter_0 x1 x2 h) :=
  (kp_ite (kp_ret rfl) (kp_ite (kp_ret rfl) (kp_ite (kp_ret rfl) (kp_ite (kp_let (kp_bind (kp_tw (kpX3_add _ _ _) rfl) fun w2 hcw2 => (kp_ret hcw2))) (kp_ret rfl)))))
noncomputable def qX11_sorter (x1 : Int32) (x2 : Int32) (h : ea_H) : Option (Int32 × ea_H) := BX11_sorter_0 x1 x2 h
theorem sX11_sorter {d : Nat} {x1 : Int32} {x2 : Int32} {h : ea_H} {r : Int32} {h' : ea_H} (hd : 2 ≤ d) (hs : ShC h) (K : qX11_sorter x1 x2 h = some (r, h')) : ea_Met mX11_sorter d [vR (some 0), vI x1, vI x2] h (some (vI r)) h' := by
  unfold qX11_sorter at K
  have W := tBX11_sorter_0 hd (h0 := h) K hs
  exact ea_enter rfl (Nat.le_of_ble_eq_true rfl) W
theorem kpX11_sorter (x1 : Int32) (x2 : Int32) (h : ea_H) : kp (ea_core h) (qX11_sorter x1 x2 h) := kBX11_sorter_0
noncomputable def BX11_seat_0 (J33 : Int32 → Int32 → ea_H → Option (Int32 × ea_H)) (x1 : Int32) (x2 : Int32) (h : ea_H) : Option (Int32 × ea_H) :=
  (if x1 < (0 : Int32) then (some ((0 : Int32), h)) else (if (ea_i h 18 0) ≤ x1 then (some ((0 : Int32), h)) else (if x2 = ((-1) : Int32) then (J33 (x1 : Int32) (x2 : Int32) h) else (Option.bind (qX9_has (x2 : Int32) h) fun w1 => (if w1.1 = (0 : Int32) then (some ((0 : Int32), w1.2)) else (J33 (x1 : Int32) (x2 : Int32) w1.2))))))
theorem tBX11_seat_0 {d : Nat} {h0 : ea_H} (hd : 2 ≤ d) {J33 : Int32 → Int32 → ea_H → Option (Int32 × ea_H)}  (kJ33 : ∀ (x1 : Int32) (x2 : Int32) (h : ea_H) (r : Int32) (h' : ea_H), J33 x1 x2 h = some (r, h') → ShC h → ea_W mX11_seat d h0 (some (vI r)) h' 33 [(0, vR (some 0)), (1, vI x1), (2, vI x2)] [] h) {x1 : Int32} {x2 : Int32} {h : ea_H} {r : Int32} {h' : ea_H} (E : BX11_seat_0 J33 x1 x2 h = some (r, h')) (hs : ShC h) : ea_W mX11_seat d h0 (some (vI r)) h' 0 [(0, vR (some 0)), (1, vI x1), (2, vI x2)] [] h := by
  unfold BX11_seat_0 at E
  refine ea_iload_n (pc := 0) dX11_seat_0 rfl 1 rfl ?_
  refine ea_if_lt (pc := 1) (tgt := 31) dX11_seat_1 rfl (fun c5 => ?_) (fun c5 => ?_)
  · have E := (if_pos c5).symm.trans E
    refine ea_iconst (pc := 31) dX11_seat_31 (v := 0) rfl ?_
    exact ea_iretO (pc := 32) dX11_seat_32 rfl (ea_bn (Or.inl rfl)) E
  · have E := (if_neg c5).symm.trans E
    refine ea_iload_n (pc := 4) dX11_seat_4 rfl 1 rfl ?_
    refine ea_aload_n (pc := 5) dX11_seat_5 rfl 0 rfl ?_
    refine ea_getR (pc := 6) dX11_seat_6 ec_11 (k := 3) (Nat.le_of_ble_eq_true rfl) rfl (Or.inl ew_617) (cShC_0 hs).1 (cShC_0 hs).2.1 (rShC_0_3 hs) ?_
    refine ea_getI (pc := 9) dX11_seat_9 ec_3 (k := 0) (Nat.le_of_ble_eq_true rfl) rfl (Or.inl ew_265) (cShC_18 hs).1 (cShC_18 hs).2.1 ?_
    refine ea_icmp_ge (pc := 12) (tgt := 31) dX11_seat_12 rfl (fun c4 => ?_) (fun c4 => ?_)
    · have E := (if_pos c4).symm.trans E
      refine ea_iconst (pc := 31) dX11_seat_31 (v := 0) rfl ?_
      exact ea_iretO (pc := 32) dX11_seat_32 rfl (ea_bn (Or.inl rfl)) E
    · have E := (if_neg c4).symm.trans E
      refine ea_iload_n (pc := 15) dX11_seat_15 rfl 2 rfl ?_
      refine ea_iconst (pc := 16) dX11_seat_16 (v := (-1)) rfl ?_
      refine ea_icmp_eq (pc := 17) (tgt := 33) dX11_seat_17 rfl (fun c3 => ?_) (fun c3 => ?_)
      · have E := (if_pos c3).symm.trans E
        exact (kJ33 (x1 : Int32) (x2 : Int32) h _ _ E hs)
      · have E := (if_neg c3).symm.trans E
        obtain ⟨w1, Ew1, E⟩ := bd_some E
        have hsw1 : ShC w1.2 := ShC_core ((kpX9_has _ _) _ Ew1) hs
        refine ea_aload_n (pc := 20) dX11_seat_20 rfl 0 rfl ?_
        refine ea_getR (pc := 21) dX11_seat_21 ec_11 (k := 1) (Nat.le_of_ble_eq_true rfl) rfl (Or.inl ew_615) (cShC_0 hs).1 (cShC_0 hs).2.1 (rShC_0_1 hs) ?_
        refine ea_iload_n (pc := 24) dX11_seat_24 rfl 2 rfl ?_
        refine ea_callV (pc := 25) (d' := d - 1) (As := [vI x2]) (st := []) dX11_seat_25 kX9_has (sX9_has (d := d - 1) (by omega) hs Ew1) (by omega) rfl (Nat.le_of_ble_eq_true rfl) ew_704 ew_705 ew_706 (ci := 9) rfl (by decide) (cShC_5 hs).1 (cShC_5 hs).2.1 ?_
        refine ea_if_ne (pc := 28) (tgt := 33) dX11_seat_28 rfl (fun c2 => ?_) (fun c2 => ?_)
        · have E := (if_neg c2).symm.trans E
          exact (kJ33 (x1 : Int32) (x2 : Int32) w1.2 _ _ E hsw1)
        · have E := (if_pos c2).symm.trans E
          refine ea_iconst (pc := 31) dX11_seat_31 (v := 0) rfl ?_
          exact ea_iretO (pc := 32) dX11_seat_32 rfl (ea_bn (Or.inl rfl)) E
theorem kBX11_seat_0 {J33 : Int32 → Int32 → ea_H → Option (Int32 × ea_H)}  (cJ33 : ∀ (x1 : Int32) (x2 : Int32) (h : ea_H), kp (ea_core h) (J33 x1 x2 h)) {x1 : Int32} {x2 : Int32} {h : ea_H} : kp (ea_core h) (BX11_seat_0 J33 x1 x2 h) :=
  (kp_ite (kp_ret rfl) (kp_ite (kp_ret rfl) (kp_ite (kp_tw (cJ33 _ _ _) rfl) (kp_bind (kp_tw (kpX9_has _ _) rfl) fun w1 hcw1 => (kp_ite (kp_ret hcw1) (kp_tw (cJ33 _ _ _) hcw1))))))
theorem lBX11_seat_0 {J33 : Int32 → Int32 → ea_H → Option (Int32 × ea_H)} {J33_ : Int32 → Int32 → ea_H → Option (Int32 × ea_H)}  (mJ33 : ∀ (x1 : Int32) (x2 : Int32) (h : ea_H), fle (J33 x1 x2 h) (J33_ x1 x2 h)) {x1 : Int32} {x2 : Int32} {h : ea_H} : fle (BX11_seat_0 J33 x1 x2 h) (BX11_seat_0 J33_ x1 x2 h) :=
  (fle_ite (fle_rfl _) (fle_ite (fle_rfl _) (fle_ite (mJ33 _ _ _) (fle_bind (fle_rfl _) fun _ => (fle_ite (fle_rfl _) (mJ33 _ _ _))))))
theorem nBX11_seat_0 {J33 : Int32 → Int32 → ea_H → Option (Int32 × ea_H)} {J33_ : Nat → (Int32 → Int32 → ea_H → Option (Int32 × ea_H))}  (mJ33 : ∀ (x1 : Int32) (x2 : Int32) (h : ea_H), fct (J33 x1 x2 h) (fun f => J33_ f x1 x2 h)) {x1 : Int32} {x2 : Int32} {h : ea_H} : fct (BX11_seat_0 J33 x1 x2 h) (fun f => BX11_seat_0 (J33_ f) x1 x2 h) :=
  (fct_ite (fct_rfl _) (fct_ite (fct_rfl _) (fct_ite (mJ33 _ _ _) (fct_bind (fct_rfl _) fun _ => (fct_ite (fct_rfl _) (mJ33 _ _ _))))))
noncomputable def BX11_seat_33 (x1 : Int32) (x2 : Int32) (h : ea_H) : Option (Int32 × ea_H) :=
  (gd (vp_in x1 8) (ea_let (ea_wi h 19 (Int32.toNatClampNeg x1) x2) fun H7 => (ea_let (ea_wi H7 0 15 0) fun H8 => (some ((1 : Int32), H8)))))
theorem tBX11_seat_33 {d : Nat} {h0 : ea_H} (hd : 2 ≤ d)  {x1 : Int32} {x2 : Int32} {h : ea_H} {r : Int32} {h' : ea_H} (E : BX11_seat_33 x1 x2 h = some (r, h')) (hs : ShC h) : ea_W mX11_seat d h0 (some (vI r)) h' 33 [(0, vR (some 0)), (1, vI x1), (2, vI x2)] [] h := by
  unfold BX11_seat_33 at E
  obtain ⟨z6, E⟩ := gd_some E
  refine ea_aload_n (pc := 33) dX11_seat_33 rfl 0 rfl ?_
  refine ea_getR (pc := 34) dX11_seat_34 ec_11 (k := 3) (Nat.le_of_ble_eq_true rfl) rfl (Or.inl ew_617) (cShC_0 hs).1 (cShC_0 hs).2.1 (rShC_0_3 hs) ?_
  refine ea_getR (pc := 37) dX11_seat_37 ec_3 (k := 1) (Nat.le_of_ble_eq_true rfl) rfl (Or.inl ew_267) (cShC_18 hs).1 (cShC_18 hs).2.1 (rShC_18_1 hs) ?_
  refine ea_iload_n (pc := 40) dX11_seat_40 rfl 1 rfl ?_
  refine ea_iload_n (pc := 41) dX11_seat_41 rfl 2 rfl ?_
  obtain ⟨H7, eH7, E⟩ := let_some E
  refine ea_iast (pc := 42) dX11_seat_42 (cShC_19 hs).1 (cShC_19 hs).2.1 (ea_vpl (cShC_19 hs).2.2 z6) ?_
  refine ea_nm eH7 ?_
  have hsH7 : ShC H7 := by rw [eH7]; exact hs
  obtain ⟨H8, eH8, E⟩ := let_some E
  refine ea_aload_n (pc := 43) dX11_seat_43 rfl 0 rfl ?_
  refine ea_iconst (pc := 44) dX11_seat_44 (v := 0) rfl ?_
  refine ea_putI (pc := 45) dX11_seat_45 ec_11 (k := 15) (Nat.le_of_ble_eq_true rfl) rfl (Or.inl ⟨rfl, Or.inl ew_629⟩) (ea_bn (Or.inl rfl)) (ea_bf (Or.inl rfl)) (cShC_0 hsH7).1 (cShC_0 hsH7).2.1 ?_
  refine ea_nm eH8 ?_
  have hsH8 : ShC H8 := by rw [eH8]; exact hsH7
  refine ea_iconst (pc := 48) dX11_seat_48 (v := 1) rfl ?_
  exact ea_iretO (pc := 49) dX11_seat_49 rfl (ea_bn (Or.inr rfl)) E
theorem kBX11_seat_33  {x1 : Int32} {x2 : Int32} {h : ea_H} : kp (ea_core h) (BX11_seat_33 x1 x2 h) :=
  (kp_gd (kp_let (kp_let (kp_ret rfl))))
theorem lBX11_seat_33  {x1 : Int32} {x2 : Int32} {h : ea_H} : fle (BX11_seat_33 x1 x2 h) (BX11_seat_33 x1 x2 h) :=
  (fle_rfl _)
theorem nBX11_seat_33  {x1 : Int32} {x2 : Int32} {h : ea_H} : fct (BX11_seat_33 x1 x2 h) (fun f => BX11_seat_33 x1 x2 h) :=
  (fct_rfl _)
noncomputable def gX11_seat : Nat → (Int32 → Int32 → ea_H → Option (Int32 × ea_H)) × (Int32 → Int32 → ea_H → Option (Int32 × ea_H))
  | 0 => (fun _ _ _ => none, fun _ _ _ => none)
  | f + 1 => (BX11_seat_0 (gX11_seat f).2, BX11_seat_33)
theorem mgX11_seat : ∀ f : Nat, (∀ (x1 : Int32) (x2 : Int32) (h : ea_H), fle ((gX11_seat f).1 x1 x2 h) ((gX11_seat (f + 1)).1 x1 x2 h)) ∧ (∀ (x1 : Int32) (x2 : Int32) (h : ea_H), fle ((gX11_seat f).2 x1 x2 h) ((gX11_seat (f + 1)).2 x1 x2 h)) := by
  intro f
  induction f with
  | zero => exact ⟨fun _ _ _ => fle_none _, fun _ _ _ => fle_none _⟩
  | succ f ih => exact ⟨fun _ _ _ => lBX11_seat_0 ih.2, fun _ _ _ => lBX11_seat_33⟩
noncomputable def qX11_seat_0 (x1 : Int32) (x2 : Int32) (h : ea_H) : Option (Int32 × ea_H) := flim fun f => (gX11_seat f).1 x1 x2 h
noncomputable def qX11_seat_33 (x1 : Int32) (x2 : Int32) (h : ea_H) : Option (Int32 × ea_H) := flim fun f => (gX11_seat f).2 x1 x2 h
theorem fqX11_seat_0 (x1 : Int32) (x2 : Int32) (h : ea_H) : fct (qX11_seat_0 x1 x2 h) fun f => (gX11_seat f).1 x1 x2 h := flim_ct fun f => (mgX11_seat f).1 x1 x2 h
theorem fqX11_seat_33 (x1 : Int32) (x2 : Int32) (h : ea_H) : fct (qX11_seat_33 x1 x2 h) fun f => (gX11_seat f).2 x1 x2 h := flim_ct fun f => (mgX11_seat f).2 x1 x2 h
/-- how a block opens -/
theorem uqX11_seat_0 {x1 : Int32} {x2 : Int32} {h : ea_H} {P : Int32 × ea_H → Prop} (H : sat (BX11_seat_0 qX11_seat_33 x1 x2 h) P) : sat (qX11_seat_0 x1 x2 h) P := by
  obtain ⟨x, e, hp⟩ := H
  obtain ⟨n, hn⟩ := nBX11_seat_0 fqX11_seat_33 x e
  exact ⟨x, flim_at (fun f => (mgX11_seat f).1 x1 x2 h) (f := n + 1) (hn n (Nat.le_refl _)), hp⟩
/-- how a block opens -/
theorem uqX11_seat_33 {x1 : Int32} {x2 : Int32} {h : ea_H} {P : Int32 × ea_H → Prop} (H : sat (BX11_seat_33 x1 x2 h) P) : sat (qX11_seat_33 x1 x2 h) P := by
  obtain ⟨x, e, hp⟩ := H
  obtain ⟨n, hn⟩ := nBX11_seat_33 x e
  exact ⟨x, flim_at (fun f => (mgX11_seat f).2 x1 x2 h) (f := n + 1) (hn n (Nat.le_refl _)), hp⟩
theorem kgX11_seat : ∀ f : Nat, (∀ (x1 : Int32) (x2 : Int32) (h : ea_H), kp (ea_core h) ((gX11_seat f).1 x1 x2 h)) ∧ (∀ (x1 : Int32) (x2 : Int32) (h : ea_H), kp (ea_core h) ((gX11_seat f).2 x1 x2 h)) := by
  intro f
  induction f with
  | zero => exact ⟨fun _ _ _ => kp_none _, fun _ _ _ => kp_none _⟩
  | succ f ih => exact ⟨fun _ _ _ => kBX11_seat_0 ih.2, fun _ _ _ => kBX11_seat_33⟩
theorem tgX11_seat {d : Nat} {h0 : ea_H} (hd : 2 ≤ d) : ∀ f : Nat, (∀ (x1 : Int32) (x2 : Int32) (h : ea_H) (r : Int32) (h' : ea_H), (gX11_seat f).1 x1 x2 h = some (r, h') → ShC h → ea_W mX11_seat d h0 (some (vI r)) h' 0 [(0, vR (some 0)), (1, vI x1), (2, vI x2)] [] h) ∧ (∀ (x1 : Int32) (x2 : Int32) (h : ea_H) (r : Int32) (h' : ea_H), (gX11_seat f).2 x1 x2 h = some (r, h') → ShC h → ea_W mX11_seat d h0 (some (vI r)) h' 33 [(0, vR (some 0)), (1, vI x1), (2, vI x2)] [] h) := by
  intro f
  induction f with
  | zero => exact ⟨fun _ _ _ _ _ E => no_some E, fun _ _ _ _ _ E => no_some E⟩
  | succ f ih => exact ⟨fun _ _ _ _ _ E hs => tBX11_seat_0 hd ih.2 E hs, fun _ _ _ _ _ E hs => tBX11_seat_33 hd E hs⟩
noncomputable def qX11_seat (x1 : Int32) (x2 : Int32) (h : ea_H) : Option (Int32 × ea_H) := qX11_seat_0 x1 x2 h
theorem sX11_seat {d : Nat} {x1 : Int32} {x2 : Int32} {h : ea_H} {r : Int32} {h' : ea_H} (hd : 2 ≤ d) (hs : ShC h) (K : qX11_seat x1 x2 h = some (r, h')) : ea_Met mX11_seat d [vR (some 0), vI x1, vI x2] h (some (vI r)) h' := by
  unfold qX11_seat at K
  obtain ⟨n, hn⟩ := fqX11_seat_0 x1 x2 h _ K
  have W := (tgX11_seat (d := d) (h0 := h) hd n).1 x1 x2 h _ _ (hn n (Nat.le_refl _)) hs
  exact ea_enter rfl (Nat.le_of_ble_eq_true rfl) W
theorem kpX11_seat (x1 : Int32) (x2 : Int32) (h : ea_H) : kp (ea_core h) (qX11_seat x1 x2 h) := fun x e => by
  obtain ⟨n, hn⟩ := fqX11_seat_0 x1 x2 h x e
  exact (kgX11_seat n).1 x1 x2 h x (hn n (Nat.le_refl _))
noncomputable def BX11_run_0 (x1 : Int32) (x2 : Int32) (x3 : Int32) (h : ea_H) : Option (Int32 × ea_H) :=
  (Option.bind (qX9_hasRun (x1 : Int32) (x2 : Int32) h) fun w1 => (if w1.1 = (0 : Int32) then (some (((-1) : Int32), w1.2)) else (ea_let (((10 : Int32) * x2) + x1) fun (v2 : Int32) => (if Int32.toInt x3 = 0 then (Option.bind (qX1_aboardOf_at52 (v2 : Int32) (0 : Int32) w1.2) fun w7 => (some (w7.1, w7.2))) else (if Int32.toInt x3 = 1 then (Option.bind (qX1_aboardOf_at52 (v2 : Int32) (1 : Int32) w1.2) fun w6 => (some (w6.1, w6.2))) else (if Int32.toInt x3 = 2 then (Option.bind (qX9_goneFrom (x1 : Int32) (x2 : Int32) ((ea_i w1.2 0 14) : Int32) w1.2) fun w5 => (some (w5.1, w5.2))) else (if Int32.toInt x3 = 3 then (gd (vp_in v2 70) (some ((ea_i w1.2 58 (Int32.toNatClampNeg v2)), w1.2))) else (if Int32.toInt x3 = 4 then (gd (vp_in v2 70) (some ((ea_i w1.2 11 (Int32.toNatClampNeg v2)), w1.2))) else (some (((-1) : Int32), w1.2))))))))))
theorem tBX11_run_0 {d : Nat} {h0 : ea_H} (hd : 3 ≤ d)  {x1 : Int32} {x2 : Int32} {x3 : Int32} {h : ea_H} {r : Int32} {h' : ea_H} (E : BX11_run_0 x1 x2 x3 h = some (r, h')) (hs : ShC h) : ea_W mX11_run d h0 (some (vI r)) h' 0 [(0, vR (some 0)), (1, vI x1), (2, vI x2), (3, vI x3)] [] h := by
  unfold BX11_run_0 at E
  obtain ⟨w1, Ew1, E⟩ := bd_some E
  have hsw1 : ShC w1.2 := ShC_core ((kpX9_hasRun _ _ _) _ Ew1) hs
  refine ea_aload_n (pc := 0) dX11_run_0 rfl 0 rfl ?_
  refine ea_getR (pc := 1) dX11_run_1 ec_11 (k := 1) (Nat.le_of_ble_eq_true rfl) rfl (Or.inl ew_615) (cShC_0 hs).1 (cShC_0 hs).2.1 (rShC_0_1 hs) ?_
  refine ea_iload_n (pc := 4) dX11_run_4 rfl 1 rfl ?_
  refine ea_iload_n (pc := 5) dX11_run_5 rfl 2 rfl ?_
  refine ea_callV (pc := 6) (d' := d - 1) (As := [vI x1, vI x2]) (st := []) dX11_run_6 kX9_hasRun (sX9_hasRun (d := d - 1) (by omega) hs Ew1) (by omega) rfl (Nat.le_of_ble_eq_true rfl) ew_728 ew_729 ew_730 (ci := 9) rfl (by decide) (cShC_5 hs).1 (cShC_5 hs).2.1 ?_
  refine ea_if_ne (pc := 9) (tgt := 14) dX11_run_9 rfl (fun c8 => ?_) (fun c8 => ?_)
  · have E := (if_neg c8).symm.trans E
    obtain ⟨v2, ev2, E⟩ := let_some E
    refine ea_bipush (pc := 14) dX11_run_14 (v := 10) rfl ?_
    refine ea_iload_n (pc := 16) dX11_run_16 rfl 2 rfl ?_
    refine ea_imul (pc := 17) dX11_run_17 ?_
    refine ea_iload_n (pc := 18) dX11_run_18 rfl 1 rfl ?_
    refine ea_iadd (pc := 19) dX11_run_19 ?_
    refine ea_istore (pc := 20) (lv' := [(0, vR (some 0)), (1, vI x1), (2, vI x2), (3, vI x3), (4, vI v2)]) dX11_run_20 (Nat.le_of_ble_eq_true rfl) [1, 2, 3, 4, 0] (by rw [ev2]; rfl) ?_
    refine ea_iload_n (pc := 22) dX11_run_22 rfl 3 rfl ?_
    by_cases q23_0 : Int32.toInt x3 = 0
    · have E := (if_pos q23_0).symm.trans E
      obtain ⟨w7, Ew7, E⟩ := bd_some E
      have hsw7 : ShC w7.2 := ShC_core ((kpX1_aboardOf_at52 _ _ _) _ Ew7) hsw1
      refine ea_tswIn (pc := 23) (tgt := 56) dX11_run_23 (by rw [q23_0]; decide) (by rw [q23_0]; decide) (by rw [q23_0]; rfl) rfl ?_
      refine ea_aload_n (pc := 56) dX11_run_56 rfl 0 rfl ?_
      refine ea_getR (pc := 57) dX11_run_57 ec_11 (k := 7) (Nat.le_of_ble_eq_true rfl) rfl (Or.inl ew_621) (cShC_0 hsw1).1 (cShC_0 hsw1).2.1 (rShC_0_7 hsw1) ?_
      refine ea_iload (pc := 60) dX11_run_60 4 rfl ?_
      refine ea_iconst (pc := 62) dX11_run_62 (v := 0) rfl ?_
      refine ea_callV (pc := 63) (d' := d - 1) (As := [vI v2, vI 0]) (st := []) dX11_run_63 kX1_aboardOf (sX1_aboardOf_at52 (d := d - 1) (by omega) hsw1 Ew7) (by omega) rfl (Nat.le_of_ble_eq_true rfl) ew_1224 ew_1225 ew_1226 (ci := 1) rfl (by decide) (cShC_52 hsw1).1 (cShC_52 hsw1).2.1 ?_
      exact ea_iretO (pc := 66) dX11_run_66 rfl rfl E
    have E := (if_neg q23_0).symm.trans E
    by_cases q23_1 : Int32.toInt x3 = 1
    · have E := (if_pos q23_1).symm.trans E
      obtain ⟨w6, Ew6, E⟩ := bd_some E
      have hsw6 : ShC w6.2 := ShC_core ((kpX1_aboardOf_at52 _ _ _) _ Ew6) hsw1
      refine ea_tswIn (pc := 23) (tgt := 67) dX11_run_23 (by rw [q23_1]; decide) (by rw [q23_1]; decide) (by rw [q23_1]; rfl) rfl ?_
      refine ea_aload_n (pc := 67) dX11_run_67 rfl 0 rfl ?_
      refine ea_getR (pc := 68) dX11_run_68 ec_11 (k := 7) (Nat.le_of_ble_eq_true rfl) rfl (Or.inl ew_621) (cShC_0 hsw1).1 (cShC_0 hsw1).2.1 (rShC_0_7 hsw1) ?_
      refine ea_iload (pc := 71) dX11_run_71 4 rfl ?_
      refine ea_iconst (pc := 73) dX11_run_73 (v := 1) rfl ?_
      refine ea_callV (pc := 74) (d' := d - 1) (As := [vI v2, vI 1]) (st := []) dX11_run_74 kX1_aboardOf (sX1_aboardOf_at52 (d := d - 1) (by omega) hsw1 Ew6) (by omega) rfl (Nat.le_of_ble_eq_true rfl) ew_1224 ew_1225 ew_1226 (ci := 1) rfl (by decide) (cShC_52 hsw1).1 (cShC_52 hsw1).2.1 ?_
      exact ea_iretO (pc := 77) dX11_run_77 rfl rfl E
    have E := (if_neg q23_1).symm.trans E
    by_cases q23_2 : Int32.toInt x3 = 2
    · have E := (if_pos q23_2).symm.trans E
      obtain ⟨w5, Ew5, E⟩ := bd_some E
      have hsw5 : ShC w5.2 := ShC_core ((kpX9_goneFrom _ _ _ _) _ Ew5) hsw1
      refine ea_tswIn (pc := 23) (tgt := 78) dX11_run_23 (by rw [q23_2]; decide) (by rw [q23_2]; decide) (by rw [q23_2]; rfl) rfl ?_
      refine ea_aload_n (pc := 78) dX11_run_78 rfl 0 rfl ?_
      refine ea_getR (pc := 79) dX11_run_79 ec_11 (k := 1) (Nat.le_of_ble_eq_true rfl) rfl (Or.inl ew_615) (cShC_0 hsw1).1 (cShC_0 hsw1).2.1 (rShC_0_1 hsw1) ?_
      refine ea_iload_n (pc := 82) dX11_run_82 rfl 1 rfl ?_
      refine ea_iload_n (pc := 83) dX11_run_83 rfl 2 rfl ?_
      refine ea_aload_n (pc := 84) dX11_run_84 rfl 0 rfl ?_
      refine ea_getI (pc := 85) dX11_run_85 ec_11 (k := 14) (Nat.le_of_ble_eq_true rfl) rfl (Or.inl ew_628) (cShC_0 hsw1).1 (cShC_0 hsw1).2.1 ?_
      refine ea_callV (pc := 88) (d' := d - 1) (As := [vI x1, vI x2, vI (ea_i w1.2 0 14)]) (st := []) dX11_run_88 kX9_goneFrom (sX9_goneFrom (d := d - 1) (by omega) hsw1 Ew5) (by omega) rfl (Nat.le_of_ble_eq_true rfl) ew_1228 ew_1229 ew_1230 (ci := 9) rfl (by decide) (cShC_5 hsw1).1 (cShC_5 hsw1).2.1 ?_
      exact ea_iretO (pc := 91) dX11_run_91 rfl rfl E
    have E := (if_neg q23_2).symm.trans E
    by_cases q23_3 : Int32.toInt x3 = 3
    · have E := (if_pos q23_3).symm.trans E
      obtain ⟨z4, E⟩ := gd_some E
      refine ea_tswIn (pc := 23) (tgt := 92) dX11_run_23 (by rw [q23_3]; decide) (by rw [q23_3]; decide) (by rw [q23_3]; rfl) rfl ?_
      refine ea_aload_n (pc := 92) dX11_run_92 rfl 0 rfl ?_
      refine ea_getR (pc := 93) dX11_run_93 ec_11 (k := 7) (Nat.le_of_ble_eq_true rfl) rfl (Or.inl ew_621) (cShC_0 hsw1).1 (cShC_0 hsw1).2.1 (rShC_0_7 hsw1) ?_
      refine ea_getR (pc := 96) dX11_run_96 ec_1 (k := 6) (Nat.le_of_ble_eq_true rfl) rfl (Or.inl ew_454) (cShC_52 hsw1).1 (cShC_52 hsw1).2.1 (rShC_52_6 hsw1) ?_
      refine ea_iload (pc := 99) dX11_run_99 4 rfl ?_
      refine ea_iald (pc := 101) dX11_run_101 (cShC_58 hsw1).1 (cShC_58 hsw1).2.1 (ea_vpl (cShC_58 hsw1).2.2 z4) ?_
      exact ea_iretO (pc := 102) dX11_run_102 rfl rfl E
    have E := (if_neg q23_3).symm.trans E
    by_cases q23_4 : Int32.toInt x3 = 4
    · have E := (if_pos q23_4).symm.trans E
      obtain ⟨z3, E⟩ := gd_some E
      refine ea_tswIn (pc := 23) (tgt := 103) dX11_run_23 (by rw [q23_4]; decide) (by rw [q23_4]; decide) (by rw [q23_4]; rfl) rfl ?_
      refine ea_aload_n (pc := 103) dX11_run_103 rfl 0 rfl ?_
      refine ea_getR (pc := 104) dX11_run_104 ec_11 (k := 1) (Nat.le_of_ble_eq_true rfl) rfl (Or.inl ew_615) (cShC_0 hsw1).1 (cShC_0 hsw1).2.1 (rShC_0_1 hsw1) ?_
      refine ea_getR (pc := 107) dX11_run_107 ec_9 (k := 6) (Nat.le_of_ble_eq_true rfl) rfl (Or.inl ew_205) (cShC_5 hsw1).1 (cShC_5 hsw1).2.1 (rShC_5_6 hsw1) ?_
      refine ea_iload (pc := 110) dX11_run_110 4 rfl ?_
      refine ea_iald (pc := 112) dX11_run_112 (cShC_11 hsw1).1 (cShC_11 hsw1).2.1 (ea_vpl (cShC_11 hsw1).2.2 z3) ?_
      exact ea_iretO (pc := 113) dX11_run_113 rfl rfl E
    have E := (if_neg q23_4).symm.trans E
    refine ea_tswOut (pc := 23) (tgt := 114) dX11_run_23 (ea_sw_0_4 q23_0 q23_1 q23_2 q23_3 q23_4) rfl ?_
    refine ea_iconst (pc := 114) dX11_run_114 (v := (-1)) rfl ?_
    exact ea_iretO (pc := 115) dX11_run_115 rfl rfl E
  · have E := (if_pos c8).symm.trans E
    refine ea_iconst (pc := 12) dX11_run_12 (v := (-1)) rfl ?_
    exact ea_iretO (pc := 13) dX11_run_13 rfl rfl E
theorem kBX11_run_0  {x1 : Int32} {x2 : Int32} {x3 : Int32} {h : ea_H} : kp (ea_core h) (BX11_run_0 x1 x2 x3 h) :=
  (kp_bind (kp_tw (kpX9_hasRun _ _ _) rfl) fun w1 hcw1 => (kp_ite (kp_ret hcw1) (kp_let (kp_ite (kp_bind (kp_tw (kpX1_aboardOf_at52 _ _ _) hcw1) fun w7 hcw7 => (kp_ret hcw7)) (kp_ite (kp_bind (kp_tw (kpX1_aboardOf_at52 _ _ _) hcw1) fun w6 hcw6 => (kp_ret hcw6)) (kp_ite (kp_bind (kp_tw (kpX9_goneFrom _ _ _ _) hcw1) fun w5 hcw5 => (kp_ret hcw5)) (kp_ite (kp_gd (kp_ret hcw1)) (kp_ite (kp_gd (kp_ret hcw1)) (kp_ret hcw1)))))))))
noncomputable def qX11_run (x1 : Int32) (x2 : Int32) (x3 : Int32) (h : ea_H) : Option (Int32 × ea_H) := BX11_run_0 x1 x2 x3 h
theorem sX11_run {d : Nat} {x1 : Int32} {x2 : Int32} {x3 : Int32} {h : ea_H} {r : Int32} {h' : ea_H} (hd : 3 ≤ d) (hs : ShC h) (K : qX11_run x1 x2 x3 h = some (r, h')) : ea_Met mX11_run d [vR (some 0), vI x1, vI x2, vI x3] h (some (vI r)) h' := by
  unfold qX11_run at K
  have W := tBX11_run_0 hd (h0 := h) K hs
  exact ea_enter rfl (Nat.le_of_ble_eq_true rfl) W
theorem kpX11_run (x1 : Int32) (x2 : Int32) (x3 : Int32) (h : ea_H) : kp (ea_core h) (qX11_run x1 x2 x3 h) := kBX11_run_0
noncomputable def BX11_nobody_0 (x1 : Int32) (h : ea_H) : Option (Int32 × ea_H) :=
  (Option.bind (qX11_letterOf (x1 : Int32) h) fun w1 => (if w1.1 = none then (some ((0 : Int32), w1.2)) else (gd (w1.1 = some (Option.getD w1.1 0)) (gd (((Option.getD w1.1 0) < ea_n w1.2 ∧ ea_c w1.2 (Option.getD w1.1 0) = 5)) (if (ea_i w1.2 (Option.getD w1.1 0) 15) = (0 : Int32) then (gd (vp_in x1 120) (if (ea_i w1.2 53 (Int32.toNatClampNeg x1)) ≤ (1 : Int32) then (gd (w1.1 = some (Option.getD w1.1 0)) (gd (((Option.getD w1.1 0) < ea_n w1.2 ∧ ea_c w1.2 (Option.getD w1.1 0) = 5)) (ea_let (ea_wi w1.2 (Option.getD w1.1 0) 15 1) fun H7 => (ea_let (ea_wi H7 0 15 0) fun H8 => (some ((1 : Int32), H8)))))) else (some ((0 : Int32), w1.2)))) else (some ((0 : Int32), w1.2)))))))
theorem tBX11_nobody_0 {d : Nat} {h0 : ea_H} (hd : 2 ≤ d)  {x1 : Int32} {h : ea_H} {r : Int32} {h' : ea_H} (E : BX11_nobody_0 x1 h = some (r, h')) (hs : ShC h) : ea_W mX11_nobody d h0 (some (vI r)) h' 0 [(0, vR (some 0)), (1, vI x1)] [] h := by
  unfold BX11_nobody_0 at E
  obtain ⟨w1, Ew1, E⟩ := bd_some E
  have hsw1 : ShC w1.2 := ShC_core ((kpX11_letterOf _ _) _ Ew1) hs
  refine ea_aload_n (pc := 0) dX11_nobody_0 rfl 0 rfl ?_
  refine ea_iload_n (pc := 1) dX11_nobody_1 rfl 1 rfl ?_
  refine ea_callV (pc := 2) (d' := d - 1) (As := [vI x1]) (st := []) dX11_nobody_2 kX11_letterOf (sX11_letterOf (d := d - 1) (by omega) hs Ew1) (by omega) rfl (Nat.le_of_ble_eq_true rfl) ew_1130 ew_1132 ew_37 (ci := 11) rfl (by decide) (cShC_0 hs).1 (cShC_0 hs).2.1 ?_
  refine ea_astore_n (pc := 5) (lv' := [(0, vR (some 0)), (1, vI x1), (2, vR w1.1)]) dX11_nobody_5 rfl (Nat.le_of_ble_eq_true rfl) [1, 2, 0] rfl ?_
  refine ea_aload_n (pc := 6) dX11_nobody_6 rfl 2 rfl ?_
  refine ea_ifnull (pc := 7) (tgt := 30) dX11_nobody_7 rfl (fun c11 => ?_) (fun a12 c11 => ?_)
  · have E := (if_pos c11).symm.trans E
    refine ea_iconst (pc := 30) dX11_nobody_30 (v := 0) rfl ?_
    exact ea_iretO (pc := 31) dX11_nobody_31 rfl (ea_bn (Or.inl rfl)) E
  · have c11n : ¬ w1.1 = none := by rw [c11]; exact fun q => nomatch q
    have E := (if_neg c11n).symm.trans E
    obtain ⟨e2, E⟩ := gd_some E
    refine ea_aload_n (pc := 10) dX11_nobody_10 rfl 2 rfl ?_
    obtain ⟨f3, E⟩ := gd_some E
    refine ea_deref0 e2 ?_
    refine ea_getI (pc := 11) dX11_nobody_11 ec_5 (k := 15) (Nat.le_of_ble_eq_true rfl) rfl (Or.inl ew_546) f3.1 f3.2 ?_
    refine ea_if_ne (pc := 14) (tgt := 30) dX11_nobody_14 rfl (fun c10 => ?_) (fun c10 => ?_)
    · have E := (if_neg c10).symm.trans E
      refine ea_iconst (pc := 30) dX11_nobody_30 (v := 0) rfl ?_
      exact ea_iretO (pc := 31) dX11_nobody_31 rfl (ea_bn (Or.inl rfl)) E
    · have E := (if_pos c10).symm.trans E
      obtain ⟨z4, E⟩ := gd_some E
      refine ea_aload_n (pc := 17) dX11_nobody_17 rfl 0 rfl ?_
      refine ea_getR (pc := 18) dX11_nobody_18 ec_11 (k := 7) (Nat.le_of_ble_eq_true rfl) rfl (Or.inl ew_621) (cShC_0 hsw1).1 (cShC_0 hsw1).2.1 (rShC_0_7 hsw1) ?_
      refine ea_getR (pc := 21) dX11_nobody_21 ec_1 (k := 1) (Nat.le_of_ble_eq_true rfl) rfl (Or.inl ew_444) (cShC_52 hsw1).1 (cShC_52 hsw1).2.1 (rShC_52_1 hsw1) ?_
      refine ea_iload_n (pc := 24) dX11_nobody_24 rfl 1 rfl ?_
      refine ea_iald (pc := 25) dX11_nobody_25 (cShC_53 hsw1).1 (cShC_53 hsw1).2.1 (ea_vpl (cShC_53 hsw1).2.2 z4) ?_
      refine ea_iconst (pc := 26) dX11_nobody_26 (v := 1) rfl ?_
      refine ea_icmp_le (pc := 27) (tgt := 32) dX11_nobody_27 rfl (fun c9 => ?_) (fun c9 => ?_)
      · have E := (if_pos c9).symm.trans E
        obtain ⟨e5, E⟩ := gd_some E
        refine ea_aload_n (pc := 32) dX11_nobody_32 rfl 2 rfl ?_
        refine ea_iconst (pc := 33) dX11_nobody_33 (v := 1) rfl ?_
        obtain ⟨f6, E⟩ := gd_some E
        obtain ⟨H7, eH7, E⟩ := let_some E
        refine ea_deref1 e5 ?_
        refine ea_putI (pc := 34) dX11_nobody_34 ec_5 (k := 15) (Nat.le_of_ble_eq_true rfl) rfl (Or.inl ⟨rfl, Or.inl ew_546⟩) (ea_bn (Or.inr rfl)) (ea_bf (Or.inr rfl)) f6.1 f6.2 ?_
        refine ea_nm eH7 ?_
        have hsH7 : ShC H7 := by rw [eH7]; exact hsw1
        obtain ⟨H8, eH8, E⟩ := let_some E
        refine ea_aload_n (pc := 37) dX11_nobody_37 rfl 0 rfl ?_
        refine ea_iconst (pc := 38) dX11_nobody_38 (v := 0) rfl ?_
        refine ea_putI (pc := 39) dX11_nobody_39 ec_11 (k := 15) (Nat.le_of_ble_eq_true rfl) rfl (Or.inl ⟨rfl, Or.inl ew_629⟩) (ea_bn (Or.inl rfl)) (ea_bf (Or.inl rfl)) (cShC_0 hsH7).1 (cShC_0 hsH7).2.1 ?_
        refine ea_nm eH8 ?_
        have hsH8 : ShC H8 := by rw [eH8]; exact hsH7
        refine ea_iconst (pc := 42) dX11_nobody_42 (v := 1) rfl ?_
        exact ea_iretO (pc := 43) dX11_nobody_43 rfl (ea_bn (Or.inr rfl)) E
      · have E := (if_neg c9).symm.trans E
        refine ea_iconst (pc := 30) dX11_nobody_30 (v := 0) rfl ?_
        exact ea_iretO (pc := 31) dX11_nobody_31 rfl (ea_bn (Or.inl rfl)) E
theorem kBX11_nobody_0  {x1 : Int32} {h : ea_H} : kp (ea_core h) (BX11_nobody_0 x1 h) :=
  (kp_bind (kp_tw (kpX11_letterOf _ _) rfl) fun w1 hcw1 => (kp_ite (kp_ret hcw1) (kp_gd (kp_gd (kp_ite (kp_gd (kp_ite (kp_gd (kp_gd (kp_let (kp_let (kp_ret hcw1))))) (kp_ret hcw1))) (kp_ret hcw1))))))
noncomputable def qX11_nobody (x1 : Int32) (h : ea_H) : Option (Int32 × ea_H) := BX11_nobody_0 x1 h
theorem sX11_nobody {d : Nat} {x1 : Int32} {h : ea_H} {r : Int32} {h' : ea_H} (hd : 2 ≤ d) (hs : ShC h) (K : qX11_nobody x1 h = some (r, h')) : ea_Met mX11_nobody d [vR (some 0), vI x1] h (some (vI r)) h' := by
  unfold qX11_nobody at K
  have W := tBX11_nobody_0 hd (h0 := h) K hs
  exact ea_enter rfl (Nat.le_of_ble_eq_true rfl) W
theorem kpX11_nobody (x1 : Int32) (h : ea_H) : kp (ea_core h) (qX11_nobody x1 h) := kBX11_nobody_0
noncomputable def BX11_place_0 (x1 : Int32) (x2 : Int32) (x3 : Int32) (h : ea_H) : Option (Int32 × ea_H) :=
  (Option.bind (qX11_letterOf (x1 : Int32) h) fun w1 => (if w1.1 = none then (some ((0 : Int32), w1.2)) else (gd (vp_in x1 120) (if (ea_i w1.2 53 (Int32.toNatClampNeg x1)) = (3 : Int32) then (Option.bind (qX7_has (x2 : Int32) w1.2) fun w3 => (if w3.1 = (0 : Int32) then (some ((0 : Int32), w3.2)) else (gd (w1.1 = some (Option.getD w1.1 0)) (gd (((Option.getD w1.1 0) < ea_n w3.2 ∧ ea_c w3.2 (Option.getD w1.1 0) = 5)) (if x2 = (ea_i w3.2 (Option.getD w1.1 0) 2) then (some ((0 : Int32), w3.2)) else (if x3 < (1 : Int32) then (some ((0 : Int32), w3.2)) else (if x3 ≤ (99 : Int32) then (gd (w1.1 = some (Option.getD w1.1 0)) (gd (((Option.getD w1.1 0) < ea_n w3.2 ∧ ea_c w3.2 (Option.getD w1.1 0) = 5)) (Option.bind (qX5_tell (Option.getD w1.1 0) (x2 : Int32) (x3 : Int32) w3.2) fun w6 => (gd ((w6.1 = 0 ∨ w6.1 = 1)) (some (w6.1, w6.2)))))) else (some ((0 : Int32), w3.2))))))))) else (some ((0 : Int32), w1.2))))))
theorem tBX11_place_0 {d : Nat} {h0 : ea_H} (hd : 4 ≤ d)  {x1 : Int32} {x2 : Int32} {x3 : Int32} {h : ea_H} {r : Int32} {h' : ea_H} (E : BX11_place_0 x1 x2 x3 h = some (r, h')) (hs : ShC h) : ea_W mX11_place d h0 (some (vI r)) h' 0 [(0, vR (some 0)), (1, vI x1), (2, vI x2), (3, vI x3)] [] h := by
  unfold BX11_place_0 at E
  obtain ⟨w1, Ew1, E⟩ := bd_some E
  have hsw1 : ShC w1.2 := ShC_core ((kpX11_letterOf _ _) _ Ew1) hs
  refine ea_aload_n (pc := 0) dX11_place_0 rfl 0 rfl ?_
  refine ea_iload_n (pc := 1) dX11_place_1 rfl 1 rfl ?_
  refine ea_callV (pc := 2) (d' := d - 1) (As := [vI x1]) (st := []) dX11_place_2 kX11_letterOf (sX11_letterOf (d := d - 1) (by omega) hs Ew1) (by omega) rfl (Nat.le_of_ble_eq_true rfl) ew_1130 ew_1132 ew_37 (ci := 11) rfl (by decide) (cShC_0 hs).1 (cShC_0 hs).2.1 ?_
  refine ea_astore (pc := 5) (lv' := [(0, vR (some 0)), (1, vI x1), (2, vI x2), (3, vI x3), (4, vR w1.1)]) dX11_place_5 (Nat.le_of_ble_eq_true rfl) [1, 2, 3, 4, 0] rfl ?_
  refine ea_aload (pc := 7) dX11_place_7 4 rfl ?_
  refine ea_ifnull (pc := 9) (tgt := 45) dX11_place_9 rfl (fun c15 => ?_) (fun a16 c15 => ?_)
  · have E := (if_pos c15).symm.trans E
    refine ea_iconst (pc := 45) dX11_place_45 (v := 0) rfl ?_
    exact ea_iretO (pc := 46) dX11_place_46 rfl (ea_bn (Or.inl rfl)) E
  · have c15n : ¬ w1.1 = none := by rw [c15]; exact fun q => nomatch q
    have E := (if_neg c15n).symm.trans E
    obtain ⟨z2, E⟩ := gd_some E
    refine ea_aload_n (pc := 12) dX11_place_12 rfl 0 rfl ?_
    refine ea_getR (pc := 13) dX11_place_13 ec_11 (k := 7) (Nat.le_of_ble_eq_true rfl) rfl (Or.inl ew_621) (cShC_0 hsw1).1 (cShC_0 hsw1).2.1 (rShC_0_7 hsw1) ?_
    refine ea_getR (pc := 16) dX11_place_16 ec_1 (k := 1) (Nat.le_of_ble_eq_true rfl) rfl (Or.inl ew_444) (cShC_52 hsw1).1 (cShC_52 hsw1).2.1 (rShC_52_1 hsw1) ?_
    refine ea_iload_n (pc := 19) dX11_place_19 rfl 1 rfl ?_
    refine ea_iald (pc := 20) dX11_place_20 (cShC_53 hsw1).1 (cShC_53 hsw1).2.1 (ea_vpl (cShC_53 hsw1).2.2 z2) ?_
    refine ea_iconst (pc := 21) dX11_place_21 (v := 3) rfl ?_
    refine ea_icmp_ne (pc := 22) (tgt := 45) dX11_place_22 rfl (fun c14 => ?_) (fun c14 => ?_)
    · have E := (if_neg c14).symm.trans E
      refine ea_iconst (pc := 45) dX11_place_45 (v := 0) rfl ?_
      exact ea_iretO (pc := 46) dX11_place_46 rfl (ea_bn (Or.inl rfl)) E
    · have E := (if_pos c14).symm.trans E
      obtain ⟨w3, Ew3, E⟩ := bd_some E
      have hsw3 : ShC w3.2 := ShC_core ((kpX7_has _ _) _ Ew3) hsw1
      refine ea_aload_n (pc := 25) dX11_place_25 rfl 0 rfl ?_
      refine ea_getR (pc := 26) dX11_place_26 ec_11 (k := 0) (Nat.le_of_ble_eq_true rfl) rfl (Or.inl ew_614) (cShC_0 hsw1).1 (cShC_0 hsw1).2.1 (rShC_0_0 hsw1) ?_
      refine ea_iload_n (pc := 29) dX11_place_29 rfl 2 rfl ?_
      refine ea_callV (pc := 30) (d' := d - 1) (As := [vI x2]) (st := []) dX11_place_30 kX7_has (sX7_has (d := d - 1) (by omega) hsw1 Ew3) (by omega) rfl (Nat.le_of_ble_eq_true rfl) ew_680 ew_681 ew_682 (ci := 7) rfl (by decide) (cShC_1 hsw1).1 (cShC_1 hsw1).2.1 ?_
      refine ea_if_eq (pc := 33) (tgt := 45) dX11_place_33 rfl (fun c13 => ?_) (fun c13 => ?_)
      · have E := (if_pos c13).symm.trans E
        refine ea_iconst (pc := 45) dX11_place_45 (v := 0) rfl ?_
        exact ea_iretO (pc := 46) dX11_place_46 rfl (ea_bn (Or.inl rfl)) E
      · have E := (if_neg c13).symm.trans E
        obtain ⟨e4, E⟩ := gd_some E
        refine ea_iload_n (pc := 36) dX11_place_36 rfl 2 rfl ?_
        refine ea_aload (pc := 37) dX11_place_37 4 rfl ?_
        obtain ⟨f5, E⟩ := gd_some E
        refine ea_deref0 e4 ?_
        refine ea_getI (pc := 39) dX11_place_39 ec_5 (k := 2) (Nat.le_of_ble_eq_true rfl) rfl (Or.inl ew_512) f5.1 f5.2 ?_
        refine ea_icmp_ne (pc := 42) (tgt := 47) dX11_place_42 rfl (fun c12 => ?_) (fun c12 => ?_)
        · have E := (if_neg c12).symm.trans E
          refine ea_iload_n (pc := 47) dX11_place_47 rfl 3 rfl ?_
          refine ea_iconst (pc := 48) dX11_place_48 (v := 1) rfl ?_
          refine ea_icmp_lt (pc := 49) (tgt := 58) dX11_place_49 rfl (fun c11 => ?_) (fun c11 => ?_)
          · have E := (if_pos c11).symm.trans E
            refine ea_iconst (pc := 58) dX11_place_58 (v := 0) rfl ?_
            exact ea_iretO (pc := 59) dX11_place_59 rfl (ea_bn (Or.inl rfl)) E
          · have E := (if_neg c11).symm.trans E
            refine ea_iload_n (pc := 52) dX11_place_52 rfl 3 rfl ?_
            refine ea_bipush (pc := 53) dX11_place_53 (v := 99) rfl ?_
            refine ea_icmp_le (pc := 55) (tgt := 60) dX11_place_55 rfl (fun c10 => ?_) (fun c10 => ?_)
            · have E := (if_pos c10).symm.trans E
              obtain ⟨e7, E⟩ := gd_some E
              refine ea_aload (pc := 60) dX11_place_60 4 rfl ?_
              refine ea_iload_n (pc := 62) dX11_place_62 rfl 2 rfl ?_
              refine ea_iload_n (pc := 63) dX11_place_63 rfl 3 rfl ?_
              obtain ⟨f8, E⟩ := gd_some E
              obtain ⟨w6, Ew6, E⟩ := bd_some E
              have hsw6 : ShC w6.2 := ShC_core ((kpX5_tell _ _ _ _) _ Ew6) hsw3
              refine ea_deref2 e7 ?_
              refine ea_callV (pc := 64) (d' := d - 1) (As := [vI x2, vI x3]) (st := []) dX11_place_64 kX5_tell (sX5_tell (d := d - 1) (by omega) Ew6) (by omega) rfl (Nat.le_of_ble_eq_true rfl) ew_1265 ew_1266 ew_1267 (ci := 5) rfl (by decide) f8.1 f8.2 ?_
              obtain ⟨z9, E⟩ := gd_some E
              exact ea_iretO (pc := 67) dX11_place_67 rfl (ea_bn z9) E
            · have E := (if_neg c10).symm.trans E
              refine ea_iconst (pc := 58) dX11_place_58 (v := 0) rfl ?_
              exact ea_iretO (pc := 59) dX11_place_59 rfl (ea_bn (Or.inl rfl)) E
        · have E := (if_pos c12).symm.trans E
          refine ea_iconst (pc := 45) dX11_place_45 (v := 0) rfl ?_
          exact ea_iretO (pc := 46) dX11_place_46 rfl (ea_bn (Or.inl rfl)) E
theorem kBX11_place_0  {x1 : Int32} {x2 : Int32} {x3 : Int32} {h : ea_H} : kp (ea_core h) (BX11_place_0 x1 x2 x3 h) :=
  (kp_bind (kp_tw (kpX11_letterOf _ _) rfl) fun w1 hcw1 => (kp_ite (kp_ret hcw1) (kp_gd (kp_ite (kp_bind (kp_tw (kpX7_has _ _) hcw1) fun w3 hcw3 => (kp_ite (kp_ret hcw3) (kp_gd (kp_gd (kp_ite (kp_ret hcw3) (kp_ite (kp_ret hcw3) (kp_ite (kp_gd (kp_gd (kp_bind (kp_tw (kpX5_tell _ _ _ _) hcw3) fun w6 hcw6 => (kp_gd (kp_ret hcw6))))) (kp_ret hcw3)))))))) (kp_ret hcw1)))))
noncomputable def qX11_place (x1 : Int32) (x2 : Int32) (x3 : Int32) (h : ea_H) : Option (Int32 × ea_H) := BX11_place_0 x1 x2 x3 h
theorem sX11_place {d : Nat} {x1 : Int32} {x2 : Int32} {x3 : Int32} {h : ea_H} {r : Int32} {h' : ea_H} (hd : 4 ≤ d) (hs : ShC h) (K : qX11_place x1 x2 x3 h = some (r, h')) : ea_Met mX11_place d [vR (some 0), vI x1, vI x2, vI x3] h (some (vI r)) h' := by
  unfold qX11_place at K
  have W := tBX11_place_0 hd (h0 := h) K hs
  exact ea_enter rfl (Nat.le_of_ble_eq_true rfl) W
theorem kpX11_place (x1 : Int32) (x2 : Int32) (x3 : Int32) (h : ea_H) : kp (ea_core h) (qX11_place x1 x2 x3 h) := kBX11_place_0
noncomputable def BX11_order_0 (J34 : Int32 → Option Nat → ea_H → Option (Int64 × ea_H)) (J89 : Int32 → Option Nat → ea_H → Option (Int64 × ea_H)) (x1 : Int32) (x2 : Int32) (h : ea_H) : Option (Int64 × ea_H) :=
  (Option.bind (qX11_letterOf (x1 : Int32) h) fun w1 => (if w1.1 = none then (some (((-1) : Int64), w1.2)) else (if x2 = (0 : Int32) then (gd (w1.1 = some (Option.getD w1.1 0)) (gd (((Option.getD w1.1 0) < ea_n w1.2 ∧ ea_c w1.2 (Option.getD w1.1 0) = 5)) (some ((Int32.toInt64 (ea_i w1.2 (Option.getD w1.1 0) 18)), w1.2)))) else (if x2 = (1 : Int32) then (J34 (x2 : Int32) (w1.1 : Option Nat) w1.2) else (if x2 = (2 : Int32) then (J34 (x2 : Int32) (w1.1 : Option Nat) w1.2) else (if x2 < (10 : Int32) then (J89 (x2 : Int32) (w1.1 : Option Nat) w1.2) else (gd (w1.1 = some (Option.getD w1.1 0)) (gd (((Option.getD w1.1 0) < ea_n w1.2 ∧ ea_c w1.2 (Option.getD w1.1 0) = 5)) (if ((10 : Int32) + (ea_i w1.2 (Option.getD w1.1 0) 18)) ≤ x2 then (J89 (x2 : Int32) (w1.1 : Option Nat) w1.2) else (gd (w1.1 = some (Option.getD w1.1 0)) (gd (((Option.getD w1.1 0) < ea_n w1.2 ∧ ea_c w1.2 (Option.getD w1.1 0) = 5)) (Option.bind (qX5_placeTown (Option.getD w1.1 0) ((x2 - (10 : Int32)) : Int32) w1.2) fun w4 => (some ((Int32.toInt64 w4.1), w4.2))))))))))))))
theorem tBX11_order_0 {d : Nat} {h0 : ea_H} (hd : 3 ≤ d) {J34 : Int32 → Option Nat → ea_H → Option (Int64 × ea_H)} {J89 : Int32 → Option Nat → ea_H → Option (Int64 × ea_H)}  (kJ34 : ∀ (x2 : Int32) (r3 : Option Nat) (h : ea_H) (r : Int64) (h' : ea_H), J34 x2 r3 h = some (r, h') → ShC h → ea_W mX11_order d h0 (some (vJ r)) h' 34 [(2, vI x2), (3, vR r3)] [] h) (kJ89 : ∀ (x2 : Int32) (r3 : Option Nat) (h : ea_H) (r : Int64) (h' : ea_H), J89 x2 r3 h = some (r, h') → ShC h → ea_W mX11_order d h0 (some (vJ r)) h' 89 [(2, vI x2), (3, vR r3)] [] h) {x1 : Int32} {x2 : Int32} {h : ea_H} {r : Int64} {h' : ea_H} (E : BX11_order_0 J34 J89 x1 x2 h = some (r, h')) (hs : ShC h) : ea_W mX11_order d h0 (some (vJ r)) h' 0 [(0, vR (some 0)), (1, vI x1), (2, vI x2)] [] h := by
  unfold BX11_order_0 at E
  obtain ⟨w1, Ew1, E⟩ := bd_some E
  have hsw1 : ShC w1.2 := ShC_core ((kpX11_letterOf _ _) _ Ew1) hs
  refine ea_aload_n (pc := 0) dX11_order_0 rfl 0 rfl ?_
  refine ea_iload_n (pc := 1) dX11_order_1 rfl 1 rfl ?_
  refine ea_callV (pc := 2) (d' := d - 1) (As := [vI x1]) (st := []) dX11_order_2 kX11_letterOf (sX11_letterOf (d := d - 1) (by omega) hs Ew1) (by omega) rfl (Nat.le_of_ble_eq_true rfl) ew_1130 ew_1132 ew_37 (ci := 11) rfl (by decide) (cShC_0 hs).1 (cShC_0 hs).2.1 ?_
  refine ea_astore_n (pc := 5) (lv' := [(2, vI x2), (3, vR w1.1)]) dX11_order_5 rfl (Nat.le_of_ble_eq_true rfl) [3, 0] rfl ?_
  refine ea_aload_n (pc := 6) dX11_order_6 rfl 1 rfl ?_
  refine ea_ifnonnull (pc := 7) (tgt := 14) dX11_order_7 rfl (fun a15 c14 => ?_) (fun c14 => ?_)
  · have c14n : ¬ w1.1 = none := by rw [c14]; exact fun q => nomatch q
    have E := (if_neg c14n).symm.trans E
    refine ea_iload_n (pc := 14) dX11_order_14 rfl 0 rfl ?_
    refine ea_if_ne (pc := 15) (tgt := 24) dX11_order_15 rfl (fun c13 => ?_) (fun c13 => ?_)
    · have E := (if_neg c13).symm.trans E
      refine ea_iload_n (pc := 24) dX11_order_24 rfl 0 rfl ?_
      refine ea_iconst (pc := 25) dX11_order_25 (v := 1) rfl ?_
      refine ea_icmp_eq (pc := 26) (tgt := 34) dX11_order_26 rfl (fun c10 => ?_) (fun c10 => ?_)
      · have E := (if_pos c10).symm.trans E
        exact (kJ34 (x2 : Int32) (w1.1 : Option Nat) w1.2 _ _ E hsw1)
      · have E := (if_neg c10).symm.trans E
        refine ea_iload_n (pc := 29) dX11_order_29 rfl 0 rfl ?_
        refine ea_iconst (pc := 30) dX11_order_30 (v := 2) rfl ?_
        refine ea_icmp_ne (pc := 31) (tgt := 62) dX11_order_31 rfl (fun c9 => ?_) (fun c9 => ?_)
        · have E := (if_neg c9).symm.trans E
          refine ea_iload_n (pc := 62) dX11_order_62 rfl 0 rfl ?_
          refine ea_bipush (pc := 63) dX11_order_63 (v := 10) rfl ?_
          refine ea_icmp_lt (pc := 65) (tgt := 89) dX11_order_65 rfl (fun c8 => ?_) (fun c8 => ?_)
          · have E := (if_pos c8).symm.trans E
            exact (kJ89 (x2 : Int32) (w1.1 : Option Nat) w1.2 _ _ E hsw1)
          · have E := (if_neg c8).symm.trans E
            obtain ⟨e2, E⟩ := gd_some E
            refine ea_iload_n (pc := 68) dX11_order_68 rfl 0 rfl ?_
            refine ea_bipush (pc := 69) dX11_order_69 (v := 10) rfl ?_
            refine ea_aload_n (pc := 71) dX11_order_71 rfl 1 rfl ?_
            obtain ⟨f3, E⟩ := gd_some E
            refine ea_deref0 e2 ?_
            refine ea_getI (pc := 72) dX11_order_72 ec_5 (k := 18) (Nat.le_of_ble_eq_true rfl) rfl (Or.inl ew_553) f3.1 f3.2 ?_
            refine ea_iadd (pc := 75) dX11_order_75 ?_
            refine ea_icmp_ge (pc := 76) (tgt := 89) dX11_order_76 rfl (fun c7 => ?_) (fun c7 => ?_)
            · have E := (if_pos c7).symm.trans E
              exact (kJ89 (x2 : Int32) (w1.1 : Option Nat) w1.2 _ _ E hsw1)
            · have E := (if_neg c7).symm.trans E
              obtain ⟨e5, E⟩ := gd_some E
              refine ea_aload_n (pc := 79) dX11_order_79 rfl 1 rfl ?_
              refine ea_iload_n (pc := 80) dX11_order_80 rfl 0 rfl ?_
              refine ea_bipush (pc := 81) dX11_order_81 (v := 10) rfl ?_
              refine ea_isub (pc := 83) dX11_order_83 ?_
              obtain ⟨f6, E⟩ := gd_some E
              obtain ⟨w4, Ew4, E⟩ := bd_some E
              have hsw4 : ShC w4.2 := ShC_core ((kpX5_placeTown _ _ _) _ Ew4) hsw1
              refine ea_deref1 e5 ?_
              refine ea_callV (pc := 84) (d' := d - 1) (As := [vI (x2 - (10 : Int32))]) (st := []) dX11_order_84 kX5_placeTown (sX5_placeTown (d := d - 1) (by omega) Ew4) (by omega) rfl (Nat.le_of_ble_eq_true rfl) ew_1292 ew_1274 ew_1275 (ci := 5) rfl (by decide) f6.1 f6.2 ?_
              refine ea_i2l (pc := 87) dX11_order_87 ?_
              exact ea_lretO (pc := 88) dX11_order_88 rfl E
        · have E := (if_pos c9).symm.trans E
          exact (kJ34 (x2 : Int32) (w1.1 : Option Nat) w1.2 _ _ E hsw1)
    · have E := (if_pos c13).symm.trans E
      obtain ⟨e11, E⟩ := gd_some E
      refine ea_aload_n (pc := 18) dX11_order_18 rfl 1 rfl ?_
      obtain ⟨f12, E⟩ := gd_some E
      refine ea_deref0 e11 ?_
      refine ea_getI (pc := 19) dX11_order_19 ec_5 (k := 18) (Nat.le_of_ble_eq_true rfl) rfl (Or.inl ew_553) f12.1 f12.2 ?_
      refine ea_i2l (pc := 22) dX11_order_22 ?_
      exact ea_lretO (pc := 23) dX11_order_23 rfl E
  · have E := (if_pos c14).symm.trans E
    refine ea_ldc2 (pc := 10) dX11_order_10 ew_1281 ?_
    exact ea_lretO (pc := 13) dX11_order_13 rfl E
theorem kBX11_order_0 {J34 : Int32 → Option Nat → ea_H → Option (Int64 × ea_H)} {J89 : Int32 → Option Nat → ea_H → Option (Int64 × ea_H)}  (cJ34 : ∀ (x2 : Int32) (r3 : Option Nat) (h : ea_H), kp (ea_core h) (J34 x2 r3 h)) (cJ89 : ∀ (x2 : Int32) (r3 : Option Nat) (h : ea_H), kp (ea_core h) (J89 x2 r3 h)) {x1 : Int32} {x2 : Int32} {h : ea_H} : kp (ea_core h) (BX11_order_0 J34 J89 x1 x2 h) :=
  (kp_bind (kp_tw (kpX11_letterOf _ _) rfl) fun w1 hcw1 => (kp_ite (kp_ret hcw1) (kp_ite (kp_gd (kp_gd (kp_ret hcw1))) (kp_ite (kp_tw (cJ34 _ _ _) hcw1) (kp_ite (kp_tw (cJ34 _ _ _) hcw1) (kp_ite (kp_tw (cJ89 _ _ _) hcw1) (kp_gd (kp_gd (kp_ite (kp_tw (cJ89 _ _ _) hcw1) (kp_gd (kp_gd (kp_bind (kp_tw (kpX5_placeTown _ _ _) hcw1) fun w4 hcw4 => (kp_ret hcw4)))))))))))))
theorem lBX11_order_0 {J34 : Int32 → Option Nat → ea_H → Option (Int64 × ea_H)} {J89 : Int32 → Option Nat → ea_H → Option (Int64 × ea_H)} {J34_ : Int32 → Option Nat → ea_H → Option (Int64 × ea_H)} {J89_ : Int32 → Option Nat → ea_H → Option (Int64 × ea_H)}  (mJ34 : ∀ (x2 : Int32) (r3 : Option Nat) (h : ea_H), fle (J34 x2 r3 h) (J34_ x2 r3 h)) (mJ89 : ∀ (x2 : Int32) (r3 : Option Nat) (h : ea_H), fle (J89 x2 r3 h) (J89_ x2 r3 h)) {x1 : Int32} {x2 : Int32} {h : ea_H} : fle (BX11_order_0 J34 J89 x1 x2 h) (BX11_order_0 J34_ J89_ x1 x2 h) :=
  (fle_bind (fle_rfl _) fun _ => (fle_ite (fle_rfl _) (fle_ite (fle_rfl _) (fle_ite (mJ34 _ _ _) (fle_ite (mJ34 _ _ _) (fle_ite (mJ89 _ _ _) (fle_gd (fle_gd (fle_ite (mJ89 _ _ _) (fle_rfl _))))))))))
theorem nBX11_order_0 {J34 : Int32 → Option Nat → ea_H → Option (Int64 × ea_H)} {J89 : Int32 → Option Nat → ea_H → Option (Int64 × ea_H)} {J34_ : Nat → (Int32 → Option Nat → ea_H → Option (Int64 × ea_H))} {J89_ : Nat → (Int32 → Option Nat → ea_H → Option (Int64 × ea_H))}  (mJ34 : ∀ (x2 : Int32) (r3 : Option Nat) (h : ea_H), fct (J34 x2 r3 h) (fun f => J34_ f x2 r3 h)) (mJ89 : ∀ (x2 : Int32) (r3 : Option Nat) (h : ea_H), fct (J89 x2 r3 h) (fun f => J89_ f x2 r3 h)) {x1 : Int32} {x2 : Int32} {h : ea_H} : fct (BX11_order_0 J34 J89 x1 x2 h) (fun f => BX11_order_0 (J34_ f) (J89_ f) x1 x2 h) :=
  (fct_bind (fct_rfl _) fun _ => (fct_ite (fct_rfl _) (fct_ite (fct_rfl _) (fct_ite (mJ34 _ _ _) (fct_ite (mJ34 _ _ _) (fct_ite (mJ89 _ _ _) (fct_gd (fct_gd (fct_ite (mJ89 _ _ _) (fct_rfl _))))))))))
noncomputable def BX11_order_34 (x2 : Int32) (r3 : Option Nat) (h : ea_H) : Option (Int64 × ea_H) :=
  (gd (r3 = some (Option.getD r3 0)) (gd (((Option.getD r3 0) < ea_n h ∧ ea_c h (Option.getD r3 0) = 5)) (if (ea_i h (Option.getD r3 0) 18) = (0 : Int32) then (some (((-1) : Int64), h)) else (if x2 = (1 : Int32) then (gd (r3 = some (Option.getD r3 0)) (gd (((Option.getD r3 0) < ea_n h ∧ ea_c h (Option.getD r3 0) = 5)) (Option.bind (qX5_foundByAll (Option.getD r3 0) (1 : Int32) h) fun w21 => (some (w21.1, w21.2))))) else (gd (r3 = some (Option.getD r3 0)) (gd (((Option.getD r3 0) < ea_n h ∧ ea_c h (Option.getD r3 0) = 5)) (Option.bind (qX5_foundByAll (Option.getD r3 0) (0 : Int32) h) fun w18 => (some (w18.1, w18.2)))))))))
theorem tBX11_order_34 {d : Nat} {h0 : ea_H} (hd : 3 ≤ d)  {x2 : Int32} {r3 : Option Nat} {h : ea_H} {r : Int64} {h' : ea_H} (E : BX11_order_34 x2 r3 h = some (r, h')) (hs : ShC h) : ea_W mX11_order d h0 (some (vJ r)) h' 34 [(2, vI x2), (3, vR r3)] [] h := by
  unfold BX11_order_34 at E
  obtain ⟨e16, E⟩ := gd_some E
  refine ea_aload_n (pc := 34) dX11_order_34 rfl 1 rfl ?_
  obtain ⟨f17, E⟩ := gd_some E
  refine ea_deref0 e16 ?_
  refine ea_getI (pc := 35) dX11_order_35 ec_5 (k := 18) (Nat.le_of_ble_eq_true rfl) rfl (Or.inl ew_553) f17.1 f17.2 ?_
  refine ea_if_ne (pc := 38) (tgt := 47) dX11_order_38 rfl (fun c25 => ?_) (fun c25 => ?_)
  · have E := (if_neg c25).symm.trans E
    refine ea_aload_n (pc := 47) dX11_order_47 rfl 1 rfl ?_
    refine ea_iload_n (pc := 48) dX11_order_48 rfl 0 rfl ?_
    refine ea_iconst (pc := 49) dX11_order_49 (v := 1) rfl ?_
    refine ea_icmp_ne (pc := 50) (tgt := 57) dX11_order_50 rfl (fun c24 => ?_) (fun c24 => ?_)
    · have E := (if_neg c24).symm.trans E
      obtain ⟨e19, E⟩ := gd_some E
      refine ea_iconst (pc := 57) dX11_order_57 (v := 0) rfl ?_
      obtain ⟨f20, E⟩ := gd_some E
      obtain ⟨w18, Ew18, E⟩ := bd_some E
      have hsw18 : ShC w18.2 := ShC_core ((kpX5_foundByAll _ _ _) _ Ew18) hs
      refine ea_deref1 e19 ?_
      refine ea_callV (pc := 58) (d' := d - 1) (As := [vI 0]) (st := []) dX11_order_58 kX5_foundByAll (sX5_foundByAll (d := d - 1) (by omega) Ew18) (by omega) rfl (Nat.le_of_ble_eq_true rfl) ew_1282 ew_1283 ew_1284 (ci := 5) rfl (by decide) f20.1 f20.2 ?_
      exact ea_lretO (pc := 61) dX11_order_61 rfl E
    · have E := (if_pos c24).symm.trans E
      obtain ⟨e22, E⟩ := gd_some E
      refine ea_iconst (pc := 53) dX11_order_53 (v := 1) rfl ?_
      refine ea_goto (pc := 54) (tgt := 58) dX11_order_54 rfl ?_
      obtain ⟨f23, E⟩ := gd_some E
      obtain ⟨w21, Ew21, E⟩ := bd_some E
      have hsw21 : ShC w21.2 := ShC_core ((kpX5_foundByAll _ _ _) _ Ew21) hs
      refine ea_deref1 e22 ?_
      refine ea_callV (pc := 58) (d' := d - 1) (As := [vI 1]) (st := []) dX11_order_58 kX5_foundByAll (sX5_foundByAll (d := d - 1) (by omega) Ew21) (by omega) rfl (Nat.le_of_ble_eq_true rfl) ew_1282 ew_1283 ew_1284 (ci := 5) rfl (by decide) f23.1 f23.2 ?_
      exact ea_lretO (pc := 61) dX11_order_61 rfl E
  · have E := (if_pos c25).symm.trans E
    refine ea_ldc2 (pc := 41) dX11_order_41 ew_1281 ?_
    refine ea_goto (pc := 44) (tgt := 61) dX11_order_44 rfl ?_
    exact ea_lretO (pc := 61) dX11_order_61 rfl E
theorem kBX11_order_34  {x2 : Int32} {r3 : Option Nat} {h : ea_H} : kp (ea_core h) (BX11_order_34 x2 r3 h) :=
  (kp_gd (kp_gd (kp_ite (kp_ret rfl) (kp_ite (kp_gd (kp_gd (kp_bind (kp_tw (kpX5_foundByAll _ _ _) rfl) fun w21 hcw21 => (kp_ret hcw21)))) (kp_gd (kp_gd (kp_bind (kp_tw (kpX5_foundByAll _ _ _) rfl) fun w18 hcw18 => (kp_ret hcw18))))))))
theorem lBX11_order_34  {x2 : Int32} {r3 : Option Nat} {h : ea_H} : fle (BX11_order_34 x2 r3 h) (BX11_order_34 x2 r3 h) :=
  (fle_rfl _)
theorem nBX11_order_34  {x2 : Int32} {r3 : Option Nat} {h : ea_H} : fct (BX11_order_34 x2 r3 h) (fun f => BX11_order_34 x2 r3 h) :=
  (fct_rfl _)
noncomputable def BX11_order_89 (x2 : Int32) (r3 : Option Nat) (h : ea_H) : Option (Int64 × ea_H) :=
  (if x2 < (20 : Int32) then (some (((-1) : Int64), h)) else (gd (r3 = some (Option.getD r3 0)) (gd (((Option.getD r3 0) < ea_n h ∧ ea_c h (Option.getD r3 0) = 5)) (if ((20 : Int32) + (ea_i h (Option.getD r3 0) 18)) ≤ x2 then (some (((-1) : Int64), h)) else (gd (r3 = some (Option.getD r3 0)) (gd (((Option.getD r3 0) < ea_n h ∧ ea_c h (Option.getD r3 0) = 5)) (Option.bind (qX5_placeChance (Option.getD r3 0) ((x2 - (20 : Int32)) : Int32) h) fun w28 => (some ((Int32.toInt64 w28.1), w28.2)))))))))
theorem tBX11_order_89 {d : Nat} {h0 : ea_H} (hd : 3 ≤ d)  {x2 : Int32} {r3 : Option Nat} {h : ea_H} {r : Int64} {h' : ea_H} (E : BX11_order_89 x2 r3 h = some (r, h')) (hs : ShC h) : ea_W mX11_order d h0 (some (vJ r)) h' 89 [(2, vI x2), (3, vR r3)] [] h := by
  unfold BX11_order_89 at E
  refine ea_iload_n (pc := 89) dX11_order_89 rfl 0 rfl ?_
  refine ea_bipush (pc := 90) dX11_order_90 (v := 20) rfl ?_
  refine ea_icmp_lt (pc := 92) (tgt := 116) dX11_order_92 rfl (fun c32 => ?_) (fun c32 => ?_)
  · have E := (if_pos c32).symm.trans E
    refine ea_ldc2 (pc := 116) dX11_order_116 ew_1281 ?_
    exact ea_lretO (pc := 119) dX11_order_119 rfl E
  · have E := (if_neg c32).symm.trans E
    obtain ⟨e26, E⟩ := gd_some E
    refine ea_iload_n (pc := 95) dX11_order_95 rfl 0 rfl ?_
    refine ea_bipush (pc := 96) dX11_order_96 (v := 20) rfl ?_
    refine ea_aload_n (pc := 98) dX11_order_98 rfl 1 rfl ?_
    obtain ⟨f27, E⟩ := gd_some E
    refine ea_deref0 e26 ?_
    refine ea_getI (pc := 99) dX11_order_99 ec_5 (k := 18) (Nat.le_of_ble_eq_true rfl) rfl (Or.inl ew_553) f27.1 f27.2 ?_
    refine ea_iadd (pc := 102) dX11_order_102 ?_
    refine ea_icmp_ge (pc := 103) (tgt := 116) dX11_order_103 rfl (fun c31 => ?_) (fun c31 => ?_)
    · have E := (if_pos c31).symm.trans E
      refine ea_ldc2 (pc := 116) dX11_order_116 ew_1281 ?_
      exact ea_lretO (pc := 119) dX11_order_119 rfl E
    · have E := (if_neg c31).symm.trans E
      obtain ⟨e29, E⟩ := gd_some E
      refine ea_aload_n (pc := 106) dX11_order_106 rfl 1 rfl ?_
      refine ea_iload_n (pc := 107) dX11_order_107 rfl 0 rfl ?_
      refine ea_bipush (pc := 108) dX11_order_108 (v := 20) rfl ?_
      refine ea_isub (pc := 110) dX11_order_110 ?_
      obtain ⟨f30, E⟩ := gd_some E
      obtain ⟨w28, Ew28, E⟩ := bd_some E
      have hsw28 : ShC w28.2 := ShC_core ((kpX5_placeChance _ _ _) _ Ew28) hs
      refine ea_deref1 e29 ?_
      refine ea_callV (pc := 111) (d' := d - 1) (As := [vI (x2 - (20 : Int32))]) (st := []) dX11_order_111 kX5_placeChance (sX5_placeChance (d := d - 1) (by omega) Ew28) (by omega) rfl (Nat.le_of_ble_eq_true rfl) ew_1293 ew_1288 ew_1289 (ci := 5) rfl (by decide) f30.1 f30.2 ?_
      refine ea_i2l (pc := 114) dX11_order_114 ?_
      exact ea_lretO (pc := 115) dX11_order_115 rfl E
theorem kBX11_order_89  {x2 : Int32} {r3 : Option Nat} {h : ea_H} : kp (ea_core h) (BX11_order_89 x2 r3 h) :=
  (kp_ite (kp_ret rfl) (kp_gd (kp_gd (kp_ite (kp_ret rfl) (kp_gd (kp_gd (kp_bind (kp_tw (kpX5_placeChance _ _ _) rfl) fun w28 hcw28 => (kp_ret hcw28))))))))
theorem lBX11_order_89  {x2 : Int32} {r3 : Option Nat} {h : ea_H} : fle (BX11_order_89 x2 r3 h) (BX11_order_89 x2 r3 h) :=
  (fle_rfl _)
theorem nBX11_order_89  {x2 : Int32} {r3 : Option Nat} {h : ea_H} : fct (BX11_order_89 x2 r3 h) (fun f => BX11_order_89 x2 r3 h) :=
  (fct_rfl _)
noncomputable def gX11_order : Nat → (Int32 → Int32 → ea_H → Option (Int64 × ea_H)) × (Int32 → Option Nat → ea_H → Option (Int64 × ea_H)) × (Int32 → Option Nat → ea_H → Option (Int64 × ea_H))
  | 0 => (fun _ _ _ => none, fun _ _ _ => none, fun _ _ _ => none)
  | f + 1 => (BX11_order_0 (gX11_order f).2.1 (gX11_order f).2.2, BX11_order_34, BX11_order_89)
theorem mgX11_order : ∀ f : Nat, (∀ (x1 : Int32) (x2 : Int32) (h : ea_H), fle ((gX11_order f).1 x1 x2 h) ((gX11_order (f + 1)).1 x1 x2 h)) ∧ (∀ (x2 : Int32) (r3 : Option Nat) (h : ea_H), fle ((gX11_order f).2.1 x2 r3 h) ((gX11_order (f + 1)).2.1 x2 r3 h)) ∧ (∀ (x2 : Int32) (r3 : Option Nat) (h : ea_H), fle ((gX11_order f).2.2 x2 r3 h) ((gX11_order (f + 1)).2.2 x2 r3 h)) := by
  intro f
  induction f with
  | zero => exact ⟨fun _ _ _ => fle_none _, fun _ _ _ => fle_none _, fun _ _ _ => fle_none _⟩
  | succ f ih => exact ⟨fun _ _ _ => lBX11_order_0 ih.2.1 ih.2.2, fun _ _ _ => lBX11_order_34, fun _ _ _ => lBX11_order_89⟩
noncomputable def qX11_order_0 (x1 : Int32) (x2 : Int32) (h : ea_H) : Option (Int64 × ea_H) := flim fun f => (gX11_order f).1 x1 x2 h
noncomputable def qX11_order_34 (x2 : Int32) (r3 : Option Nat) (h : ea_H) : Option (Int64 × ea_H) := flim fun f => (gX11_order f).2.1 x2 r3 h
noncomputable def qX11_order_89 (x2 : Int32) (r3 : Option Nat) (h : ea_H) : Option (Int64 × ea_H) := flim fun f => (gX11_order f).2.2 x2 r3 h
theorem fqX11_order_0 (x1 : Int32) (x2 : Int32) (h : ea_H) : fct (qX11_order_0 x1 x2 h) fun f => (gX11_order f).1 x1 x2 h := flim_ct fun f => (mgX11_order f).1 x1 x2 h
theorem fqX11_order_34 (x2 : Int32) (r3 : Option Nat) (h : ea_H) : fct (qX11_order_34 x2 r3 h) fun f => (gX11_order f).2.1 x2 r3 h := flim_ct fun f => (mgX11_order f).2.1 x2 r3 h
theorem fqX11_order_89 (x2 : Int32) (r3 : Option Nat) (h : ea_H) : fct (qX11_order_89 x2 r3 h) fun f => (gX11_order f).2.2 x2 r3 h := flim_ct fun f => (mgX11_order f).2.2 x2 r3 h
/-- how a block opens -/
theorem uqX11_order_0 {x1 : Int32} {x2 : Int32} {h : ea_H} {P : Int64 × ea_H → Prop} (H : sat (BX11_order_0 qX11_order_34 qX11_order_89 x1 x2 h) P) : sat (qX11_order_0 x1 x2 h) P := by
  obtain ⟨x, e, hp⟩ := H
  obtain ⟨n, hn⟩ := nBX11_order_0 fqX11_order_34 fqX11_order_89 x e
  exact ⟨x, flim_at (fun f => (mgX11_order f).1 x1 x2 h) (f := n + 1) (hn n (Nat.le_refl _)), hp⟩
/-- how a block opens -/
theorem uqX11_order_34 {x2 : Int32} {r3 : Option Nat} {h : ea_H} {P : Int64 × ea_H → Prop} (H : sat (BX11_order_34 x2 r3 h) P) : sat (qX11_order_34 x2 r3 h) P := by
  obtain ⟨x, e, hp⟩ := H
  obtain ⟨n, hn⟩ := nBX11_order_34 x e
  exact ⟨x, flim_at (fun f => (mgX11_order f).2.1 x2 r3 h) (f := n + 1) (hn n (Nat.le_refl _)), hp⟩
/-- how a block opens -/
theorem uqX11_order_89 {x2 : Int32} {r3 : Option Nat} {h : ea_H} {P : Int64 × ea_H → Prop} (H : sat (BX11_order_89 x2 r3 h) P) : sat (qX11_order_89 x2 r3 h) P := by
  obtain ⟨x, e, hp⟩ := H
  obtain ⟨n, hn⟩ := nBX11_order_89 x e
  exact ⟨x, flim_at (fun f => (mgX11_order f).2.2 x2 r3 h) (f := n + 1) (hn n (Nat.le_refl _)), hp⟩
theorem kgX11_order : ∀ f : Nat, (∀ (x1 : Int32) (x2 : Int32) (h : ea_H), kp (ea_core h) ((gX11_order f).1 x1 x2 h)) ∧ (∀ (x2 : Int32) (r3 : Option Nat) (h : ea_H), kp (ea_core h) ((gX11_order f).2.1 x2 r3 h)) ∧ (∀ (x2 : Int32) (r3 : Option Nat) (h : ea_H), kp (ea_core h) ((gX11_order f).2.2 x2 r3 h)) := by
  intro f
  induction f with
  | zero => exact ⟨fun _ _ _ => kp_none _, fun _ _ _ => kp_none _, fun _ _ _ => kp_none _⟩
  | succ f ih => exact ⟨fun _ _ _ => kBX11_order_0 ih.2.1 ih.2.2, fun _ _ _ => kBX11_order_34, fun _ _ _ => kBX11_order_89⟩
theorem tgX11_order {d : Nat} {h0 : ea_H} (hd : 3 ≤ d) : ∀ f : Nat, (∀ (x1 : Int32) (x2 : Int32) (h : ea_H) (r : Int64) (h' : ea_H), (gX11_order f).1 x1 x2 h = some (r, h') → ShC h → ea_W mX11_order d h0 (some (vJ r)) h' 0 [(0, vR (some 0)), (1, vI x1), (2, vI x2)] [] h) ∧ (∀ (x2 : Int32) (r3 : Option Nat) (h : ea_H) (r : Int64) (h' : ea_H), (gX11_order f).2.1 x2 r3 h = some (r, h') → ShC h → ea_W mX11_order d h0 (some (vJ r)) h' 34 [(2, vI x2), (3, vR r3)] [] h) ∧ (∀ (x2 : Int32) (r3 : Option Nat) (h : ea_H) (r : Int64) (h' : ea_H), (gX11_order f).2.2 x2 r3 h = some (r, h') → ShC h → ea_W mX11_order d h0 (some (vJ r)) h' 89 [(2, vI x2), (3, vR r3)] [] h) := by
  intro f
  induction f with
  | zero => exact ⟨fun _ _ _ _ _ E => no_some E, fun _ _ _ _ _ E => no_some E, fun _ _ _ _ _ E => no_some E⟩
  | succ f ih => exact ⟨fun _ _ _ _ _ E hs => tBX11_order_0 hd ih.2.1 ih.2.2 E hs, fun _ _ _ _ _ E hs => tBX11_order_34 hd E hs, fun _ _ _ _ _ E hs => tBX11_order_89 hd E hs⟩
noncomputable def qX11_order (x1 : Int32) (x2 : Int32) (h : ea_H) : Option (Int64 × ea_H) := qX11_order_0 x1 x2 h
theorem sX11_order {d : Nat} {x1 : Int32} {x2 : Int32} {h : ea_H} {r : Int64} {h' : ea_H} (hd : 3 ≤ d) (hs : ShC h) (K : qX11_order x1 x2 h = some (r, h')) : ea_Met mX11_order d [vR (some 0), vI x1, vI x2] h (some (vJ r)) h' := by
  unfold qX11_order at K
  obtain ⟨n, hn⟩ := fqX11_order_0 x1 x2 h _ K
  have W := (tgX11_order (d := d) (h0 := h) hd n).1 x1 x2 h _ _ (hn n (Nat.le_refl _)) hs
  exact ea_enter rfl (Nat.le_of_ble_eq_true rfl) W
theorem kpX11_order (x1 : Int32) (x2 : Int32) (h : ea_H) : kp (ea_core h) (qX11_order x1 x2 h) := fun x e => by
  obtain ⟨n, hn⟩ := fqX11_order_0 x1 x2 h x e
  exact (kgX11_order n).1 x1 x2 h x (hn n (Nat.le_refl _))
noncomputable def BX11_set_0 (x1 : Int32) (h : ea_H) : Option (Int32 × ea_H) :=
  (Option.bind (qX9_has (x1 : Int32) h) fun w1 => (if w1.1 = (0 : Int32) then (some ((0 : Int32), w1.2)) else (gd (vp_in x1 10) (gd ((ea_r w1.2 72 (Int32.toNatClampNeg x1)) = some (Option.getD (ea_r w1.2 72 (Int32.toNatClampNeg x1)) 0)) (gd (((Option.getD (ea_r w1.2 72 (Int32.toNatClampNeg x1)) 0) < ea_n w1.2 ∧ ea_c w1.2 (Option.getD (ea_r w1.2 72 (Int32.toNatClampNeg x1)) 0) = 2)) (ea_let (ea_wi w1.2 (Option.getD (ea_r w1.2 72 (Int32.toNatClampNeg x1)) 0) 0 (ea_i w1.2 0 14)) fun H5 => (some ((1 : Int32), H5))))))))
theorem tBX11_set_0 {d : Nat} {h0 : ea_H} (hd : 2 ≤ d)  {x1 : Int32} {h : ea_H} {r : Int32} {h' : ea_H} (E : BX11_set_0 x1 h = some (r, h')) (hs : ShC h) : ea_W mX11_set d h0 (some (vI r)) h' 0 [(0, vR (some 0)), (1, vI x1)] [] h := by
  unfold BX11_set_0 at E
  obtain ⟨w1, Ew1, E⟩ := bd_some E
  have hsw1 : ShC w1.2 := ShC_core ((kpX9_has _ _) _ Ew1) hs
  refine ea_aload_n (pc := 0) dX11_set_0 rfl 0 rfl ?_
  refine ea_getR (pc := 1) dX11_set_1 ec_11 (k := 1) (Nat.le_of_ble_eq_true rfl) rfl (Or.inl ew_615) (cShC_0 hs).1 (cShC_0 hs).2.1 (rShC_0_1 hs) ?_
  refine ea_iload_n (pc := 4) dX11_set_4 rfl 1 rfl ?_
  refine ea_callV (pc := 5) (d' := d - 1) (As := [vI x1]) (st := []) dX11_set_5 kX9_has (sX9_has (d := d - 1) (by omega) hs Ew1) (by omega) rfl (Nat.le_of_ble_eq_true rfl) ew_704 ew_705 ew_706 (ci := 9) rfl (by decide) (cShC_5 hs).1 (cShC_5 hs).2.1 ?_
  refine ea_if_ne (pc := 8) (tgt := 13) dX11_set_8 rfl (fun c6 => ?_) (fun c6 => ?_)
  · have E := (if_neg c6).symm.trans E
    obtain ⟨z2, E⟩ := gd_some E
    refine ea_aload_n (pc := 13) dX11_set_13 rfl 0 rfl ?_
    refine ea_getR (pc := 14) dX11_set_14 ec_11 (k := 9) (Nat.le_of_ble_eq_true rfl) rfl (Or.inl ew_623) (cShC_0 hsw1).1 (cShC_0 hsw1).2.1 (rShC_0_9 hsw1) ?_
    refine ea_iload_n (pc := 17) dX11_set_17 rfl 1 rfl ?_
    obtain ⟨e3, E⟩ := gd_some E
    refine ea_aald24 (pc := 18) dX11_set_18 (cShC_72 hsw1).1 (cShC_72 hsw1).2.1 (ea_vpl (cShC_72 hsw1).2.2 z2) rfl ?_
    refine ea_aload_n (pc := 19) dX11_set_19 rfl 0 rfl ?_
    refine ea_getI (pc := 20) dX11_set_20 ec_11 (k := 14) (Nat.le_of_ble_eq_true rfl) rfl (Or.inl ew_628) (cShC_0 hsw1).1 (cShC_0 hsw1).2.1 ?_
    obtain ⟨f4, E⟩ := gd_some E
    obtain ⟨H5, eH5, E⟩ := let_some E
    refine ea_deref1 e3 ?_
    refine ea_putI (pc := 23) dX11_set_23 ec_2 (k := 0) (Nat.le_of_ble_eq_true rfl) rfl (Or.inl ⟨rfl, Or.inl ew_602⟩) rfl rfl f4.1 f4.2 ?_
    refine ea_nm eH5 ?_
    have hsH5 : ShC H5 := by rw [eH5]; exact hsw1
    refine ea_iconst (pc := 26) dX11_set_26 (v := 1) rfl ?_
    exact ea_iretO (pc := 27) dX11_set_27 rfl (ea_bn (Or.inr rfl)) E
  · have E := (if_pos c6).symm.trans E
    refine ea_iconst (pc := 11) dX11_set_11 (v := 0) rfl ?_
    exact ea_iretO (pc := 12) dX11_set_12 rfl (ea_bn (Or.inl rfl)) E
theorem kBX11_set_0  {x1 : Int32} {h : ea_H} : kp (ea_core h) (BX11_set_0 x1 h) :=
  (kp_bind (kp_tw (kpX9_has _ _) rfl) fun w1 hcw1 => (kp_ite (kp_ret hcw1) (kp_gd (kp_gd (kp_gd (kp_let (kp_ret hcw1)))))))
noncomputable def qX11_set (x1 : Int32) (h : ea_H) : Option (Int32 × ea_H) := BX11_set_0 x1 h
theorem sX11_set {d : Nat} {x1 : Int32} {h : ea_H} {r : Int32} {h' : ea_H} (hd : 2 ≤ d) (hs : ShC h) (K : qX11_set x1 h = some (r, h')) : ea_Met mX11_set d [vR (some 0), vI x1] h (some (vI r)) h' := by
  unfold qX11_set at K
  have W := tBX11_set_0 hd (h0 := h) K hs
  exact ea_enter rfl (Nat.le_of_ble_eq_true rfl) W
theorem kpX11_set (x1 : Int32) (h : ea_H) : kp (ea_core h) (qX11_set x1 h) := kBX11_set_0
noncomputable def BX11_seen_0 (x1 : Int32) (x2 : Int32) (h : ea_H) : Option (Int32 × ea_H) :=
  (Option.bind (qX9_has (x1 : Int32) h) fun w1 => (if w1.1 = (0 : Int32) then (some ((0 : Int32), w1.2)) else (if x2 < (0 : Int32) then (some ((0 : Int32), w1.2)) else (if x2 ≤ (10079 : Int32) then (gd (vp_in x1 10) (gd ((ea_r w1.2 72 (Int32.toNatClampNeg x1)) = some (Option.getD (ea_r w1.2 72 (Int32.toNatClampNeg x1)) 0)) (gd (((Option.getD (ea_r w1.2 72 (Int32.toNatClampNeg x1)) 0) < ea_n w1.2 ∧ ea_c w1.2 (Option.getD (ea_r w1.2 72 (Int32.toNatClampNeg x1)) 0) = 2)) (Option.bind (qX2_learn (Option.getD (ea_r w1.2 72 (Int32.toNatClampNeg x1)) 0) ((ea_i w1.2 0 14) : Int32) (x2 : Int32) w1.2) fun w3 => (gd ((w3.1 = 0 ∨ w3.1 = 1)) (some (w3.1, w3.2))))))) else (some ((0 : Int32), w1.2))))))
theorem tBX11_seen_0 {d : Nat} {h0 : ea_H} (hd : 3 ≤ d)  {x1 : Int32} {x2 : Int32} {h : ea_H} {r : Int32} {h' : ea_H} (E : BX11_seen_0 x1 x2 h = some (r, h')) (hs : ShC h) : ea_W mX11_seen d h0 (some (vI r)) h' 0 [(0, vR (some 0)), (1, vI x1), (2, vI x2)] [] h := by
  unfold BX11_seen_0 at E
  obtain ⟨w1, Ew1, E⟩ := bd_some E
  have hsw1 : ShC w1.2 := ShC_core ((kpX9_has _ _) _ Ew1) hs
  refine ea_aload_n (pc := 0) dX11_seen_0 rfl 0 rfl ?_
  refine ea_getR (pc := 1) dX11_seen_1 ec_11 (k := 1) (Nat.le_of_ble_eq_true rfl) rfl (Or.inl ew_615) (cShC_0 hs).1 (cShC_0 hs).2.1 (rShC_0_1 hs) ?_
  refine ea_iload_n (pc := 4) dX11_seen_4 rfl 1 rfl ?_
  refine ea_callV (pc := 5) (d' := d - 1) (As := [vI x1]) (st := []) dX11_seen_5 kX9_has (sX9_has (d := d - 1) (by omega) hs Ew1) (by omega) rfl (Nat.le_of_ble_eq_true rfl) ew_704 ew_705 ew_706 (ci := 9) rfl (by decide) (cShC_5 hs).1 (cShC_5 hs).2.1 ?_
  refine ea_if_eq (pc := 8) (tgt := 22) dX11_seen_8 rfl (fun c9 => ?_) (fun c9 => ?_)
  · have E := (if_pos c9).symm.trans E
    refine ea_iconst (pc := 22) dX11_seen_22 (v := 0) rfl ?_
    exact ea_iretO (pc := 23) dX11_seen_23 rfl (ea_bn (Or.inl rfl)) E
  · have E := (if_neg c9).symm.trans E
    refine ea_iload_n (pc := 11) dX11_seen_11 rfl 2 rfl ?_
    refine ea_if_lt (pc := 12) (tgt := 22) dX11_seen_12 rfl (fun c8 => ?_) (fun c8 => ?_)
    · have E := (if_pos c8).symm.trans E
      refine ea_iconst (pc := 22) dX11_seen_22 (v := 0) rfl ?_
      exact ea_iretO (pc := 23) dX11_seen_23 rfl (ea_bn (Or.inl rfl)) E
    · have E := (if_neg c8).symm.trans E
      refine ea_iload_n (pc := 15) dX11_seen_15 rfl 2 rfl ?_
      refine ea_sipush (pc := 16) dX11_seen_16 (v := 10079) rfl ?_
      refine ea_icmp_le (pc := 19) (tgt := 24) dX11_seen_19 rfl (fun c7 => ?_) (fun c7 => ?_)
      · have E := (if_pos c7).symm.trans E
        obtain ⟨z2, E⟩ := gd_some E
        refine ea_aload_n (pc := 24) dX11_seen_24 rfl 0 rfl ?_
        refine ea_getR (pc := 25) dX11_seen_25 ec_11 (k := 9) (Nat.le_of_ble_eq_true rfl) rfl (Or.inl ew_623) (cShC_0 hsw1).1 (cShC_0 hsw1).2.1 (rShC_0_9 hsw1) ?_
        refine ea_iload_n (pc := 28) dX11_seen_28 rfl 1 rfl ?_
        obtain ⟨e4, E⟩ := gd_some E
        refine ea_aald24 (pc := 29) dX11_seen_29 (cShC_72 hsw1).1 (cShC_72 hsw1).2.1 (ea_vpl (cShC_72 hsw1).2.2 z2) rfl ?_
        refine ea_aload_n (pc := 30) dX11_seen_30 rfl 0 rfl ?_
        refine ea_getI (pc := 31) dX11_seen_31 ec_11 (k := 14) (Nat.le_of_ble_eq_true rfl) rfl (Or.inl ew_628) (cShC_0 hsw1).1 (cShC_0 hsw1).2.1 ?_
        refine ea_iload_n (pc := 34) dX11_seen_34 rfl 2 rfl ?_
        obtain ⟨f5, E⟩ := gd_some E
        obtain ⟨w3, Ew3, E⟩ := bd_some E
        have hsw3 : ShC w3.2 := ShC_core ((kpX2_learn _ _ _ _) _ Ew3) hsw1
        refine ea_deref2 e4 ?_
        refine ea_callV (pc := 35) (d' := d - 1) (As := [vI (ea_i w1.2 0 14), vI x2]) (st := []) dX11_seen_35 kX2_learn (sX2_learn (d := d - 1) (by omega) Ew3) (by omega) rfl (Nat.le_of_ble_eq_true rfl) ew_1337 ew_1338 ew_1339 (ci := 2) rfl (by decide) f5.1 f5.2 ?_
        obtain ⟨z6, E⟩ := gd_some E
        exact ea_iretO (pc := 38) dX11_seen_38 rfl (ea_bn z6) E
      · have E := (if_neg c7).symm.trans E
        refine ea_iconst (pc := 22) dX11_seen_22 (v := 0) rfl ?_
        exact ea_iretO (pc := 23) dX11_seen_23 rfl (ea_bn (Or.inl rfl)) E
theorem kBX11_seen_0  {x1 : Int32} {x2 : Int32} {h : ea_H} : kp (ea_core h) (BX11_seen_0 x1 x2 h) :=
  (kp_bind (kp_tw (kpX9_has _ _) rfl) fun w1 hcw1 => (kp_ite (kp_ret hcw1) (kp_ite (kp_ret hcw1) (kp_ite (kp_gd (kp_gd (kp_gd (kp_bind (kp_tw (kpX2_learn _ _ _ _) hcw1) fun w3 hcw3 => (kp_gd (kp_ret hcw3)))))) (kp_ret hcw1)))))
noncomputable def qX11_seen (x1 : Int32) (x2 : Int32) (h : ea_H) : Option (Int32 × ea_H) := BX11_seen_0 x1 x2 h
theorem sX11_seen {d : Nat} {x1 : Int32} {x2 : Int32} {h : ea_H} {r : Int32} {h' : ea_H} (hd : 3 ≤ d) (hs : ShC h) (K : qX11_seen x1 x2 h = some (r, h')) : ea_Met mX11_seen d [vR (some 0), vI x1, vI x2] h (some (vI r)) h' := by
  unfold qX11_seen at K
  have W := tBX11_seen_0 hd (h0 := h) K hs
  exact ea_enter rfl (Nat.le_of_ble_eq_true rfl) W
theorem kpX11_seen (x1 : Int32) (x2 : Int32) (h : ea_H) : kp (ea_core h) (qX11_seen x1 x2 h) := kBX11_seen_0
noncomputable def BX11_clock_0 (x1 : Int32) (x2 : Int32) (h : ea_H) : Option (Int32 × ea_H) :=
  (Option.bind (qX9_has (x1 : Int32) h) fun w1 => (if w1.1 = (0 : Int32) then (some (((-1000) : Int32), w1.2)) else (if Int32.toInt x2 = 0 then (gd (vp_in x1 10) (gd ((ea_r w1.2 72 (Int32.toNatClampNeg x1)) = some (Option.getD (ea_r w1.2 72 (Int32.toNatClampNeg x1)) 0)) (gd (((Option.getD (ea_r w1.2 72 (Int32.toNatClampNeg x1)) 0) < ea_n w1.2 ∧ ea_c w1.2 (Option.getD (ea_r w1.2 72 (Int32.toNatClampNeg x1)) 0) = 2)) (some ((ea_i w1.2 (Option.getD (ea_r w1.2 72 (Int32.toNatClampNeg x1)) 0) 1), w1.2))))) else (if Int32.toInt x2 = 1 then (gd (vp_in x1 10) (gd ((ea_r w1.2 72 (Int32.toNatClampNeg x1)) = some (Option.getD (ea_r w1.2 72 (Int32.toNatClampNeg x1)) 0)) (gd (((Option.getD (ea_r w1.2 72 (Int32.toNatClampNeg x1)) 0) < ea_n w1.2 ∧ ea_c w1.2 (Option.getD (ea_r w1.2 72 (Int32.toNatClampNeg x1)) 0) = 2)) (some ((ea_i w1.2 (Option.getD (ea_r w1.2 72 (Int32.toNatClampNeg x1)) 0) 2), w1.2))))) else (if Int32.toInt x2 = 2 then (gd (vp_in x1 10) (gd ((ea_r w1.2 72 (Int32.toNatClampNeg x1)) = some (Option.getD (ea_r w1.2 72 (Int32.toNatClampNeg x1)) 0)) (gd (((Option.getD (ea_r w1.2 72 (Int32.toNatClampNeg x1)) 0) < ea_n w1.2 ∧ ea_c w1.2 (Option.getD (ea_r w1.2 72 (Int32.toNatClampNeg x1)) 0) = 2)) (some ((ea_i w1.2 (Option.getD (ea_r w1.2 72 (Int32.toNatClampNeg x1)) 0) 0), w1.2))))) else (some (((-1000) : Int32), w1.2)))))))
theorem tBX11_clock_0 {d : Nat} {h0 : ea_H} (hd : 2 ≤ d)  {x1 : Int32} {x2 : Int32} {h : ea_H} {r : Int32} {h' : ea_H} (E : BX11_clock_0 x1 x2 h = some (r, h')) (hs : ShC h) : ea_W mX11_clock d h0 (some (vI r)) h' 0 [(0, vR (some 0)), (1, vI x1), (2, vI x2)] [] h := by
  unfold BX11_clock_0 at E
  obtain ⟨w1, Ew1, E⟩ := bd_some E
  have hsw1 : ShC w1.2 := ShC_core ((kpX9_has _ _) _ Ew1) hs
  refine ea_aload_n (pc := 0) dX11_clock_0 rfl 0 rfl ?_
  refine ea_getR (pc := 1) dX11_clock_1 ec_11 (k := 1) (Nat.le_of_ble_eq_true rfl) rfl (Or.inl ew_615) (cShC_0 hs).1 (cShC_0 hs).2.1 (rShC_0_1 hs) ?_
  refine ea_iload_n (pc := 4) dX11_clock_4 rfl 1 rfl ?_
  refine ea_callV (pc := 5) (d' := d - 1) (As := [vI x1]) (st := []) dX11_clock_5 kX9_has (sX9_has (d := d - 1) (by omega) hs Ew1) (by omega) rfl (Nat.le_of_ble_eq_true rfl) ew_704 ew_705 ew_706 (ci := 9) rfl (by decide) (cShC_5 hs).1 (cShC_5 hs).2.1 ?_
  refine ea_if_ne (pc := 8) (tgt := 15) dX11_clock_8 rfl (fun c11 => ?_) (fun c11 => ?_)
  · have E := (if_neg c11).symm.trans E
    refine ea_iload_n (pc := 15) dX11_clock_15 rfl 2 rfl ?_
    by_cases q16_0 : Int32.toInt x2 = 0
    · have E := (if_pos q16_0).symm.trans E
      obtain ⟨z8, E⟩ := gd_some E
      refine ea_tswIn (pc := 16) (tgt := 44) dX11_clock_16 (by rw [q16_0]; decide) (by rw [q16_0]; decide) (by rw [q16_0]; rfl) rfl ?_
      refine ea_aload_n (pc := 44) dX11_clock_44 rfl 0 rfl ?_
      refine ea_getR (pc := 45) dX11_clock_45 ec_11 (k := 9) (Nat.le_of_ble_eq_true rfl) rfl (Or.inl ew_623) (cShC_0 hsw1).1 (cShC_0 hsw1).2.1 (rShC_0_9 hsw1) ?_
      refine ea_iload_n (pc := 48) dX11_clock_48 rfl 1 rfl ?_
      obtain ⟨e9, E⟩ := gd_some E
      refine ea_aald24 (pc := 49) dX11_clock_49 (cShC_72 hsw1).1 (cShC_72 hsw1).2.1 (ea_vpl (cShC_72 hsw1).2.2 z8) rfl ?_
      obtain ⟨f10, E⟩ := gd_some E
      refine ea_deref0 e9 ?_
      refine ea_getI (pc := 50) dX11_clock_50 ec_2 (k := 1) (Nat.le_of_ble_eq_true rfl) rfl (Or.inl ew_604) f10.1 f10.2 ?_
      exact ea_iretO (pc := 53) dX11_clock_53 rfl rfl E
    have E := (if_neg q16_0).symm.trans E
    by_cases q16_1 : Int32.toInt x2 = 1
    · have E := (if_pos q16_1).symm.trans E
      obtain ⟨z5, E⟩ := gd_some E
      refine ea_tswIn (pc := 16) (tgt := 54) dX11_clock_16 (by rw [q16_1]; decide) (by rw [q16_1]; decide) (by rw [q16_1]; rfl) rfl ?_
      refine ea_aload_n (pc := 54) dX11_clock_54 rfl 0 rfl ?_
      refine ea_getR (pc := 55) dX11_clock_55 ec_11 (k := 9) (Nat.le_of_ble_eq_true rfl) rfl (Or.inl ew_623) (cShC_0 hsw1).1 (cShC_0 hsw1).2.1 (rShC_0_9 hsw1) ?_
      refine ea_iload_n (pc := 58) dX11_clock_58 rfl 1 rfl ?_
      obtain ⟨e6, E⟩ := gd_some E
      refine ea_aald24 (pc := 59) dX11_clock_59 (cShC_72 hsw1).1 (cShC_72 hsw1).2.1 (ea_vpl (cShC_72 hsw1).2.2 z5) rfl ?_
      obtain ⟨f7, E⟩ := gd_some E
      refine ea_deref0 e6 ?_
      refine ea_getI (pc := 60) dX11_clock_60 ec_2 (k := 2) (Nat.le_of_ble_eq_true rfl) rfl (Or.inl ew_606) f7.1 f7.2 ?_
      exact ea_iretO (pc := 63) dX11_clock_63 rfl rfl E
    have E := (if_neg q16_1).symm.trans E
    by_cases q16_2 : Int32.toInt x2 = 2
    · have E := (if_pos q16_2).symm.trans E
      obtain ⟨z2, E⟩ := gd_some E
      refine ea_tswIn (pc := 16) (tgt := 64) dX11_clock_16 (by rw [q16_2]; decide) (by rw [q16_2]; decide) (by rw [q16_2]; rfl) rfl ?_
      refine ea_aload_n (pc := 64) dX11_clock_64 rfl 0 rfl ?_
      refine ea_getR (pc := 65) dX11_clock_65 ec_11 (k := 9) (Nat.le_of_ble_eq_true rfl) rfl (Or.inl ew_623) (cShC_0 hsw1).1 (cShC_0 hsw1).2.1 (rShC_0_9 hsw1) ?_
      refine ea_iload_n (pc := 68) dX11_clock_68 rfl 1 rfl ?_
      obtain ⟨e3, E⟩ := gd_some E
      refine ea_aald24 (pc := 69) dX11_clock_69 (cShC_72 hsw1).1 (cShC_72 hsw1).2.1 (ea_vpl (cShC_72 hsw1).2.2 z2) rfl ?_
      obtain ⟨f4, E⟩ := gd_some E
      refine ea_deref0 e3 ?_
      refine ea_getI (pc := 70) dX11_clock_70 ec_2 (k := 0) (Nat.le_of_ble_eq_true rfl) rfl (Or.inl ew_602) f4.1 f4.2 ?_
      exact ea_iretO (pc := 73) dX11_clock_73 rfl rfl E
    have E := (if_neg q16_2).symm.trans E
    refine ea_tswOut (pc := 16) (tgt := 74) dX11_clock_16 (ea_sw_0_2 q16_0 q16_1 q16_2) rfl ?_
    refine ea_sipush (pc := 74) dX11_clock_74 (v := (-1000)) rfl ?_
    exact ea_iretO (pc := 77) dX11_clock_77 rfl rfl E
  · have E := (if_pos c11).symm.trans E
    refine ea_sipush (pc := 11) dX11_clock_11 (v := (-1000)) rfl ?_
    exact ea_iretO (pc := 14) dX11_clock_14 rfl rfl E
theorem kBX11_clock_0  {x1 : Int32} {x2 : Int32} {h : ea_H} : kp (ea_core h) (BX11_clock_0 x1 x2 h) :=
  (kp_bind (kp_tw (kpX9_has _ _) rfl) fun w1 hcw1 => (kp_ite (kp_ret hcw1) (kp_ite (kp_gd (kp_gd (kp_gd (kp_ret hcw1)))) (kp_ite (kp_gd (kp_gd (kp_gd (kp_ret hcw1)))) (kp_ite (kp_gd (kp_gd (kp_gd (kp_ret hcw1)))) (kp_ret hcw1))))))
noncomputable def qX11_clock (x1 : Int32) (x2 : Int32) (h : ea_H) : Option (Int32 × ea_H) := BX11_clock_0 x1 x2 h
theorem sX11_clock {d : Nat} {x1 : Int32} {x2 : Int32} {h : ea_H} {r : Int32} {h' : ea_H} (hd : 2 ≤ d) (hs : ShC h) (K : qX11_clock x1 x2 h = some (r, h')) : ea_Met mX11_clock d [vR (some 0), vI x1, vI x2] h (some (vI r)) h' := by
  unfold qX11_clock at K
  have W := tBX11_clock_0 hd (h0 := h) K hs
  exact ea_enter rfl (Nat.le_of_ble_eq_true rfl) W
theorem kpX11_clock (x1 : Int32) (x2 : Int32) (h : ea_H) : kp (ea_core h) (qX11_clock x1 x2 h) := kBX11_clock_0
