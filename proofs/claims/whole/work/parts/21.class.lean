/-! the class, 1 -/
noncomputable def BX3_sortsOne_0 (J2 : Int32 → Int32 → Int32 → ea_H → Option (Int32 × ea_H)) (x1 : Int32) (x2 : Int32) (h : ea_H) : Option (Int32 × ea_H) :=
  (J2 (x1 : Int32) (x2 : Int32) (0 : Int32) h)
theorem tBX3_sortsOne_0 {d : Nat} {h0 : ea_H} (hd : 1 ≤ d) {J2 : Int32 → Int32 → Int32 → ea_H → Option (Int32 × ea_H)}  (kJ2 : ∀ (x1 : Int32) (x2 : Int32) (x3 : Int32) (h : ea_H) (r : Int32) (h' : ea_H), J2 x1 x2 x3 h = some (r, h') → ShC h → ea_W mX3_sortsOne d h0 (some (vI r)) h' 2 [(0, vR (some 18)), (1, vI x1), (2, vI x2), (3, vI x3)] [] h) {x1 : Int32} {x2 : Int32} {h : ea_H} {r : Int32} {h' : ea_H} (E : BX3_sortsOne_0 J2 x1 x2 h = some (r, h')) (hs : ShC h) : ea_W mX3_sortsOne d h0 (some (vI r)) h' 0 [(0, vR (some 18)), (1, vI x1), (2, vI x2)] [] h := by
  unfold BX3_sortsOne_0 at E
  refine ea_iconst (pc := 0) dX3_sortsOne_0 (v := 0) rfl ?_
  refine ea_istore_n (pc := 1) (lv' := [(0, vR (some 18)), (1, vI x1), (2, vI x2), (3, vI 0)]) dX3_sortsOne_1 rfl (Nat.le_of_ble_eq_true rfl) [1, 2, 3, 0] rfl ?_
  exact (kJ2 (x1 : Int32) (x2 : Int32) (0 : Int32) h _ _ E hs)
theorem kBX3_sortsOne_0 {J2 : Int32 → Int32 → Int32 → ea_H → Option (Int32 × ea_H)}  (cJ2 : ∀ (x1 : Int32) (x2 : Int32) (x3 : Int32) (h : ea_H), kp (ea_core h) (J2 x1 x2 x3 h)) {x1 : Int32} {x2 : Int32} {h : ea_H} : kp (ea_core h) (BX3_sortsOne_0 J2 x1 x2 h) :=
  (kp_tw (cJ2 _ _ _ _) rfl)
theorem lBX3_sortsOne_0 {J2 : Int32 → Int32 → Int32 → ea_H → Option (Int32 × ea_H)} {J2_ : Int32 → Int32 → Int32 → ea_H → Option (Int32 × ea_H)}  (mJ2 : ∀ (x1 : Int32) (x2 : Int32) (x3 : Int32) (h : ea_H), fle (J2 x1 x2 x3 h) (J2_ x1 x2 x3 h)) {x1 : Int32} {x2 : Int32} {h : ea_H} : fle (BX3_sortsOne_0 J2 x1 x2 h) (BX3_sortsOne_0 J2_ x1 x2 h) :=
  (mJ2 _ _ _ _)
theorem nBX3_sortsOne_0 {J2 : Int32 → Int32 → Int32 → ea_H → Option (Int32 × ea_H)} {J2_ : Nat → (Int32 → Int32 → Int32 → ea_H → Option (Int32 × ea_H))}  (mJ2 : ∀ (x1 : Int32) (x2 : Int32) (x3 : Int32) (h : ea_H), fct (J2 x1 x2 x3 h) (fun f => J2_ f x1 x2 x3 h)) {x1 : Int32} {x2 : Int32} {h : ea_H} : fct (BX3_sortsOne_0 J2 x1 x2 h) (fun f => BX3_sortsOne_0 (J2_ f) x1 x2 h) :=
  (mJ2 _ _ _ _)
noncomputable def BX3_sortsOne_2 (J2 : Int32 → Int32 → Int32 → ea_H → Option (Int32 × ea_H)) (x1 : Int32) (x2 : Int32) (x3 : Int32) (h : ea_H) : Option (Int32 × ea_H) :=
  (if (ea_i h 18 0) ≤ x3 then (some ((0 : Int32), h)) else (gd (vp_in x3 8) (if (ea_i h 19 (Int32.toNatClampNeg x3)) = x1 then (gd (vp_in x3 8) (if (ea_i h 22 (Int32.toNatClampNeg x3)) ≤ (0 : Int32) then (J2 (x1 : Int32) (x2 : Int32) ((x3 + (1 : Int32)) : Int32) h) else (gd (vp_in x3 8) (if (((ea_i h 21 (Int32.toNatClampNeg x3)) >>> (x2 &&& 31)) &&& (1 : Int32)) = (1 : Int32) then (gd (vp_in x3 8) (gd (vp_in x3 8) (ea_let (ea_wi h 22 (Int32.toNatClampNeg x3) ((ea_i h 22 (Int32.toNatClampNeg x3)) - (1 : Int32))) fun H6 => (some ((1 : Int32), H6))))) else (J2 (x1 : Int32) (x2 : Int32) ((x3 + (1 : Int32)) : Int32) h))))) else (J2 (x1 : Int32) (x2 : Int32) ((x3 + (1 : Int32)) : Int32) h))))
theorem tBX3_sortsOne_2 {d : Nat} {h0 : ea_H} (hd : 1 ≤ d) {J2 : Int32 → Int32 → Int32 → ea_H → Option (Int32 × ea_H)}  (kJ2 : ∀ (x1 : Int32) (x2 : Int32) (x3 : Int32) (h : ea_H) (r : Int32) (h' : ea_H), J2 x1 x2 x3 h = some (r, h') → ShC h → ea_W mX3_sortsOne d h0 (some (vI r)) h' 2 [(0, vR (some 18)), (1, vI x1), (2, vI x2), (3, vI x3)] [] h) {x1 : Int32} {x2 : Int32} {x3 : Int32} {h : ea_H} {r : Int32} {h' : ea_H} (E : BX3_sortsOne_2 J2 x1 x2 x3 h = some (r, h')) (hs : ShC h) : ea_W mX3_sortsOne d h0 (some (vI r)) h' 2 [(0, vR (some 18)), (1, vI x1), (2, vI x2), (3, vI x3)] [] h := by
  unfold BX3_sortsOne_2 at E
  refine ea_iload_n (pc := 2) dX3_sortsOne_2 rfl 3 rfl ?_
  refine ea_aload_n (pc := 3) dX3_sortsOne_3 rfl 0 rfl ?_
  refine ea_getI (pc := 4) dX3_sortsOne_4 ec_3 (k := 0) (Nat.le_of_ble_eq_true rfl) rfl (Or.inl ew_264) (cShC_18 hs).1 (cShC_18 hs).2.1 ?_
  refine ea_icmp_ge (pc := 7) (tgt := 61) dX3_sortsOne_7 rfl (fun c10 => ?_) (fun c10 => ?_)
  · have E := (if_pos c10).symm.trans E
    refine ea_iconst (pc := 61) dX3_sortsOne_61 (v := 0) rfl ?_
    exact ea_iretO (pc := 62) dX3_sortsOne_62 rfl (ea_bn (Or.inl rfl)) E
  · have E := (if_neg c10).symm.trans E
    obtain ⟨z1, E⟩ := gd_some E
    refine ea_aload_n (pc := 10) dX3_sortsOne_10 rfl 0 rfl ?_
    refine ea_getR (pc := 11) dX3_sortsOne_11 ec_3 (k := 1) (Nat.le_of_ble_eq_true rfl) rfl (Or.inl ew_266) (cShC_18 hs).1 (cShC_18 hs).2.1 (rShC_18_1 hs) ?_
    refine ea_iload_n (pc := 14) dX3_sortsOne_14 rfl 3 rfl ?_
    refine ea_iald (pc := 15) dX3_sortsOne_15 (cShC_19 hs).1 (cShC_19 hs).2.1 (ea_vpl (cShC_19 hs).2.2 z1) ?_
    refine ea_iload_n (pc := 16) dX3_sortsOne_16 rfl 1 rfl ?_
    refine ea_icmp_ne (pc := 17) (tgt := 55) dX3_sortsOne_17 rfl (fun c9 => ?_) (fun c9 => ?_)
    · have E := (if_neg c9).symm.trans E
      refine ea_iinc (pc := 55) (v := 1) (lv' := [(0, vR (some 18)), (1, vI x1), (2, vI x2), (3, vI (x3 + (1 : Int32)))]) dX3_sortsOne_55 3 rfl rfl (Nat.le_of_ble_eq_true rfl) [1, 2, 3, 0] rfl ?_
      refine ea_goto (pc := 58) (tgt := 2) dX3_sortsOne_58 rfl ?_
      exact (kJ2 (x1 : Int32) (x2 : Int32) ((x3 + (1 : Int32)) : Int32) h _ _ E hs)
    · have E := (if_pos c9).symm.trans E
      obtain ⟨z2, E⟩ := gd_some E
      refine ea_aload_n (pc := 20) dX3_sortsOne_20 rfl 0 rfl ?_
      refine ea_getR (pc := 21) dX3_sortsOne_21 ec_3 (k := 4) (Nat.le_of_ble_eq_true rfl) rfl (Or.inl ew_270) (cShC_18 hs).1 (cShC_18 hs).2.1 (rShC_18_4 hs) ?_
      refine ea_iload_n (pc := 24) dX3_sortsOne_24 rfl 3 rfl ?_
      refine ea_iald (pc := 25) dX3_sortsOne_25 (cShC_22 hs).1 (cShC_22 hs).2.1 (ea_vpl (cShC_22 hs).2.2 z2) ?_
      refine ea_if_le (pc := 26) (tgt := 55) dX3_sortsOne_26 rfl (fun c8 => ?_) (fun c8 => ?_)
      · have E := (if_pos c8).symm.trans E
        refine ea_iinc (pc := 55) (v := 1) (lv' := [(0, vR (some 18)), (1, vI x1), (2, vI x2), (3, vI (x3 + (1 : Int32)))]) dX3_sortsOne_55 3 rfl rfl (Nat.le_of_ble_eq_true rfl) [1, 2, 3, 0] rfl ?_
        refine ea_goto (pc := 58) (tgt := 2) dX3_sortsOne_58 rfl ?_
        exact (kJ2 (x1 : Int32) (x2 : Int32) ((x3 + (1 : Int32)) : Int32) h _ _ E hs)
      · have E := (if_neg c8).symm.trans E
        obtain ⟨z3, E⟩ := gd_some E
        refine ea_aload_n (pc := 29) dX3_sortsOne_29 rfl 0 rfl ?_
        refine ea_getR (pc := 30) dX3_sortsOne_30 ec_3 (k := 3) (Nat.le_of_ble_eq_true rfl) rfl (Or.inl ew_269) (cShC_18 hs).1 (cShC_18 hs).2.1 (rShC_18_3 hs) ?_
        refine ea_iload_n (pc := 33) dX3_sortsOne_33 rfl 3 rfl ?_
        refine ea_iald (pc := 34) dX3_sortsOne_34 (cShC_21 hs).1 (cShC_21 hs).2.1 (ea_vpl (cShC_21 hs).2.2 z3) ?_
        refine ea_iload_n (pc := 35) dX3_sortsOne_35 rfl 2 rfl ?_
        refine ea_ishr (pc := 36) dX3_sortsOne_36 ?_
        refine ea_iconst (pc := 37) dX3_sortsOne_37 (v := 1) rfl ?_
        refine ea_iand (pc := 38) dX3_sortsOne_38 ?_
        refine ea_iconst (pc := 39) dX3_sortsOne_39 (v := 1) rfl ?_
        refine ea_icmp_ne (pc := 40) (tgt := 55) dX3_sortsOne_40 rfl (fun c7 => ?_) (fun c7 => ?_)
        · have E := (if_neg c7).symm.trans E
          refine ea_iinc (pc := 55) (v := 1) (lv' := [(0, vR (some 18)), (1, vI x1), (2, vI x2), (3, vI (x3 + (1 : Int32)))]) dX3_sortsOne_55 3 rfl rfl (Nat.le_of_ble_eq_true rfl) [1, 2, 3, 0] rfl ?_
          refine ea_goto (pc := 58) (tgt := 2) dX3_sortsOne_58 rfl ?_
          exact (kJ2 (x1 : Int32) (x2 : Int32) ((x3 + (1 : Int32)) : Int32) h _ _ E hs)
        · have E := (if_pos c7).symm.trans E
          obtain ⟨z4, E⟩ := gd_some E
          refine ea_aload_n (pc := 43) dX3_sortsOne_43 rfl 0 rfl ?_
          refine ea_getR (pc := 44) dX3_sortsOne_44 ec_3 (k := 4) (Nat.le_of_ble_eq_true rfl) rfl (Or.inl ew_270) (cShC_18 hs).1 (cShC_18 hs).2.1 (rShC_18_4 hs) ?_
          refine ea_iload_n (pc := 47) dX3_sortsOne_47 rfl 3 rfl ?_
          refine ea_dup2 (pc := 48) dX3_sortsOne_48 rfl rfl ?_
          obtain ⟨z5, E⟩ := gd_some E
          refine ea_iald (pc := 49) dX3_sortsOne_49 (cShC_22 hs).1 (cShC_22 hs).2.1 (ea_vpl (cShC_22 hs).2.2 z4) ?_
          refine ea_iconst (pc := 50) dX3_sortsOne_50 (v := 1) rfl ?_
          refine ea_isub (pc := 51) dX3_sortsOne_51 ?_
          obtain ⟨H6, eH6, E⟩ := let_some E
          refine ea_iast (pc := 52) dX3_sortsOne_52 (cShC_22 hs).1 (cShC_22 hs).2.1 (ea_vpl (cShC_22 hs).2.2 z5) ?_
          refine ea_nm eH6 ?_
          have hsH6 : ShC H6 := by rw [eH6]; exact hs
          refine ea_iconst (pc := 53) dX3_sortsOne_53 (v := 1) rfl ?_
          exact ea_iretO (pc := 54) dX3_sortsOne_54 rfl (ea_bn (Or.inr rfl)) E
theorem kBX3_sortsOne_2 {J2 : Int32 → Int32 → Int32 → ea_H → Option (Int32 × ea_H)}  (cJ2 : ∀ (x1 : Int32) (x2 : Int32) (x3 : Int32) (h : ea_H), kp (ea_core h) (J2 x1 x2 x3 h)) {x1 : Int32} {x2 : Int32} {x3 : Int32} {h : ea_H} : kp (ea_core h) (BX3_sortsOne_2 J2 x1 x2 x3 h) :=
  (kp_ite (kp_ret rfl) (kp_gd (kp_ite (kp_gd (kp_ite (kp_tw (cJ2 _ _ _ _) rfl) (kp_gd (kp_ite (kp_gd (kp_gd (kp_let (kp_ret rfl)))) (kp_tw (cJ2 _ _ _ _) rfl))))) (kp_tw (cJ2 _ _ _ _) rfl))))
theorem lBX3_sortsOne_2 {J2 : Int32 → Int32 → Int32 → ea_H → Option (Int32 × ea_H)} {J2_ : Int32 → Int32 → Int32 → ea_H → Option (Int32 × ea_H)}  (mJ2 : ∀ (x1 : Int32) (x2 : Int32) (x3 : Int32) (h : ea_H), fle (J2 x1 x2 x3 h) (J2_ x1 x2 x3 h)) {x1 : Int32} {x2 : Int32} {x3 : Int32} {h : ea_H} : fle (BX3_sortsOne_2 J2 x1 x2 x3 h) (BX3_sortsOne_2 J2_ x1 x2 x3 h) :=
  (fle_ite (fle_rfl _) (fle_gd (fle_ite (fle_gd (fle_ite (mJ2 _ _ _ _) (fle_gd (fle_ite (fle_rfl _) (mJ2 _ _ _ _))))) (mJ2 _ _ _ _))))
theorem nBX3_sortsOne_2 {J2 : Int32 → Int32 → Int32 → ea_H → Option (Int32 × ea_H)} {J2_ : Nat → (Int32 → Int32 → Int32 → ea_H → Option (Int32 × ea_H))}  (mJ2 : ∀ (x1 : Int32) (x2 : Int32) (x3 : Int32) (h : ea_H), fct (J2 x1 x2 x3 h) (fun f => J2_ f x1 x2 x3 h)) {x1 : Int32} {x2 : Int32} {x3 : Int32} {h : ea_H} : fct (BX3_sortsOne_2 J2 x1 x2 x3 h) (fun f => BX3_sortsOne_2 (J2_ f) x1 x2 x3 h) :=
  (fct_ite (fct_rfl _) (fct_gd (fct_ite (fct_gd (fct_ite (mJ2 _ _ _ _) (fct_gd (fct_ite (fct_rfl _) (mJ2 _ _ _ _))))) (mJ2 _ _ _ _))))
noncomputable def gX3_sortsOne : Nat → (Int32 → Int32 → ea_H → Option (Int32 × ea_H)) × (Int32 → Int32 → Int32 → ea_H → Option (Int32 × ea_H))
  | 0 => (fun _ _ _ => none, fun _ _ _ _ => none)
  | f + 1 => (BX3_sortsOne_0 (gX3_sortsOne f).2, BX3_sortsOne_2 (gX3_sortsOne f).2)
theorem mgX3_sortsOne : ∀ f : Nat, (∀ (x1 : Int32) (x2 : Int32) (h : ea_H), fle ((gX3_sortsOne f).1 x1 x2 h) ((gX3_sortsOne (f + 1)).1 x1 x2 h)) ∧ (∀ (x1 : Int32) (x2 : Int32) (x3 : Int32) (h : ea_H), fle ((gX3_sortsOne f).2 x1 x2 x3 h) ((gX3_sortsOne (f + 1)).2 x1 x2 x3 h)) := by
  intro f
  induction f with
  | zero => exact ⟨fun _ _ _ => fle_none _, fun _ _ _ _ => fle_none _⟩
  | succ f ih => exact ⟨fun _ _ _ => lBX3_sortsOne_0 ih.2, fun _ _ _ _ => lBX3_sortsOne_2 ih.2⟩
noncomputable def qX3_sortsOne_0 (x1 : Int32) (x2 : Int32) (h : ea_H) : Option (Int32 × ea_H) := flim fun f => (gX3_sortsOne f).1 x1 x2 h
noncomputable def qX3_sortsOne_2 (x1 : Int32) (x2 : Int32) (x3 : Int32) (h : ea_H) : Option (Int32 × ea_H) := flim fun f => (gX3_sortsOne f).2 x1 x2 x3 h
theorem fqX3_sortsOne_0 (x1 : Int32) (x2 : Int32) (h : ea_H) : fct (qX3_sortsOne_0 x1 x2 h) fun f => (gX3_sortsOne f).1 x1 x2 h := flim_ct fun f => (mgX3_sortsOne f).1 x1 x2 h
theorem fqX3_sortsOne_2 (x1 : Int32) (x2 : Int32) (x3 : Int32) (h : ea_H) : fct (qX3_sortsOne_2 x1 x2 x3 h) fun f => (gX3_sortsOne f).2 x1 x2 x3 h := flim_ct fun f => (mgX3_sortsOne f).2 x1 x2 x3 h
/-- how a block opens -/
theorem uqX3_sortsOne_0 {x1 : Int32} {x2 : Int32} {h : ea_H} {P : Int32 × ea_H → Prop} (H : sat (BX3_sortsOne_0 qX3_sortsOne_2 x1 x2 h) P) : sat (qX3_sortsOne_0 x1 x2 h) P := by
  obtain ⟨x, e, hp⟩ := H
  obtain ⟨n, hn⟩ := nBX3_sortsOne_0 fqX3_sortsOne_2 x e
  exact ⟨x, flim_at (fun f => (mgX3_sortsOne f).1 x1 x2 h) (f := n + 1) (hn n (Nat.le_refl _)), hp⟩
/-- how a block opens -/
theorem uqX3_sortsOne_2 {x1 : Int32} {x2 : Int32} {x3 : Int32} {h : ea_H} {P : Int32 × ea_H → Prop} (H : sat (BX3_sortsOne_2 qX3_sortsOne_2 x1 x2 x3 h) P) : sat (qX3_sortsOne_2 x1 x2 x3 h) P := by
  obtain ⟨x, e, hp⟩ := H
  obtain ⟨n, hn⟩ := nBX3_sortsOne_2 fqX3_sortsOne_2 x e
  exact ⟨x, flim_at (fun f => (mgX3_sortsOne f).2 x1 x2 x3 h) (f := n + 1) (hn n (Nat.le_refl _)), hp⟩
theorem kgX3_sortsOne : ∀ f : Nat, (∀ (x1 : Int32) (x2 : Int32) (h : ea_H), kp (ea_core h) ((gX3_sortsOne f).1 x1 x2 h)) ∧ (∀ (x1 : Int32) (x2 : Int32) (x3 : Int32) (h : ea_H), kp (ea_core h) ((gX3_sortsOne f).2 x1 x2 x3 h)) := by
  intro f
  induction f with
  | zero => exact ⟨fun _ _ _ => kp_none _, fun _ _ _ _ => kp_none _⟩
  | succ f ih => exact ⟨fun _ _ _ => kBX3_sortsOne_0 ih.2, fun _ _ _ _ => kBX3_sortsOne_2 ih.2⟩
theorem tgX3_sortsOne {d : Nat} {h0 : ea_H} (hd : 1 ≤ d) : ∀ f : Nat, (∀ (x1 : Int32) (x2 : Int32) (h : ea_H) (r : Int32) (h' : ea_H), (gX3_sortsOne f).1 x1 x2 h = some (r, h') → ShC h → ea_W mX3_sortsOne d h0 (some (vI r)) h' 0 [(0, vR (some 18)), (1, vI x1), (2, vI x2)] [] h) ∧ (∀ (x1 : Int32) (x2 : Int32) (x3 : Int32) (h : ea_H) (r : Int32) (h' : ea_H), (gX3_sortsOne f).2 x1 x2 x3 h = some (r, h') → ShC h → ea_W mX3_sortsOne d h0 (some (vI r)) h' 2 [(0, vR (some 18)), (1, vI x1), (2, vI x2), (3, vI x3)] [] h) := by
  intro f
  induction f with
  | zero => exact ⟨fun _ _ _ _ _ E => no_some E, fun _ _ _ _ _ _ E => no_some E⟩
  | succ f ih => exact ⟨fun _ _ _ _ _ E hs => tBX3_sortsOne_0 hd ih.2 E hs, fun _ _ _ _ _ _ E hs => tBX3_sortsOne_2 hd ih.2 E hs⟩
noncomputable def qX3_sortsOne (x1 : Int32) (x2 : Int32) (h : ea_H) : Option (Int32 × ea_H) := qX3_sortsOne_0 x1 x2 h
theorem sX3_sortsOne {d : Nat} {x1 : Int32} {x2 : Int32} {h : ea_H} {r : Int32} {h' : ea_H} (hd : 1 ≤ d) (hs : ShC h) (K : qX3_sortsOne x1 x2 h = some (r, h')) : ea_Met mX3_sortsOne d [vR (some 18), vI x1, vI x2] h (some (vI r)) h' := by
  unfold qX3_sortsOne at K
  obtain ⟨n, hn⟩ := fqX3_sortsOne_0 x1 x2 h _ K
  have W := (tgX3_sortsOne (d := d) (h0 := h) hd n).1 x1 x2 h _ _ (hn n (Nat.le_refl _)) hs
  exact ea_enter rfl (Nat.le_of_ble_eq_true rfl) W
theorem kpX3_sortsOne (x1 : Int32) (x2 : Int32) (h : ea_H) : kp (ea_core h) (qX3_sortsOne x1 x2 h) := fun x e => by
  obtain ⟨n, hn⟩ := fqX3_sortsOne_0 x1 x2 h x e
  exact (kgX3_sortsOne n).1 x1 x2 h x (hn n (Nat.le_refl _))
noncomputable def BX4_init_0 (a0 : Nat) (r1 : Option Nat) (r2 : Option Nat) (r3 : Option Nat) (h : ea_H) : Option (Unit × ea_H) :=
  (ea_let (ea_new h 22 2240 2240) fun H1 => (gd ((a0 < ea_n H1 ∧ ea_c H1 a0 = 4)) (ea_let (ea_wr H1 a0 0 (some (ea_n h))) fun H3 => (gd ((a0 < ea_n H3 ∧ ea_c H3 a0 = 4)) (ea_let (ea_wr H3 a0 1 r1) fun H5 => (gd ((a0 < ea_n H5 ∧ ea_c H5 a0 = 4)) (ea_let (ea_wr H5 a0 2 r2) fun H7 => (gd ((a0 < ea_n H7 ∧ ea_c H7 a0 = 4)) (ea_let (ea_wr H7 a0 3 r3) fun H9 => (some ((), H9)))))))))))
theorem tBX4_init_0 {d : Nat} {a0 : Nat} {h0 : ea_H} (hd : 2 ≤ d)  {r1 : Option Nat} {r2 : Option Nat} {r3 : Option Nat} {h : ea_H} {r : Unit} {h' : ea_H} (E : BX4_init_0 a0 r1 r2 r3 h = some (r, h')) : ea_W mX4_init d h0 none h' 0 [(0, vR (some a0)), (1, vR r1), (2, vR r2), (3, vR r3)] [] h := by
  unfold BX4_init_0 at E
  obtain ⟨H1, eH1, E⟩ := let_some E
  refine ea_aload_n (pc := 0) dX4_init_0 rfl 0 rfl ?_
  refine ea_objInit (pc := 1) dX4_init_1 ew_421 ew_141 ew_142 (by omega) (Nat.le_of_ble_eq_true rfl) ?_
  refine ea_aload_n (pc := 4) dX4_init_4 rfl 0 rfl ?_
  refine ea_sipush (pc := 5) dX4_init_5 (v := 2240) rfl ?_
  refine ea_newJ (pc := 8) (N := 2240) dX4_init_8 ew_257 (by decide) rfl (Nat.le_of_ble_eq_true rfl) ?_
  refine ea_nm eH1 ?_
  obtain ⟨f2, E⟩ := gd_some E
  obtain ⟨H3, eH3, E⟩ := let_some E
  refine ea_putR (pc := 10) dX4_init_10 ec_4 (k := 0) (Nat.le_of_ble_eq_true rfl) rfl (Or.inr ⟨rfl, rfl, rfl, ew_422⟩) f2.1 f2.2 ?_
  refine ea_nm eH3 ?_
  obtain ⟨f4, E⟩ := gd_some E
  refine ea_aload_n (pc := 13) dX4_init_13 rfl 0 rfl ?_
  refine ea_aload_n (pc := 14) dX4_init_14 rfl 1 rfl ?_
  obtain ⟨H5, eH5, E⟩ := let_some E
  refine ea_putR (pc := 15) dX4_init_15 ec_4 (k := 1) (Nat.le_of_ble_eq_true rfl) rfl (Or.inr ⟨rfl, rfl, rfl, ew_423⟩) f4.1 f4.2 ?_
  refine ea_nm eH5 ?_
  obtain ⟨f6, E⟩ := gd_some E
  refine ea_aload_n (pc := 18) dX4_init_18 rfl 0 rfl ?_
  refine ea_aload_n (pc := 19) dX4_init_19 rfl 2 rfl ?_
  obtain ⟨H7, eH7, E⟩ := let_some E
  refine ea_putR (pc := 20) dX4_init_20 ec_4 (k := 2) (Nat.le_of_ble_eq_true rfl) rfl (Or.inr ⟨rfl, rfl, rfl, ew_424⟩) f6.1 f6.2 ?_
  refine ea_nm eH7 ?_
  obtain ⟨f8, E⟩ := gd_some E
  refine ea_aload_n (pc := 23) dX4_init_23 rfl 0 rfl ?_
  refine ea_aload_n (pc := 24) dX4_init_24 rfl 3 rfl ?_
  obtain ⟨H9, eH9, E⟩ := let_some E
  refine ea_putR (pc := 25) dX4_init_25 ec_4 (k := 3) (Nat.le_of_ble_eq_true rfl) rfl (Or.inr ⟨rfl, rfl, rfl, ew_425⟩) f8.1 f8.2 ?_
  refine ea_nm eH9 ?_
  exact ea_vretO (pc := 28) dX4_init_28 rfl E
noncomputable def qX4_init (a0 : Nat) (r1 : Option Nat) (r2 : Option Nat) (r3 : Option Nat) (h : ea_H) : Option (Unit × ea_H) := BX4_init_0 a0 r1 r2 r3 h
theorem sX4_init {d : Nat} {a0 : Nat} {r1 : Option Nat} {r2 : Option Nat} {r3 : Option Nat} {h : ea_H} {r : Unit} {h' : ea_H} (hd : 2 ≤ d) (K : qX4_init a0 r1 r2 r3 h = some (r, h')) : ea_Met mX4_init d [vR (some a0), vR r1, vR r2, vR r3] h none h' := by
  unfold qX4_init at K
  have W := tBX4_init_0 hd (h0 := h) K
  exact ea_enter rfl (Nat.le_of_ble_eq_true rfl) W
noncomputable def BX5_init_0 (a0 : Nat) (h : ea_H) : Option (Unit × ea_H) :=
  (gd ((a0 < ea_n h ∧ ea_c h a0 = 5)) (ea_let (ea_wi h a0 11 (-1)) fun H2 => (gd ((a0 < ea_n H2 ∧ ea_c H2 a0 = 5)) (ea_let (ea_wi H2 a0 12 (-1)) fun H4 => (gd ((a0 < ea_n H4 ∧ ea_c H4 a0 = 5)) (ea_let (ea_wi H4 a0 14 3) fun H6 => (ea_let (ea_new H6 20 4 4) fun H7 => (gd ((a0 < ea_n H7 ∧ ea_c H7 a0 = 5)) (ea_let (ea_wr H7 a0 19 (some (ea_n H6))) fun H9 => (some ((), H9)))))))))))
theorem tBX5_init_0 {d : Nat} {a0 : Nat} {h0 : ea_H} (hd : 2 ≤ d)  {h : ea_H} {r : Unit} {h' : ea_H} (E : BX5_init_0 a0 h = some (r, h')) : ea_W mX5_init d h0 none h' 0 [(0, vR (some a0))] [] h := by
  unfold BX5_init_0 at E
  obtain ⟨f1, E⟩ := gd_some E
  refine ea_aload_n (pc := 0) dX5_init_0 rfl 0 rfl ?_
  refine ea_objInit (pc := 1) dX5_init_1 ew_503 ew_141 ew_142 (by omega) (Nat.le_of_ble_eq_true rfl) ?_
  refine ea_aload_n (pc := 4) dX5_init_4 rfl 0 rfl ?_
  refine ea_iconst (pc := 5) dX5_init_5 (v := (-1)) rfl ?_
  obtain ⟨H2, eH2, E⟩ := let_some E
  refine ea_putI (pc := 6) dX5_init_6 ec_5 (k := 11) (Nat.le_of_ble_eq_true rfl) rfl (Or.inl ⟨rfl, Or.inl ew_534⟩) rfl rfl f1.1 f1.2 ?_
  refine ea_nm eH2 ?_
  obtain ⟨f3, E⟩ := gd_some E
  refine ea_aload_n (pc := 9) dX5_init_9 rfl 0 rfl ?_
  refine ea_iconst (pc := 10) dX5_init_10 (v := (-1)) rfl ?_
  obtain ⟨H4, eH4, E⟩ := let_some E
  refine ea_putI (pc := 11) dX5_init_11 ec_5 (k := 12) (Nat.le_of_ble_eq_true rfl) rfl (Or.inl ⟨rfl, Or.inl ew_537⟩) rfl rfl f3.1 f3.2 ?_
  refine ea_nm eH4 ?_
  obtain ⟨f5, E⟩ := gd_some E
  refine ea_aload_n (pc := 14) dX5_init_14 rfl 0 rfl ?_
  refine ea_iconst (pc := 15) dX5_init_15 (v := 3) rfl ?_
  obtain ⟨H6, eH6, E⟩ := let_some E
  refine ea_putI (pc := 16) dX5_init_16 ec_5 (k := 14) (Nat.le_of_ble_eq_true rfl) rfl (Or.inl ⟨rfl, Or.inl ew_542⟩) rfl rfl f5.1 f5.2 ?_
  refine ea_nm eH6 ?_
  obtain ⟨H7, eH7, E⟩ := let_some E
  refine ea_aload_n (pc := 19) dX5_init_19 rfl 0 rfl ?_
  refine ea_iconst (pc := 20) dX5_init_20 (v := 4) rfl ?_
  refine ea_newI (pc := 21) (N := 4) dX5_init_21 ew_177 (by decide) rfl (Nat.le_of_ble_eq_true rfl) ?_
  refine ea_nm eH7 ?_
  obtain ⟨f8, E⟩ := gd_some E
  obtain ⟨H9, eH9, E⟩ := let_some E
  refine ea_putR (pc := 23) dX5_init_23 ec_5 (k := 19) (Nat.le_of_ble_eq_true rfl) rfl (Or.inr ⟨rfl, rfl, rfl, ew_554⟩) f8.1 f8.2 ?_
  refine ea_nm eH9 ?_
  exact ea_vretO (pc := 26) dX5_init_26 rfl E
noncomputable def qX5_init (a0 : Nat) (h : ea_H) : Option (Unit × ea_H) := BX5_init_0 a0 h
theorem sX5_init {d : Nat} {a0 : Nat} {h : ea_H} {r : Unit} {h' : ea_H} (hd : 2 ≤ d) (K : qX5_init a0 h = some (r, h')) : ea_Met mX5_init d [vR (some a0)] h none h' := by
  unfold qX5_init at K
  have W := tBX5_init_0 hd (h0 := h) K
  exact ea_enter rfl (Nat.le_of_ble_eq_true rfl) W
noncomputable def BX5_begin_0 (a0 : Nat) (x1 : Int32) (x2 : Int32) (x3 : Int32) (x4 : Int32) (x5 : Int32) (x6 : Int32) (h : ea_H) : Option (Unit × ea_H) :=
  (gd ((a0 < ea_n h ∧ ea_c h a0 = 5)) (ea_let (ea_wi h a0 0 x1) fun H2 => (gd ((a0 < ea_n H2 ∧ ea_c H2 a0 = 5)) (ea_let (ea_wi H2 a0 1 x2) fun H4 => (gd ((a0 < ea_n H4 ∧ ea_c H4 a0 = 5)) (ea_let (ea_wi H4 a0 2 x3) fun H6 => (gd ((a0 < ea_n H6 ∧ ea_c H6 a0 = 5)) (ea_let (ea_wi H6 a0 3 x4) fun H8 => (gd ((a0 < ea_n H8 ∧ ea_c H8 a0 = 5)) (ea_let (ea_wi H8 a0 4 x5) fun H10 => (gd ((a0 < ea_n H10 ∧ ea_c H10 a0 = 5)) (ea_let (ea_wi H10 a0 5 x6) fun H12 => (some ((), H12))))))))))))))
theorem tBX5_begin_0 {d : Nat} {a0 : Nat} {h0 : ea_H} (hd : 1 ≤ d)  {x1 : Int32} {x2 : Int32} {x3 : Int32} {x4 : Int32} {x5 : Int32} {x6 : Int32} {h : ea_H} {r : Unit} {h' : ea_H} (E : BX5_begin_0 a0 x1 x2 x3 x4 x5 x6 h = some (r, h')) : ea_W mX5_begin d h0 none h' 0 [(0, vR (some a0)), (1, vI x1), (2, vI x2), (3, vI x3), (4, vI x4), (5, vI x5), (6, vI x6)] [] h := by
  unfold BX5_begin_0 at E
  obtain ⟨f1, E⟩ := gd_some E
  refine ea_aload_n (pc := 0) dX5_begin_0 rfl 0 rfl ?_
  refine ea_iload_n (pc := 1) dX5_begin_1 rfl 1 rfl ?_
  obtain ⟨H2, eH2, E⟩ := let_some E
  refine ea_putI (pc := 2) dX5_begin_2 ec_5 (k := 0) (Nat.le_of_ble_eq_true rfl) rfl (Or.inl ⟨rfl, Or.inl ew_504⟩) rfl rfl f1.1 f1.2 ?_
  refine ea_nm eH2 ?_
  obtain ⟨f3, E⟩ := gd_some E
  refine ea_aload_n (pc := 5) dX5_begin_5 rfl 0 rfl ?_
  refine ea_iload_n (pc := 6) dX5_begin_6 rfl 2 rfl ?_
  obtain ⟨H4, eH4, E⟩ := let_some E
  refine ea_putI (pc := 7) dX5_begin_7 ec_5 (k := 1) (Nat.le_of_ble_eq_true rfl) rfl (Or.inl ⟨rfl, Or.inl ew_507⟩) rfl rfl f3.1 f3.2 ?_
  refine ea_nm eH4 ?_
  obtain ⟨f5, E⟩ := gd_some E
  refine ea_aload_n (pc := 10) dX5_begin_10 rfl 0 rfl ?_
  refine ea_iload_n (pc := 11) dX5_begin_11 rfl 3 rfl ?_
  obtain ⟨H6, eH6, E⟩ := let_some E
  refine ea_putI (pc := 12) dX5_begin_12 ec_5 (k := 2) (Nat.le_of_ble_eq_true rfl) rfl (Or.inl ⟨rfl, Or.inl ew_510⟩) rfl rfl f5.1 f5.2 ?_
  refine ea_nm eH6 ?_
  obtain ⟨f7, E⟩ := gd_some E
  refine ea_aload_n (pc := 15) dX5_begin_15 rfl 0 rfl ?_
  refine ea_iload (pc := 16) dX5_begin_16 4 rfl ?_
  obtain ⟨H8, eH8, E⟩ := let_some E
  refine ea_putI (pc := 18) dX5_begin_18 ec_5 (k := 3) (Nat.le_of_ble_eq_true rfl) rfl (Or.inl ⟨rfl, Or.inl ew_513⟩) rfl rfl f7.1 f7.2 ?_
  refine ea_nm eH8 ?_
  obtain ⟨f9, E⟩ := gd_some E
  refine ea_aload_n (pc := 21) dX5_begin_21 rfl 0 rfl ?_
  refine ea_iload (pc := 22) dX5_begin_22 5 rfl ?_
  obtain ⟨H10, eH10, E⟩ := let_some E
  refine ea_putI (pc := 24) dX5_begin_24 ec_5 (k := 4) (Nat.le_of_ble_eq_true rfl) rfl (Or.inl ⟨rfl, Or.inl ew_516⟩) rfl rfl f9.1 f9.2 ?_
  refine ea_nm eH10 ?_
  obtain ⟨f11, E⟩ := gd_some E
  refine ea_aload_n (pc := 27) dX5_begin_27 rfl 0 rfl ?_
  refine ea_iload (pc := 28) dX5_begin_28 6 rfl ?_
  obtain ⟨H12, eH12, E⟩ := let_some E
  refine ea_putI (pc := 30) dX5_begin_30 ec_5 (k := 5) (Nat.le_of_ble_eq_true rfl) rfl (Or.inl ⟨rfl, Or.inl ew_519⟩) rfl rfl f11.1 f11.2 ?_
  refine ea_nm eH12 ?_
  exact ea_vretO (pc := 33) dX5_begin_33 rfl E
theorem kBX5_begin_0 {a0 : Nat}  {x1 : Int32} {x2 : Int32} {x3 : Int32} {x4 : Int32} {x5 : Int32} {x6 : Int32} {h : ea_H} : kp (ea_core h) (BX5_begin_0 a0 x1 x2 x3 x4 x5 x6 h) :=
  (kp_gd (kp_let (kp_gd (kp_let (kp_gd (kp_let (kp_gd (kp_let (kp_gd (kp_let (kp_gd (kp_let (kp_ret rfl)))))))))))))
noncomputable def qX5_begin (a0 : Nat) (x1 : Int32) (x2 : Int32) (x3 : Int32) (x4 : Int32) (x5 : Int32) (x6 : Int32) (h : ea_H) : Option (Unit × ea_H) := BX5_begin_0 a0 x1 x2 x3 x4 x5 x6 h
theorem sX5_begin {d : Nat} {a0 : Nat} {x1 : Int32} {x2 : Int32} {x3 : Int32} {x4 : Int32} {x5 : Int32} {x6 : Int32} {h : ea_H} {r : Unit} {h' : ea_H} (hd : 1 ≤ d) (K : qX5_begin a0 x1 x2 x3 x4 x5 x6 h = some (r, h')) : ea_Met mX5_begin d [vR (some a0), vI x1, vI x2, vI x3, vI x4, vI x5, vI x6] h none h' := by
  unfold qX5_begin at K
  have W := tBX5_begin_0 hd (h0 := h) K
  exact ea_enter rfl (Nat.le_of_ble_eq_true rfl) W
theorem kpX5_begin (a0 : Nat) (x1 : Int32) (x2 : Int32) (x3 : Int32) (x4 : Int32) (x5 : Int32) (x6 : Int32) (h : ea_H) : kp (ea_core h) (qX5_begin a0 x1 x2 x3 x4 x5 x6 h) := kBX5_begin_0
noncomputable def BX5_dayOf_0 (a0 : Nat) (h : ea_H) : Option (Int32 × ea_H) :=
  (gd ((a0 < ea_n h ∧ ea_c h a0 = 5)) (some (((ea_i h a0 6) / (1440 : Int32)), h)))
theorem tBX5_dayOf_0 {d : Nat} {a0 : Nat} {h0 : ea_H} (hd : 1 ≤ d)  {h : ea_H} {r : Int32} {h' : ea_H} (E : BX5_dayOf_0 a0 h = some (r, h')) : ea_W mX5_dayOf d h0 (some (vI r)) h' 0 [(0, vR (some a0))] [] h := by
  unfold BX5_dayOf_0 at E
  obtain ⟨f1, E⟩ := gd_some E
  refine ea_aload_n (pc := 0) dX5_dayOf_0 rfl 0 rfl ?_
  refine ea_getI (pc := 1) dX5_dayOf_1 ec_5 (k := 6) (Nat.le_of_ble_eq_true rfl) rfl (Or.inl ew_521) f1.1 f1.2 ?_
  refine ea_sipush (pc := 4) dX5_dayOf_4 (v := 1440) rfl ?_
  refine ea_idiv (pc := 7) dX5_dayOf_7 (by decide) ?_
  exact ea_iretO (pc := 8) dX5_dayOf_8 rfl rfl E
theorem kBX5_dayOf_0 {a0 : Nat}  {h : ea_H} : kp (ea_core h) (BX5_dayOf_0 a0 h) :=
  (kp_gd (kp_ret rfl))
noncomputable def qX5_dayOf (a0 : Nat) (h : ea_H) : Option (Int32 × ea_H) := BX5_dayOf_0 a0 h
theorem sX5_dayOf {d : Nat} {a0 : Nat} {h : ea_H} {r : Int32} {h' : ea_H} (hd : 1 ≤ d) (K : qX5_dayOf a0 h = some (r, h')) : ea_Met mX5_dayOf d [vR (some a0)] h (some (vI r)) h' := by
  unfold qX5_dayOf at K
  have W := tBX5_dayOf_0 hd (h0 := h) K
  exact ea_enter rfl (Nat.le_of_ble_eq_true rfl) W
theorem kpX5_dayOf (a0 : Nat) (h : ea_H) : kp (ea_core h) (qX5_dayOf a0 h) := kBX5_dayOf_0
noncomputable def BX5_owed_0 (a0 : Nat) (h : ea_H) : Option (Int32 × ea_H) :=
  (gd ((a0 < ea_n h ∧ ea_c h a0 = 5)) (if (ea_i h a0 0) = (0 : Int32) then (gd ((a0 < ea_n h ∧ ea_c h a0 = 5)) (some ((ea_i h a0 10), h))) else (gd ((a0 < ea_n h ∧ ea_c h a0 = 5)) (if (ea_i h a0 0) = (3 : Int32) then (gd ((a0 < ea_n h ∧ ea_c h a0 = 5)) (some ((ea_i h a0 10), h))) else (some ((0 : Int32), h))))))
theorem tBX5_owed_0 {d : Nat} {a0 : Nat} {h0 : ea_H} (hd : 1 ≤ d)  {h : ea_H} {r : Int32} {h' : ea_H} (E : BX5_owed_0 a0 h = some (r, h')) : ea_W mX5_owed d h0 (some (vI r)) h' 0 [(0, vR (some a0))] [] h := by
  unfold BX5_owed_0 at E
  obtain ⟨f1, E⟩ := gd_some E
  refine ea_aload_n (pc := 0) dX5_owed_0 rfl 0 rfl ?_
  refine ea_getI (pc := 1) dX5_owed_1 ec_5 (k := 0) (Nat.le_of_ble_eq_true rfl) rfl (Or.inl ew_504) f1.1 f1.2 ?_
  refine ea_if_eq (pc := 4) (tgt := 15) dX5_owed_4 rfl (fun c6 => ?_) (fun c6 => ?_)
  · have E := (if_pos c6).symm.trans E
    obtain ⟨f2, E⟩ := gd_some E
    refine ea_aload_n (pc := 15) dX5_owed_15 rfl 0 rfl ?_
    refine ea_getI (pc := 16) dX5_owed_16 ec_5 (k := 10) (Nat.le_of_ble_eq_true rfl) rfl (Or.inl ew_531) f2.1 f2.2 ?_
    refine ea_goto (pc := 19) (tgt := 23) dX5_owed_19 rfl ?_
    exact ea_iretO (pc := 23) dX5_owed_23 rfl rfl E
  · have E := (if_neg c6).symm.trans E
    obtain ⟨f3, E⟩ := gd_some E
    refine ea_aload_n (pc := 7) dX5_owed_7 rfl 0 rfl ?_
    refine ea_getI (pc := 8) dX5_owed_8 ec_5 (k := 0) (Nat.le_of_ble_eq_true rfl) rfl (Or.inl ew_504) f3.1 f3.2 ?_
    refine ea_iconst (pc := 11) dX5_owed_11 (v := 3) rfl ?_
    refine ea_icmp_ne (pc := 12) (tgt := 22) dX5_owed_12 rfl (fun c5 => ?_) (fun c5 => ?_)
    · have E := (if_neg c5).symm.trans E
      refine ea_iconst (pc := 22) dX5_owed_22 (v := 0) rfl ?_
      exact ea_iretO (pc := 23) dX5_owed_23 rfl rfl E
    · have E := (if_pos c5).symm.trans E
      obtain ⟨f4, E⟩ := gd_some E
      refine ea_aload_n (pc := 15) dX5_owed_15 rfl 0 rfl ?_
      refine ea_getI (pc := 16) dX5_owed_16 ec_5 (k := 10) (Nat.le_of_ble_eq_true rfl) rfl (Or.inl ew_531) f4.1 f4.2 ?_
      refine ea_goto (pc := 19) (tgt := 23) dX5_owed_19 rfl ?_
      exact ea_iretO (pc := 23) dX5_owed_23 rfl rfl E
theorem kBX5_owed_0 {a0 : Nat}  {h : ea_H} : kp (ea_core h) (BX5_owed_0 a0 h) :=
  (kp_gd (kp_ite (kp_gd (kp_ret rfl)) (kp_gd (kp_ite (kp_gd (kp_ret rfl)) (kp_ret rfl)))))
noncomputable def qX5_owed (a0 : Nat) (h : ea_H) : Option (Int32 × ea_H) := BX5_owed_0 a0 h
theorem sX5_owed {d : Nat} {a0 : Nat} {h : ea_H} {r : Int32} {h' : ea_H} (hd : 1 ≤ d) (K : qX5_owed a0 h = some (r, h')) : ea_Met mX5_owed d [vR (some a0)] h (some (vI r)) h' := by
  unfold qX5_owed at K
  have W := tBX5_owed_0 hd (h0 := h) K
  exact ea_enter rfl (Nat.le_of_ble_eq_true rfl) W
theorem kpX5_owed (a0 : Nat) (h : ea_H) : kp (ea_core h) (qX5_owed a0 h) := kBX5_owed_0
noncomputable def BX5_stateIn_0 (a0 : Nat) (x1 : Int32) (h : ea_H) : Option (Int32 × ea_H) :=
  (gd ((a0 < ea_n h ∧ ea_c h a0 = 5)) (if (ea_i h a0 2) = x1 then (gd ((a0 < ea_n h ∧ ea_c h a0 = 5)) (if (ea_i h a0 15) = (0 : Int32) then (some ((2 : Int32), h)) else (some ((3 : Int32), h)))) else (some ((0 : Int32), h))))
theorem tBX5_stateIn_0 {d : Nat} {a0 : Nat} {h0 : ea_H} (hd : 1 ≤ d)  {x1 : Int32} {h : ea_H} {r : Int32} {h' : ea_H} (E : BX5_stateIn_0 a0 x1 h = some (r, h')) : ea_W mX5_stateIn d h0 (some (vI r)) h' 0 [(0, vR (some a0)), (1, vI x1)] [] h := by
  unfold BX5_stateIn_0 at E
  obtain ⟨f1, E⟩ := gd_some E
  refine ea_aload_n (pc := 0) dX5_stateIn_0 rfl 0 rfl ?_
  refine ea_getI (pc := 1) dX5_stateIn_1 ec_5 (k := 2) (Nat.le_of_ble_eq_true rfl) rfl (Or.inl ew_510) f1.1 f1.2 ?_
  refine ea_iload_n (pc := 4) dX5_stateIn_4 rfl 1 rfl ?_
  refine ea_icmp_eq (pc := 5) (tgt := 10) dX5_stateIn_5 rfl (fun c4 => ?_) (fun c4 => ?_)
  · have E := (if_pos c4).symm.trans E
    obtain ⟨f2, E⟩ := gd_some E
    refine ea_aload_n (pc := 10) dX5_stateIn_10 rfl 0 rfl ?_
    refine ea_getI (pc := 11) dX5_stateIn_11 ec_5 (k := 15) (Nat.le_of_ble_eq_true rfl) rfl (Or.inl ew_545) f2.1 f2.2 ?_
    refine ea_if_eq (pc := 14) (tgt := 21) dX5_stateIn_14 rfl (fun c3 => ?_) (fun c3 => ?_)
    · have E := (if_pos c3).symm.trans E
      refine ea_iconst (pc := 21) dX5_stateIn_21 (v := 2) rfl ?_
      exact ea_iretO (pc := 22) dX5_stateIn_22 rfl rfl E
    · have E := (if_neg c3).symm.trans E
      refine ea_iconst (pc := 17) dX5_stateIn_17 (v := 3) rfl ?_
      refine ea_goto (pc := 18) (tgt := 22) dX5_stateIn_18 rfl ?_
      exact ea_iretO (pc := 22) dX5_stateIn_22 rfl rfl E
  · have E := (if_neg c4).symm.trans E
    refine ea_iconst (pc := 8) dX5_stateIn_8 (v := 0) rfl ?_
    exact ea_iretO (pc := 9) dX5_stateIn_9 rfl rfl E
theorem kBX5_stateIn_0 {a0 : Nat}  {x1 : Int32} {h : ea_H} : kp (ea_core h) (BX5_stateIn_0 a0 x1 h) :=
  (kp_gd (kp_ite (kp_gd (kp_ite (kp_ret rfl) (kp_ret rfl))) (kp_ret rfl)))
noncomputable def qX5_stateIn (a0 : Nat) (x1 : Int32) (h : ea_H) : Option (Int32 × ea_H) := BX5_stateIn_0 a0 x1 h
theorem sX5_stateIn {d : Nat} {a0 : Nat} {x1 : Int32} {h : ea_H} {r : Int32} {h' : ea_H} (hd : 1 ≤ d) (K : qX5_stateIn a0 x1 h = some (r, h')) : ea_Met mX5_stateIn d [vR (some a0), vI x1] h (some (vI r)) h' := by
  unfold qX5_stateIn at K
  have W := tBX5_stateIn_0 hd (h0 := h) K
  exact ea_enter rfl (Nat.le_of_ble_eq_true rfl) W
theorem kpX5_stateIn (a0 : Nat) (x1 : Int32) (h : ea_H) : kp (ea_core h) (qX5_stateIn a0 x1 h) := kBX5_stateIn_0
noncomputable def BX5_row_0 (x0 : Int32) (x1 : Int32) (x2 : Int32) (h : ea_H) : Option (Int32 × ea_H) :=
  (some ((((x0 <<< ((10 : Int32) &&& 31)) ||| (x1 <<< ((7 : Int32) &&& 31))) ||| x2), h))
theorem tBX5_row_0 {d : Nat} {h0 : ea_H} (hd : 1 ≤ d)  {x0 : Int32} {x1 : Int32} {x2 : Int32} {h : ea_H} {r : Int32} {h' : ea_H} (E : BX5_row_0 x0 x1 x2 h = some (r, h')) : ea_W mX5_row d h0 (some (vI r)) h' 0 [(0, vI x0), (1, vI x1), (2, vI x2)] [] h := by
  unfold BX5_row_0 at E
  refine ea_iload_n (pc := 0) dX5_row_0 rfl 0 rfl ?_
  refine ea_bipush (pc := 1) dX5_row_1 (v := 10) rfl ?_
  refine ea_ishl (pc := 3) dX5_row_3 ?_
  refine ea_iload_n (pc := 4) dX5_row_4 rfl 1 rfl ?_
  refine ea_bipush (pc := 5) dX5_row_5 (v := 7) rfl ?_
  refine ea_ishl (pc := 7) dX5_row_7 ?_
  refine ea_ior (pc := 8) dX5_row_8 ?_
  refine ea_iload_n (pc := 9) dX5_row_9 rfl 2 rfl ?_
  refine ea_ior (pc := 10) dX5_row_10 ?_
  exact ea_iretO (pc := 11) dX5_row_11 rfl rfl E
theorem kBX5_row_0  {x0 : Int32} {x1 : Int32} {x2 : Int32} {h : ea_H} : kp (ea_core h) (BX5_row_0 x0 x1 x2 h) :=
  (kp_ret rfl)
noncomputable def qX5_row (x0 : Int32) (x1 : Int32) (x2 : Int32) (h : ea_H) : Option (Int32 × ea_H) := BX5_row_0 x0 x1 x2 h
theorem sX5_row {d : Nat} {x0 : Int32} {x1 : Int32} {x2 : Int32} {h : ea_H} {r : Int32} {h' : ea_H} (hd : 1 ≤ d) (K : qX5_row x0 x1 x2 h = some (r, h')) : ea_Met mX5_row d [vI x0, vI x1, vI x2] h (some (vI r)) h' := by
  unfold qX5_row at K
  have W := tBX5_row_0 hd (h0 := h) K
  exact ea_enter rfl (Nat.le_of_ble_eq_true rfl) W
theorem kpX5_row (x0 : Int32) (x1 : Int32) (x2 : Int32) (h : ea_H) : kp (ea_core h) (qX5_row x0 x1 x2 h) := kBX5_row_0
noncomputable def BX5_minuteOf_0 (x0 : Int32) (h : ea_H) : Option (Int32 × ea_H) :=
  (some ((x0 >>> ((10 : Int32) &&& 31)), h))
theorem tBX5_minuteOf_0 {d : Nat} {h0 : ea_H} (hd : 1 ≤ d)  {x0 : Int32} {h : ea_H} {r : Int32} {h' : ea_H} (E : BX5_minuteOf_0 x0 h = some (r, h')) : ea_W mX5_minuteOf d h0 (some (vI r)) h' 0 [(0, vI x0)] [] h := by
  unfold BX5_minuteOf_0 at E
  refine ea_iload_n (pc := 0) dX5_minuteOf_0 rfl 0 rfl ?_
  refine ea_bipush (pc := 1) dX5_minuteOf_1 (v := 10) rfl ?_
  refine ea_ishr (pc := 3) dX5_minuteOf_3 ?_
  exact ea_iretO (pc := 4) dX5_minuteOf_4 rfl rfl E
theorem kBX5_minuteOf_0  {x0 : Int32} {h : ea_H} : kp (ea_core h) (BX5_minuteOf_0 x0 h) :=
  (kp_ret rfl)
noncomputable def qX5_minuteOf (x0 : Int32) (h : ea_H) : Option (Int32 × ea_H) := BX5_minuteOf_0 x0 h
theorem sX5_minuteOf {d : Nat} {x0 : Int32} {h : ea_H} {r : Int32} {h' : ea_H} (hd : 1 ≤ d) (K : qX5_minuteOf x0 h = some (r, h')) : ea_Met mX5_minuteOf d [vI x0] h (some (vI r)) h' := by
  unfold qX5_minuteOf at K
  have W := tBX5_minuteOf_0 hd (h0 := h) K
  exact ea_enter rfl (Nat.le_of_ble_eq_true rfl) W
theorem kpX5_minuteOf (x0 : Int32) (h : ea_H) : kp (ea_core h) (qX5_minuteOf x0 h) := kBX5_minuteOf_0
noncomputable def BX5_stateOf_0 (x0 : Int32) (h : ea_H) : Option (Int32 × ea_H) :=
  (some (((x0 >>> ((7 : Int32) &&& 31)) &&& (7 : Int32)), h))
theorem tBX5_stateOf_0 {d : Nat} {h0 : ea_H} (hd : 1 ≤ d)  {x0 : Int32} {h : ea_H} {r : Int32} {h' : ea_H} (E : BX5_stateOf_0 x0 h = some (r, h')) : ea_W mX5_stateOf d h0 (some (vI r)) h' 0 [(0, vI x0)] [] h := by
  unfold BX5_stateOf_0 at E
  refine ea_iload_n (pc := 0) dX5_stateOf_0 rfl 0 rfl ?_
  refine ea_bipush (pc := 1) dX5_stateOf_1 (v := 7) rfl ?_
  refine ea_ishr (pc := 3) dX5_stateOf_3 ?_
  refine ea_bipush (pc := 4) dX5_stateOf_4 (v := 7) rfl ?_
  refine ea_iand (pc := 6) dX5_stateOf_6 ?_
  exact ea_iretO (pc := 7) dX5_stateOf_7 rfl rfl E
theorem kBX5_stateOf_0  {x0 : Int32} {h : ea_H} : kp (ea_core h) (BX5_stateOf_0 x0 h) :=
  (kp_ret rfl)
noncomputable def qX5_stateOf (x0 : Int32) (h : ea_H) : Option (Int32 × ea_H) := BX5_stateOf_0 x0 h
theorem sX5_stateOf {d : Nat} {x0 : Int32} {h : ea_H} {r : Int32} {h' : ea_H} (hd : 1 ≤ d) (K : qX5_stateOf x0 h = some (r, h')) : ea_Met mX5_stateOf d [vI x0] h (some (vI r)) h' := by
  unfold qX5_stateOf at K
  have W := tBX5_stateOf_0 hd (h0 := h) K
  exact ea_enter rfl (Nat.le_of_ble_eq_true rfl) W
theorem kpX5_stateOf (x0 : Int32) (h : ea_H) : kp (ea_core h) (qX5_stateOf x0 h) := kBX5_stateOf_0
noncomputable def BX5_placeOf_0 (x0 : Int32) (h : ea_H) : Option (Int32 × ea_H) :=
  (some ((x0 &&& (127 : Int32)), h))
theorem tBX5_placeOf_0 {d : Nat} {h0 : ea_H} (hd : 1 ≤ d)  {x0 : Int32} {h : ea_H} {r : Int32} {h' : ea_H} (E : BX5_placeOf_0 x0 h = some (r, h')) : ea_W mX5_placeOf d h0 (some (vI r)) h' 0 [(0, vI x0)] [] h := by
  unfold BX5_placeOf_0 at E
  refine ea_iload_n (pc := 0) dX5_placeOf_0 rfl 0 rfl ?_
  refine ea_bipush (pc := 1) dX5_placeOf_1 (v := 127) rfl ?_
  refine ea_iand (pc := 3) dX5_placeOf_3 ?_
  exact ea_iretO (pc := 4) dX5_placeOf_4 rfl rfl E
theorem kBX5_placeOf_0  {x0 : Int32} {h : ea_H} : kp (ea_core h) (BX5_placeOf_0 x0 h) :=
  (kp_ret rfl)
noncomputable def qX5_placeOf (x0 : Int32) (h : ea_H) : Option (Int32 × ea_H) := BX5_placeOf_0 x0 h
theorem sX5_placeOf {d : Nat} {x0 : Int32} {h : ea_H} {r : Int32} {h' : ea_H} (hd : 1 ≤ d) (K : qX5_placeOf x0 h = some (r, h')) : ea_Met mX5_placeOf d [vI x0] h (some (vI r)) h' := by
  unfold qX5_placeOf at K
  have W := tBX5_placeOf_0 hd (h0 := h) K
  exact ea_enter rfl (Nat.le_of_ble_eq_true rfl) W
theorem kpX5_placeOf (x0 : Int32) (h : ea_H) : kp (ea_core h) (qX5_placeOf x0 h) := kBX5_placeOf_0
noncomputable def BX5_placeTown_0 (a0 : Nat) (x1 : Int32) (h : ea_H) : Option (Int32 × ea_H) :=
  (gd ((a0 < ea_n h ∧ ea_c h a0 = 5)) (gd ((ea_r h a0 19) = some (Option.getD (ea_r h a0 19) 0)) (gd (((Option.getD (ea_r h a0 19) 0) < ea_n h ∧ ea_c h (Option.getD (ea_r h a0 19) 0) = 20)) (gd (vp_in x1 (ea_l h (Option.getD (ea_r h a0 19) 0))) (some (((ea_i h (Option.getD (ea_r h a0 19) 0) (Int32.toNatClampNeg x1)) &&& (15 : Int32)), h))))))
theorem tBX5_placeTown_0 {d : Nat} {a0 : Nat} {h0 : ea_H} (hd : 1 ≤ d)  {x1 : Int32} {h : ea_H} {r : Int32} {h' : ea_H} (E : BX5_placeTown_0 a0 x1 h = some (r, h')) : ea_W mX5_placeTown d h0 (some (vI r)) h' 0 [(0, vR (some a0)), (1, vI x1)] [] h := by
  unfold BX5_placeTown_0 at E
  obtain ⟨f1, E⟩ := gd_some E
  refine ea_aload_n (pc := 0) dX5_placeTown_0 rfl 0 rfl ?_
  obtain ⟨e2, E⟩ := gd_some E
  refine ea_getR (pc := 1) dX5_placeTown_1 ec_5 (k := 19) (Nat.le_of_ble_eq_true rfl) rfl (Or.inl ew_554) f1.1 f1.2 rfl ?_
  refine ea_iload_n (pc := 4) dX5_placeTown_4 rfl 1 rfl ?_
  obtain ⟨f3, E⟩ := gd_some E
  obtain ⟨z4, E⟩ := gd_some E
  refine ea_deref1 e2 ?_
  refine ea_iald (pc := 5) dX5_placeTown_5 f3.1 f3.2 z4 ?_
  refine ea_bipush (pc := 6) dX5_placeTown_6 (v := 15) rfl ?_
  refine ea_iand (pc := 8) dX5_placeTown_8 ?_
  exact ea_iretO (pc := 9) dX5_placeTown_9 rfl rfl E
theorem kBX5_placeTown_0 {a0 : Nat}  {x1 : Int32} {h : ea_H} : kp (ea_core h) (BX5_placeTown_0 a0 x1 h) :=
  (kp_gd (kp_gd (kp_gd (kp_gd (kp_ret rfl)))))
noncomputable def qX5_placeTown (a0 : Nat) (x1 : Int32) (h : ea_H) : Option (Int32 × ea_H) := BX5_placeTown_0 a0 x1 h
theorem sX5_placeTown {d : Nat} {a0 : Nat} {x1 : Int32} {h : ea_H} {r : Int32} {h' : ea_H} (hd : 1 ≤ d) (K : qX5_placeTown a0 x1 h = some (r, h')) : ea_Met mX5_placeTown d [vR (some a0), vI x1] h (some (vI r)) h' := by
  unfold qX5_placeTown at K
  have W := tBX5_placeTown_0 hd (h0 := h) K
  exact ea_enter rfl (Nat.le_of_ble_eq_true rfl) W
theorem kpX5_placeTown (a0 : Nat) (x1 : Int32) (h : ea_H) : kp (ea_core h) (qX5_placeTown a0 x1 h) := kBX5_placeTown_0
noncomputable def BX5_placeChance_0 (a0 : Nat) (x1 : Int32) (h : ea_H) : Option (Int32 × ea_H) :=
  (gd ((a0 < ea_n h ∧ ea_c h a0 = 5)) (gd ((ea_r h a0 19) = some (Option.getD (ea_r h a0 19) 0)) (gd (((Option.getD (ea_r h a0 19) 0) < ea_n h ∧ ea_c h (Option.getD (ea_r h a0 19) 0) = 20)) (gd (vp_in x1 (ea_l h (Option.getD (ea_r h a0 19) 0))) (some (((100 : Int32) - ((ea_i h (Option.getD (ea_r h a0 19) 0) (Int32.toNatClampNeg x1)) >>> ((4 : Int32) &&& 31))), h))))))
theorem tBX5_placeChance_0 {d : Nat} {a0 : Nat} {h0 : ea_H} (hd : 1 ≤ d)  {x1 : Int32} {h : ea_H} {r : Int32} {h' : ea_H} (E : BX5_placeChance_0 a0 x1 h = some (r, h')) : ea_W mX5_placeChance d h0 (some (vI r)) h' 0 [(0, vR (some a0)), (1, vI x1)] [] h := by
  unfold BX5_placeChance_0 at E
  obtain ⟨f1, E⟩ := gd_some E
  refine ea_bipush (pc := 0) dX5_placeChance_0 (v := 100) rfl ?_
  refine ea_aload_n (pc := 2) dX5_placeChance_2 rfl 0 rfl ?_
  obtain ⟨e2, E⟩ := gd_some E
  refine ea_getR (pc := 3) dX5_placeChance_3 ec_5 (k := 19) (Nat.le_of_ble_eq_true rfl) rfl (Or.inl ew_554) f1.1 f1.2 rfl ?_
  refine ea_iload_n (pc := 6) dX5_placeChance_6 rfl 1 rfl ?_
  obtain ⟨f3, E⟩ := gd_some E
  obtain ⟨z4, E⟩ := gd_some E
  refine ea_deref1 e2 ?_
  refine ea_iald (pc := 7) dX5_placeChance_7 f3.1 f3.2 z4 ?_
  refine ea_iconst (pc := 8) dX5_placeChance_8 (v := 4) rfl ?_
  refine ea_ishr (pc := 9) dX5_placeChance_9 ?_
  refine ea_isub (pc := 10) dX5_placeChance_10 ?_
  exact ea_iretO (pc := 11) dX5_placeChance_11 rfl rfl E
theorem kBX5_placeChance_0 {a0 : Nat}  {x1 : Int32} {h : ea_H} : kp (ea_core h) (BX5_placeChance_0 a0 x1 h) :=
  (kp_gd (kp_gd (kp_gd (kp_gd (kp_ret rfl)))))
noncomputable def qX5_placeChance (a0 : Nat) (x1 : Int32) (h : ea_H) : Option (Int32 × ea_H) := BX5_placeChance_0 a0 x1 h
theorem sX5_placeChance {d : Nat} {a0 : Nat} {x1 : Int32} {h : ea_H} {r : Int32} {h' : ea_H} (hd : 1 ≤ d) (K : qX5_placeChance a0 x1 h = some (r, h')) : ea_Met mX5_placeChance d [vR (some a0), vI x1] h (some (vI r)) h' := by
  unfold qX5_placeChance at K
  have W := tBX5_placeChance_0 hd (h0 := h) K
  exact ea_enter rfl (Nat.le_of_ble_eq_true rfl) W
theorem kpX5_placeChance (a0 : Nat) (x1 : Int32) (h : ea_H) : kp (ea_core h) (qX5_placeChance a0 x1 h) := kBX5_placeChance_0
noncomputable def BX5_rowOfPlace_0 (a0 : Nat) (J2 : Int32 → Int32 → ea_H → Option (Int32 × ea_H)) (x1 : Int32) (h : ea_H) : Option (Int32 × ea_H) :=
  (J2 (x1 : Int32) (0 : Int32) h)
theorem tBX5_rowOfPlace_0 {d : Nat} {a0 : Nat} {h0 : ea_H} (hd : 2 ≤ d) {J2 : Int32 → Int32 → ea_H → Option (Int32 × ea_H)}  (kJ2 : ∀ (x1 : Int32) (x2 : Int32) (h : ea_H) (r : Int32) (h' : ea_H), J2 x1 x2 h = some (r, h') → ea_W mX5_rowOfPlace d h0 (some (vI r)) h' 2 [(0, vR (some a0)), (1, vI x1), (2, vI x2)] [] h) {x1 : Int32} {h : ea_H} {r : Int32} {h' : ea_H} (E : BX5_rowOfPlace_0 a0 J2 x1 h = some (r, h')) : ea_W mX5_rowOfPlace d h0 (some (vI r)) h' 0 [(0, vR (some a0)), (1, vI x1)] [] h := by
  unfold BX5_rowOfPlace_0 at E
  refine ea_iconst (pc := 0) dX5_rowOfPlace_0 (v := 0) rfl ?_
  refine ea_istore_n (pc := 1) (lv' := [(0, vR (some a0)), (1, vI x1), (2, vI 0)]) dX5_rowOfPlace_1 rfl (Nat.le_of_ble_eq_true rfl) [1, 2, 0] rfl ?_
  exact (kJ2 (x1 : Int32) (0 : Int32) h _ _ E)
theorem kBX5_rowOfPlace_0 {a0 : Nat} {J2 : Int32 → Int32 → ea_H → Option (Int32 × ea_H)}  (cJ2 : ∀ (x1 : Int32) (x2 : Int32) (h : ea_H), kp (ea_core h) (J2 x1 x2 h)) {x1 : Int32} {h : ea_H} : kp (ea_core h) (BX5_rowOfPlace_0 a0 J2 x1 h) :=
  (kp_tw (cJ2 _ _ _) rfl)
theorem lBX5_rowOfPlace_0 {a0 : Nat} {J2 : Int32 → Int32 → ea_H → Option (Int32 × ea_H)} {J2_ : Int32 → Int32 → ea_H → Option (Int32 × ea_H)}  (mJ2 : ∀ (x1 : Int32) (x2 : Int32) (h : ea_H), fle (J2 x1 x2 h) (J2_ x1 x2 h)) {x1 : Int32} {h : ea_H} : fle (BX5_rowOfPlace_0 a0 J2 x1 h) (BX5_rowOfPlace_0 a0 J2_ x1 h) :=
  (mJ2 _ _ _)
theorem nBX5_rowOfPlace_0 {a0 : Nat} {J2 : Int32 → Int32 → ea_H → Option (Int32 × ea_H)} {J2_ : Nat → (Int32 → Int32 → ea_H → Option (Int32 × ea_H))}  (mJ2 : ∀ (x1 : Int32) (x2 : Int32) (h : ea_H), fct (J2 x1 x2 h) (fun f => J2_ f x1 x2 h)) {x1 : Int32} {h : ea_H} : fct (BX5_rowOfPlace_0 a0 J2 x1 h) (fun f => BX5_rowOfPlace_0 a0 (J2_ f) x1 h) :=
  (mJ2 _ _ _)
noncomputable def BX5_rowOfPlace_2 (a0 : Nat) (J2 : Int32 → Int32 → ea_H → Option (Int32 × ea_H)) (x1 : Int32) (x2 : Int32) (h : ea_H) : Option (Int32 × ea_H) :=
  (gd ((a0 < ea_n h ∧ ea_c h a0 = 5)) (if (ea_i h a0 18) ≤ x2 then (some (((-1) : Int32), h)) else (gd ((a0 < ea_n h ∧ ea_c h a0 = 5)) (Option.bind (qX5_placeTown a0 (x2 : Int32) h) fun w2 => (if w2.1 = x1 then (some (x2, w2.2)) else (J2 (x1 : Int32) ((x2 + (1 : Int32)) : Int32) w2.2))))))
theorem tBX5_rowOfPlace_2 {d : Nat} {a0 : Nat} {h0 : ea_H} (hd : 2 ≤ d) {J2 : Int32 → Int32 → ea_H → Option (Int32 × ea_H)}  (kJ2 : ∀ (x1 : Int32) (x2 : Int32) (h : ea_H) (r : Int32) (h' : ea_H), J2 x1 x2 h = some (r, h') → ea_W mX5_rowOfPlace d h0 (some (vI r)) h' 2 [(0, vR (some a0)), (1, vI x1), (2, vI x2)] [] h) {x1 : Int32} {x2 : Int32} {h : ea_H} {r : Int32} {h' : ea_H} (E : BX5_rowOfPlace_2 a0 J2 x1 x2 h = some (r, h')) : ea_W mX5_rowOfPlace d h0 (some (vI r)) h' 2 [(0, vR (some a0)), (1, vI x1), (2, vI x2)] [] h := by
  unfold BX5_rowOfPlace_2 at E
  obtain ⟨f1, E⟩ := gd_some E
  refine ea_iload_n (pc := 2) dX5_rowOfPlace_2 rfl 2 rfl ?_
  refine ea_aload_n (pc := 3) dX5_rowOfPlace_3 rfl 0 rfl ?_
  refine ea_getI (pc := 4) dX5_rowOfPlace_4 ec_5 (k := 18) (Nat.le_of_ble_eq_true rfl) rfl (Or.inl ew_552) f1.1 f1.2 ?_
  refine ea_icmp_ge (pc := 7) (tgt := 27) dX5_rowOfPlace_7 rfl (fun c5 => ?_) (fun c5 => ?_)
  · have E := (if_pos c5).symm.trans E
    refine ea_iconst (pc := 27) dX5_rowOfPlace_27 (v := (-1)) rfl ?_
    exact ea_iretO (pc := 28) dX5_rowOfPlace_28 rfl rfl E
  · have E := (if_neg c5).symm.trans E
    obtain ⟨f3, E⟩ := gd_some E
    refine ea_aload_n (pc := 10) dX5_rowOfPlace_10 rfl 0 rfl ?_
    refine ea_iload_n (pc := 11) dX5_rowOfPlace_11 rfl 2 rfl ?_
    obtain ⟨w2, Ew2, E⟩ := bd_some E
    refine ea_callV (pc := 12) (d' := d - 1) (As := [vI x2]) (st := []) dX5_rowOfPlace_12 kX5_placeTown (sX5_placeTown (d := d - 1) (by omega) Ew2) (by omega) rfl (Nat.le_of_ble_eq_true rfl) ew_1273 ew_1274 ew_1275 (ci := 5) rfl (by decide) f3.1 f3.2 ?_
    refine ea_iload_n (pc := 15) dX5_rowOfPlace_15 rfl 1 rfl ?_
    refine ea_icmp_ne (pc := 16) (tgt := 21) dX5_rowOfPlace_16 rfl (fun c4 => ?_) (fun c4 => ?_)
    · have E := (if_neg c4).symm.trans E
      refine ea_iinc (pc := 21) (v := 1) (lv' := [(0, vR (some a0)), (1, vI x1), (2, vI (x2 + (1 : Int32)))]) dX5_rowOfPlace_21 2 rfl rfl (Nat.le_of_ble_eq_true rfl) [1, 2, 0] rfl ?_
      refine ea_goto (pc := 24) (tgt := 2) dX5_rowOfPlace_24 rfl ?_
      exact (kJ2 (x1 : Int32) ((x2 + (1 : Int32)) : Int32) w2.2 _ _ E)
    · have E := (if_pos c4).symm.trans E
      refine ea_iload_n (pc := 19) dX5_rowOfPlace_19 rfl 2 rfl ?_
      exact ea_iretO (pc := 20) dX5_rowOfPlace_20 rfl rfl E
theorem kBX5_rowOfPlace_2 {a0 : Nat} {J2 : Int32 → Int32 → ea_H → Option (Int32 × ea_H)}  (cJ2 : ∀ (x1 : Int32) (x2 : Int32) (h : ea_H), kp (ea_core h) (J2 x1 x2 h)) {x1 : Int32} {x2 : Int32} {h : ea_H} : kp (ea_core h) (BX5_rowOfPlace_2 a0 J2 x1 x2 h) :=
  (kp_gd (kp_ite (kp_ret rfl) (kp_gd (kp_bind (kp_tw (kpX5_placeTown _ _ _) rfl) fun w2 hcw2 => (kp_ite (kp_ret hcw2) (kp_tw (cJ2 _ _ _) hcw2))))))
theorem lBX5_rowOfPlace_2 {a0 : Nat} {J2 : Int32 → Int32 → ea_H → Option (Int32 × ea_H)} {J2_ : Int32 → Int32 → ea_H → Option (Int32 × ea_H)}  (mJ2 : ∀ (x1 : Int32) (x2 : Int32) (h : ea_H), fle (J2 x1 x2 h) (J2_ x1 x2 h)) {x1 : Int32} {x2 : Int32} {h : ea_H} : fle (BX5_rowOfPlace_2 a0 J2 x1 x2 h) (BX5_rowOfPlace_2 a0 J2_ x1 x2 h) :=
  (fle_gd (fle_ite (fle_rfl _) (fle_gd (fle_bind (fle_rfl _) fun _ => (fle_ite (fle_rfl _) (mJ2 _ _ _))))))
theorem nBX5_rowOfPlace_2 {a0 : Nat} {J2 : Int32 → Int32 → ea_H → Option (Int32 × ea_H)} {J2_ : Nat → (Int32 → Int32 → ea_H → Option (Int32 × ea_H))}  (mJ2 : ∀ (x1 : Int32) (x2 : Int32) (h : ea_H), fct (J2 x1 x2 h) (fun f => J2_ f x1 x2 h)) {x1 : Int32} {x2 : Int32} {h : ea_H} : fct (BX5_rowOfPlace_2 a0 J2 x1 x2 h) (fun f => BX5_rowOfPlace_2 a0 (J2_ f) x1 x2 h) :=
  (fct_gd (fct_ite (fct_rfl _) (fct_gd (fct_bind (fct_rfl _) fun _ => (fct_ite (fct_rfl _) (mJ2 _ _ _))))))
noncomputable def gX5_rowOfPlace (a0 : Nat) : Nat → (Int32 → ea_H → Option (Int32 × ea_H)) × (Int32 → Int32 → ea_H → Option (Int32 × ea_H))
  | 0 => (fun _ _ => none, fun _ _ _ => none)
  | f + 1 => (BX5_rowOfPlace_0 a0 (gX5_rowOfPlace a0 f).2, BX5_rowOfPlace_2 a0 (gX5_rowOfPlace a0 f).2)
theorem mgX5_rowOfPlace (a0 : Nat) : ∀ f : Nat, (∀ (x1 : Int32) (h : ea_H), fle ((gX5_rowOfPlace a0 f).1 x1 h) ((gX5_rowOfPlace a0 (f + 1)).1 x1 h)) ∧ (∀ (x1 : Int32) (x2 : Int32) (h : ea_H), fle ((gX5_rowOfPlace a0 f).2 x1 x2 h) ((gX5_rowOfPlace a0 (f + 1)).2 x1 x2 h)) := by
  intro f
  induction f with
  | zero => exact ⟨fun _ _ => fle_none _, fun _ _ _ => fle_none _⟩
  | succ f ih => exact ⟨fun _ _ => lBX5_rowOfPlace_0 (a0 := a0) ih.2, fun _ _ _ => lBX5_rowOfPlace_2 (a0 := a0) ih.2⟩
noncomputable def qX5_rowOfPlace_0 (a0 : Nat) (x1 : Int32) (h : ea_H) : Option (Int32 × ea_H) := flim fun f => (gX5_rowOfPlace a0 f).1 x1 h
noncomputable def qX5_rowOfPlace_2 (a0 : Nat) (x1 : Int32) (x2 : Int32) (h : ea_H) : Option (Int32 × ea_H) := flim fun f => (gX5_rowOfPlace a0 f).2 x1 x2 h
theorem fqX5_rowOfPlace_0 (a0 : Nat) (x1 : Int32) (h : ea_H) : fct (qX5_rowOfPlace_0 a0 x1 h) fun f => (gX5_rowOfPlace a0 f).1 x1 h := flim_ct fun f => (mgX5_rowOfPlace a0 f).1 x1 h
theorem fqX5_rowOfPlace_2 (a0 : Nat) (x1 : Int32) (x2 : Int32) (h : ea_H) : fct (qX5_rowOfPlace_2 a0 x1 x2 h) fun f => (gX5_rowOfPlace a0 f).2 x1 x2 h := flim_ct fun f => (mgX5_rowOfPlace a0 f).2 x1 x2 h
/-- how a block opens -/
theorem uqX5_rowOfPlace_0 {a0 : Nat} {x1 : Int32} {h : ea_H} {P : Int32 × ea_H → Prop} (H : sat (BX5_rowOfPlace_0 a0 (qX5_rowOfPlace_2 a0) x1 h) P) : sat (qX5_rowOfPlace_0 a0 x1 h) P := by
  obtain ⟨x, e, hp⟩ := H
  obtain ⟨n, hn⟩ := nBX5_rowOfPlace_0 (a0 := a0) (fqX5_rowOfPlace_2 a0) x e
  exact ⟨x, flim_at (fun f => (mgX5_rowOfPlace a0 f).1 x1 h) (f := n + 1) (hn n (Nat.le_refl _)), hp⟩
/-- how a block opens -/
theorem uqX5_rowOfPlace_2 {a0 : Nat} {x1 : Int32} {x2 : Int32} {h : ea_H} {P : Int32 × ea_H → Prop} (H : sat (BX5_rowOfPlace_2 a0 (qX5_rowOfPlace_2 a0) x1 x2 h) P) : sat (qX5_rowOfPlace_2 a0 x1 x2 h) P := by
  obtain ⟨x, e, hp⟩ := H
  obtain ⟨n, hn⟩ := nBX5_rowOfPlace_2 (a0 := a0) (fqX5_rowOfPlace_2 a0) x e
  exact ⟨x, flim_at (fun f => (mgX5_rowOfPlace a0 f).2 x1 x2 h) (f := n + 1) (hn n (Nat.le_refl _)), hp⟩
theorem kgX5_rowOfPlace (a0 : Nat) : ∀ f : Nat, (∀ (x1 : Int32) (h : ea_H), kp (ea_core h) ((gX5_rowOfPlace a0 f).1 x1 h)) ∧ (∀ (x1 : Int32) (x2 : Int32) (h : ea_H), kp (ea_core h) ((gX5_rowOfPlace a0 f).2 x1 x2 h)) := by
  intro f
  induction f with
  | zero => exact ⟨fun _ _ => kp_none _, fun _ _ _ => kp_none _⟩
  | succ f ih => exact ⟨fun _ _ => kBX5_rowOfPlace_0 (a0 := a0) ih.2, fun _ _ _ => kBX5_rowOfPlace_2 (a0 := a0) ih.2⟩
theorem tgX5_rowOfPlace {d : Nat} {a0 : Nat} {h0 : ea_H} (hd : 2 ≤ d) : ∀ f : Nat, (∀ (x1 : Int32) (h : ea_H) (r : Int32) (h' : ea_H), (gX5_rowOfPlace a0 f).1 x1 h = some (r, h') → ea_W mX5_rowOfPlace d h0 (some (vI r)) h' 0 [(0, vR (some a0)), (1, vI x1)] [] h) ∧ (∀ (x1 : Int32) (x2 : Int32) (h : ea_H) (r : Int32) (h' : ea_H), (gX5_rowOfPlace a0 f).2 x1 x2 h = some (r, h') → ea_W mX5_rowOfPlace d h0 (some (vI r)) h' 2 [(0, vR (some a0)), (1, vI x1), (2, vI x2)] [] h) := by
  intro f
  induction f with
  | zero => exact ⟨fun _ _ _ _ E => no_some E, fun _ _ _ _ _ E => no_some E⟩
  | succ f ih => exact ⟨fun _ _ _ _ E => tBX5_rowOfPlace_0 (a0 := a0) hd ih.2 E, fun _ _ _ _ _ E => tBX5_rowOfPlace_2 (a0 := a0) hd ih.2 E⟩
noncomputable def qX5_rowOfPlace (a0 : Nat) (x1 : Int32) (h : ea_H) : Option (Int32 × ea_H) := qX5_rowOfPlace_0 a0 x1 h
theorem sX5_rowOfPlace {d : Nat} {a0 : Nat} {x1 : Int32} {h : ea_H} {r : Int32} {h' : ea_H} (hd : 2 ≤ d) (K : qX5_rowOfPlace a0 x1 h = some (r, h')) : ea_Met mX5_rowOfPlace d [vR (some a0), vI x1] h (some (vI r)) h' := by
  unfold qX5_rowOfPlace at K
  obtain ⟨n, hn⟩ := fqX5_rowOfPlace_0 a0 x1 h _ K
  have W := (tgX5_rowOfPlace (d := d) (h0 := h) hd n).1 x1 h _ _ (hn n (Nat.le_refl _))
  exact ea_enter rfl (Nat.le_of_ble_eq_true rfl) W
theorem kpX5_rowOfPlace (a0 : Nat) (x1 : Int32) (h : ea_H) : kp (ea_core h) (qX5_rowOfPlace a0 x1 h) := fun x e => by
  obtain ⟨n, hn⟩ := fqX5_rowOfPlace_0 a0 x1 h x e
  exact (kgX5_rowOfPlace a0 n).1 x1 h x (hn n (Nat.le_refl _))
noncomputable def BX5_tell_0 (a0 : Nat) (J46 : Int32 → Int32 → ea_H → Option (Int32 × ea_H)) (x1 : Int32) (x2 : Int32) (h : ea_H) : Option (Int32 × ea_H) :=
  (gd ((a0 < ea_n h ∧ ea_c h a0 = 5)) (Option.bind (qX5_rowOfPlace a0 (x1 : Int32) h) fun w1 => (if w1.1 = ((-1) : Int32) then (gd ((a0 < ea_n w1.2 ∧ ea_c w1.2 a0 = 5)) (if (ea_i w1.2 a0 18) < (4 : Int32) then (gd ((a0 < ea_n w1.2 ∧ ea_c w1.2 a0 = 5)) (ea_let (ea_i w1.2 a0 18) fun (v6 : Int32) => (gd ((a0 < ea_n w1.2 ∧ ea_c w1.2 a0 = 5)) (gd ((a0 < ea_n w1.2 ∧ ea_c w1.2 a0 = 5)) (ea_let (ea_wi w1.2 a0 18 ((ea_i w1.2 a0 18) + (1 : Int32))) fun H9 => (ea_let ((((100 : Int32) - x2) <<< ((4 : Int32) &&& 31)) ||| x1) fun (v10 : Int32) => (J46 (v6 : Int32) (v10 : Int32) H9))))))) else (some ((0 : Int32), w1.2)))) else (ea_let ((((100 : Int32) - x2) <<< ((4 : Int32) &&& 31)) ||| x1) fun (v3 : Int32) => (J46 (w1.1 : Int32) (v3 : Int32) w1.2)))))
theorem tBX5_tell_0 {d : Nat} {a0 : Nat} {h0 : ea_H} (hd : 3 ≤ d) {J46 : Int32 → Int32 → ea_H → Option (Int32 × ea_H)}  (kJ46 : ∀ (x3 : Int32) (x4 : Int32) (h : ea_H) (r : Int32) (h' : ea_H), J46 x3 x4 h = some (r, h') → ea_W mX5_tell d h0 (some (vI r)) h' 46 [(0, vR (some a0)), (3, vI x3), (4, vI x4)] [] h) {x1 : Int32} {x2 : Int32} {h : ea_H} {r : Int32} {h' : ea_H} (E : BX5_tell_0 a0 J46 x1 x2 h = some (r, h')) : ea_W mX5_tell d h0 (some (vI r)) h' 0 [(0, vR (some a0)), (1, vI x1), (2, vI x2)] [] h := by
  unfold BX5_tell_0 at E
  obtain ⟨f2, E⟩ := gd_some E
  refine ea_aload_n (pc := 0) dX5_tell_0 rfl 0 rfl ?_
  refine ea_iload_n (pc := 1) dX5_tell_1 rfl 1 rfl ?_
  obtain ⟨w1, Ew1, E⟩ := bd_some E
  refine ea_callV (pc := 2) (d' := d - 1) (As := [vI x1]) (st := []) dX5_tell_2 kX5_rowOfPlace (sX5_rowOfPlace (d := d - 1) (by omega) Ew1) (by omega) rfl (Nat.le_of_ble_eq_true rfl) ew_1269 ew_1270 ew_1271 (ci := 5) rfl (by decide) f2.1 f2.2 ?_
  refine ea_istore_n (pc := 5) (lv' := [(0, vR (some a0)), (1, vI x1), (2, vI x2), (3, vI w1.1)]) dX5_tell_5 rfl (Nat.le_of_ble_eq_true rfl) [1, 2, 3, 0] rfl ?_
  refine ea_iload_n (pc := 6) dX5_tell_6 rfl 3 rfl ?_
  refine ea_iconst (pc := 7) dX5_tell_7 (v := (-1)) rfl ?_
  refine ea_icmp_ne (pc := 8) (tgt := 36) dX5_tell_8 rfl (fun c12 => ?_) (fun c12 => ?_)
  · have E := (if_neg c12).symm.trans E
    obtain ⟨v3, ev3, E⟩ := let_some E
    refine ea_bipush (pc := 36) dX5_tell_36 (v := 100) rfl ?_
    refine ea_iload_n (pc := 38) dX5_tell_38 rfl 2 rfl ?_
    refine ea_isub (pc := 39) dX5_tell_39 ?_
    refine ea_iconst (pc := 40) dX5_tell_40 (v := 4) rfl ?_
    refine ea_ishl (pc := 41) dX5_tell_41 ?_
    refine ea_iload_n (pc := 42) dX5_tell_42 rfl 1 rfl ?_
    refine ea_ior (pc := 43) dX5_tell_43 ?_
    refine ea_istore (pc := 44) (lv' := [(0, vR (some a0)), (3, vI w1.1), (4, vI v3)]) dX5_tell_44 (Nat.le_of_ble_eq_true rfl) [1, 4, 0] (by rw [ev3]; rfl) ?_
    exact (kJ46 (w1.1 : Int32) (v3 : Int32) w1.2 _ _ E)
  · have E := (if_pos c12).symm.trans E
    obtain ⟨f4, E⟩ := gd_some E
    refine ea_aload_n (pc := 11) dX5_tell_11 rfl 0 rfl ?_
    refine ea_getI (pc := 12) dX5_tell_12 ec_5 (k := 18) (Nat.le_of_ble_eq_true rfl) rfl (Or.inl ew_552) f4.1 f4.2 ?_
    refine ea_iconst (pc := 15) dX5_tell_15 (v := 4) rfl ?_
    refine ea_icmp_lt (pc := 16) (tgt := 21) dX5_tell_16 rfl (fun c11 => ?_) (fun c11 => ?_)
    · have E := (if_pos c11).symm.trans E
      obtain ⟨f5, E⟩ := gd_some E
      refine ea_aload_n (pc := 21) dX5_tell_21 rfl 0 rfl ?_
      obtain ⟨v6, ev6, E⟩ := let_some E
      refine ea_getI (pc := 22) dX5_tell_22 ec_5 (k := 18) (Nat.le_of_ble_eq_true rfl) rfl (Or.inl ew_552) f5.1 f5.2 ?_
      obtain ⟨f7, E⟩ := gd_some E
      refine ea_istore_n (pc := 25) (lv' := [(0, vR (some a0)), (1, vI x1), (2, vI x2), (3, vI v6)]) dX5_tell_25 rfl (Nat.le_of_ble_eq_true rfl) [1, 2, 3, 0] (by rw [ev6]; rfl) ?_
      refine ea_aload_n (pc := 26) dX5_tell_26 rfl 0 rfl ?_
      refine ea_dup (pc := 27) dX5_tell_27 rfl ?_
      obtain ⟨f8, E⟩ := gd_some E
      refine ea_getI (pc := 28) dX5_tell_28 ec_5 (k := 18) (Nat.le_of_ble_eq_true rfl) rfl (Or.inl ew_552) f7.1 f7.2 ?_
      refine ea_iconst (pc := 31) dX5_tell_31 (v := 1) rfl ?_
      refine ea_iadd (pc := 32) dX5_tell_32 ?_
      obtain ⟨H9, eH9, E⟩ := let_some E
      refine ea_putI (pc := 33) dX5_tell_33 ec_5 (k := 18) (Nat.le_of_ble_eq_true rfl) rfl (Or.inl ⟨rfl, Or.inl ew_552⟩) rfl rfl f8.1 f8.2 ?_
      refine ea_nm eH9 ?_
      obtain ⟨v10, ev10, E⟩ := let_some E
      refine ea_bipush (pc := 36) dX5_tell_36 (v := 100) rfl ?_
      refine ea_iload_n (pc := 38) dX5_tell_38 rfl 2 rfl ?_
      refine ea_isub (pc := 39) dX5_tell_39 ?_
      refine ea_iconst (pc := 40) dX5_tell_40 (v := 4) rfl ?_
      refine ea_ishl (pc := 41) dX5_tell_41 ?_
      refine ea_iload_n (pc := 42) dX5_tell_42 rfl 1 rfl ?_
      refine ea_ior (pc := 43) dX5_tell_43 ?_
      refine ea_istore (pc := 44) (lv' := [(0, vR (some a0)), (3, vI v6), (4, vI v10)]) dX5_tell_44 (Nat.le_of_ble_eq_true rfl) [1, 4, 0] (by rw [ev10]; rfl) ?_
      exact (kJ46 (v6 : Int32) (v10 : Int32) H9 _ _ E)
    · have E := (if_neg c11).symm.trans E
      refine ea_iconst (pc := 19) dX5_tell_19 (v := 0) rfl ?_
      exact ea_iretO (pc := 20) dX5_tell_20 rfl (ea_bn (Or.inl rfl)) E
theorem kBX5_tell_0 {a0 : Nat} {J46 : Int32 → Int32 → ea_H → Option (Int32 × ea_H)}  (cJ46 : ∀ (x3 : Int32) (x4 : Int32) (h : ea_H), kp (ea_core h) (J46 x3 x4 h)) {x1 : Int32} {x2 : Int32} {h : ea_H} : kp (ea_core h) (BX5_tell_0 a0 J46 x1 x2 h) :=
  (kp_gd (kp_bind (kp_tw (kpX5_rowOfPlace _ _ _) rfl) fun w1 hcw1 => (kp_ite (kp_gd (kp_ite (kp_gd (kp_let (kp_gd (kp_gd (kp_let (kp_let (kp_tw (cJ46 _ _ _) hcw1))))))) (kp_ret hcw1))) (kp_let (kp_tw (cJ46 _ _ _) hcw1)))))
theorem lBX5_tell_0 {a0 : Nat} {J46 : Int32 → Int32 → ea_H → Option (Int32 × ea_H)} {J46_ : Int32 → Int32 → ea_H → Option (Int32 × ea_H)}  (mJ46 : ∀ (x3 : Int32) (x4 : Int32) (h : ea_H), fle (J46 x3 x4 h) (J46_ x3 x4 h)) {x1 : Int32} {x2 : Int32} {h : ea_H} : fle (BX5_tell_0 a0 J46 x1 x2 h) (BX5_tell_0 a0 J46_ x1 x2 h) :=
  (fle_gd (fle_bind (fle_rfl _) fun _ => (fle_ite (fle_gd (fle_ite (fle_gd (fle_let fun _ => (fle_gd (fle_gd (fle_let fun _ => (fle_let fun _ => (mJ46 _ _ _))))))) (fle_rfl _))) (fle_let fun _ => (mJ46 _ _ _)))))
theorem nBX5_tell_0 {a0 : Nat} {J46 : Int32 → Int32 → ea_H → Option (Int32 × ea_H)} {J46_ : Nat → (Int32 → Int32 → ea_H → Option (Int32 × ea_H))}  (mJ46 : ∀ (x3 : Int32) (x4 : Int32) (h : ea_H), fct (J46 x3 x4 h) (fun f => J46_ f x3 x4 h)) {x1 : Int32} {x2 : Int32} {h : ea_H} : fct (BX5_tell_0 a0 J46 x1 x2 h) (fun f => BX5_tell_0 a0 (J46_ f) x1 x2 h) :=
  (fct_gd (fct_bind (fct_rfl _) fun _ => (fct_ite (fct_gd (fct_ite (fct_gd (fct_let fun _ => (fct_gd (fct_gd (fct_let fun _ => (fct_let fun _ => (mJ46 _ _ _))))))) (fct_rfl _))) (fct_let fun _ => (mJ46 _ _ _)))))
noncomputable def BX5_tell_46 (a0 : Nat) (J46 : Int32 → Int32 → ea_H → Option (Int32 × ea_H)) (J89 : Int32 → Int32 → ea_H → Option (Int32 × ea_H)) (x3 : Int32) (x4 : Int32) (h : ea_H) : Option (Int32 × ea_H) :=
  (gd ((a0 < ea_n h ∧ ea_c h a0 = 5)) (if ((ea_i h a0 18) - (1 : Int32)) ≤ x3 then (J89 (x3 : Int32) (x4 : Int32) h) else (gd ((a0 < ea_n h ∧ ea_c h a0 = 5)) (gd ((ea_r h a0 19) = some (Option.getD (ea_r h a0 19) 0)) (gd (((Option.getD (ea_r h a0 19) 0) < ea_n h ∧ ea_c h (Option.getD (ea_r h a0 19) 0) = 20)) (gd (vp_in (x3 + (1 : Int32)) (ea_l h (Option.getD (ea_r h a0 19) 0))) (if x4 ≤ (ea_i h (Option.getD (ea_r h a0 19) 0) (Int32.toNatClampNeg (x3 + (1 : Int32)))) then (J89 (x3 : Int32) (x4 : Int32) h) else (gd ((a0 < ea_n h ∧ ea_c h a0 = 5)) (gd ((a0 < ea_n h ∧ ea_c h a0 = 5)) (gd ((ea_r h a0 19) = some (Option.getD (ea_r h a0 19) 0)) (gd (((Option.getD (ea_r h a0 19) 0) < ea_n h ∧ ea_c h (Option.getD (ea_r h a0 19) 0) = 20)) (gd (vp_in (x3 + (1 : Int32)) (ea_l h (Option.getD (ea_r h a0 19) 0))) (gd ((ea_r h a0 19) = some (Option.getD (ea_r h a0 19) 0)) (gd (((Option.getD (ea_r h a0 19) 0) < ea_n h ∧ ea_c h (Option.getD (ea_r h a0 19) 0) = 20)) (gd (vp_in x3 (ea_l h (Option.getD (ea_r h a0 19) 0))) (ea_let (ea_wi h (Option.getD (ea_r h a0 19) 0) (Int32.toNatClampNeg x3) (ea_i h (Option.getD (ea_r h a0 19) 0) (Int32.toNatClampNeg (x3 + (1 : Int32))))) fun H26 => (J46 ((x3 + (1 : Int32)) : Int32) (x4 : Int32) H26)))))))))))))))))
theorem tBX5_tell_46 {d : Nat} {a0 : Nat} {h0 : ea_H} (hd : 3 ≤ d) {J46 : Int32 → Int32 → ea_H → Option (Int32 × ea_H)} {J89 : Int32 → Int32 → ea_H → Option (Int32 × ea_H)}  (kJ46 : ∀ (x3 : Int32) (x4 : Int32) (h : ea_H) (r : Int32) (h' : ea_H), J46 x3 x4 h = some (r, h') → ea_W mX5_tell d h0 (some (vI r)) h' 46 [(0, vR (some a0)), (3, vI x3), (4, vI x4)] [] h) (kJ89 : ∀ (x3 : Int32) (x4 : Int32) (h : ea_H) (r : Int32) (h' : ea_H), J89 x3 x4 h = some (r, h') → ea_W mX5_tell d h0 (some (vI r)) h' 89 [(0, vR (some a0)), (3, vI x3), (4, vI x4)] [] h) {x3 : Int32} {x4 : Int32} {h : ea_H} {r : Int32} {h' : ea_H} (E : BX5_tell_46 a0 J46 J89 x3 x4 h = some (r, h')) : ea_W mX5_tell d h0 (some (vI r)) h' 46 [(0, vR (some a0)), (3, vI x3), (4, vI x4)] [] h := by
  unfold BX5_tell_46 at E
  obtain ⟨f13, E⟩ := gd_some E
  refine ea_iload_n (pc := 46) dX5_tell_46 rfl 1 rfl ?_
  refine ea_aload_n (pc := 47) dX5_tell_47 rfl 0 rfl ?_
  refine ea_getI (pc := 48) dX5_tell_48 ec_5 (k := 18) (Nat.le_of_ble_eq_true rfl) rfl (Or.inl ew_552) f13.1 f13.2 ?_
  refine ea_iconst (pc := 51) dX5_tell_51 (v := 1) rfl ?_
  refine ea_isub (pc := 52) dX5_tell_52 ?_
  refine ea_icmp_ge (pc := 53) (tgt := 89) dX5_tell_53 rfl (fun c28 => ?_) (fun c28 => ?_)
  · have E := (if_pos c28).symm.trans E
    exact (kJ89 (x3 : Int32) (x4 : Int32) h _ _ E)
  · have E := (if_neg c28).symm.trans E
    obtain ⟨f14, E⟩ := gd_some E
    refine ea_aload_n (pc := 56) dX5_tell_56 rfl 0 rfl ?_
    obtain ⟨e15, E⟩ := gd_some E
    refine ea_getR (pc := 57) dX5_tell_57 ec_5 (k := 19) (Nat.le_of_ble_eq_true rfl) rfl (Or.inl ew_554) f14.1 f14.2 rfl ?_
    refine ea_iload_n (pc := 60) dX5_tell_60 rfl 1 rfl ?_
    refine ea_iconst (pc := 61) dX5_tell_61 (v := 1) rfl ?_
    refine ea_iadd (pc := 62) dX5_tell_62 ?_
    obtain ⟨f16, E⟩ := gd_some E
    obtain ⟨z17, E⟩ := gd_some E
    refine ea_deref1 e15 ?_
    refine ea_iald (pc := 63) dX5_tell_63 f16.1 f16.2 z17 ?_
    refine ea_iload (pc := 64) dX5_tell_64 2 rfl ?_
    refine ea_icmp_ge (pc := 66) (tgt := 89) dX5_tell_66 rfl (fun c27 => ?_) (fun c27 => ?_)
    · have E := (if_pos c27).symm.trans E
      exact (kJ89 (x3 : Int32) (x4 : Int32) h _ _ E)
    · have E := (if_neg c27).symm.trans E
      obtain ⟨f18, E⟩ := gd_some E
      refine ea_aload_n (pc := 69) dX5_tell_69 rfl 0 rfl ?_
      obtain ⟨f19, E⟩ := gd_some E
      refine ea_getR (pc := 70) dX5_tell_70 ec_5 (k := 19) (Nat.le_of_ble_eq_true rfl) rfl (Or.inl ew_554) f18.1 f18.2 rfl ?_
      refine ea_iload_n (pc := 73) dX5_tell_73 rfl 1 rfl ?_
      refine ea_aload_n (pc := 74) dX5_tell_74 rfl 0 rfl ?_
      obtain ⟨e20, E⟩ := gd_some E
      refine ea_getR (pc := 75) dX5_tell_75 ec_5 (k := 19) (Nat.le_of_ble_eq_true rfl) rfl (Or.inl ew_554) f19.1 f19.2 rfl ?_
      refine ea_iload_n (pc := 78) dX5_tell_78 rfl 1 rfl ?_
      refine ea_iconst (pc := 79) dX5_tell_79 (v := 1) rfl ?_
      refine ea_iadd (pc := 80) dX5_tell_80 ?_
      obtain ⟨f21, E⟩ := gd_some E
      obtain ⟨z22, E⟩ := gd_some E
      obtain ⟨e23, E⟩ := gd_some E
      refine ea_deref1 e20 ?_
      refine ea_iald (pc := 81) dX5_tell_81 f21.1 f21.2 z22 ?_
      obtain ⟨f24, E⟩ := gd_some E
      obtain ⟨z25, E⟩ := gd_some E
      obtain ⟨H26, eH26, E⟩ := let_some E
      refine ea_deref2 e23 ?_
      refine ea_iast (pc := 82) dX5_tell_82 f24.1 f24.2 z25 ?_
      refine ea_nm eH26 ?_
      refine ea_iinc (pc := 83) (v := 1) (lv' := [(0, vR (some a0)), (3, vI (x3 + (1 : Int32))), (4, vI x4)]) dX5_tell_83 1 rfl rfl (Nat.le_of_ble_eq_true rfl) [1, 0, 2] rfl ?_
      refine ea_goto (pc := 86) (tgt := 46) dX5_tell_86 rfl ?_
      exact (kJ46 ((x3 + (1 : Int32)) : Int32) (x4 : Int32) H26 _ _ E)
theorem kBX5_tell_46 {a0 : Nat} {J46 : Int32 → Int32 → ea_H → Option (Int32 × ea_H)} {J89 : Int32 → Int32 → ea_H → Option (Int32 × ea_H)}  (cJ46 : ∀ (x3 : Int32) (x4 : Int32) (h : ea_H), kp (ea_core h) (J46 x3 x4 h)) (cJ89 : ∀ (x3 : Int32) (x4 : Int32) (h : ea_H), kp (ea_core h) (J89 x3 x4 h)) {x3 : Int32} {x4 : Int32} {h : ea_H} : kp (ea_core h) (BX5_tell_46 a0 J46 J89 x3 x4 h) :=
  (kp_gd (kp_ite (kp_tw (cJ89 _ _ _) rfl) (kp_gd (kp_gd (kp_gd (kp_gd (kp_ite (kp_tw (cJ89 _ _ _) rfl) (kp_gd (kp_gd (kp_gd (kp_gd (kp_gd (kp_gd (kp_gd (kp_gd (kp_let (kp_tw (cJ46 _ _ _) rfl)))))))))))))))))
theorem lBX5_tell_46 {a0 : Nat} {J46 : Int32 → Int32 → ea_H → Option (Int32 × ea_H)} {J89 : Int32 → Int32 → ea_H → Option (Int32 × ea_H)} {J46_ : Int32 → Int32 → ea_H → Option (Int32 × ea_H)} {J89_ : Int32 → Int32 → ea_H → Option (Int32 × ea_H)}  (mJ46 : ∀ (x3 : Int32) (x4 : Int32) (h : ea_H), fle (J46 x3 x4 h) (J46_ x3 x4 h)) (mJ89 : ∀ (x3 : Int32) (x4 : Int32) (h : ea_H), fle (J89 x3 x4 h) (J89_ x3 x4 h)) {x3 : Int32} {x4 : Int32} {h : ea_H} : fle (BX5_tell_46 a0 J46 J89 x3 x4 h) (BX5_tell_46 a0 J46_ J89_ x3 x4 h) :=
  (fle_gd (fle_ite (mJ89 _ _ _) (fle_gd (fle_gd (fle_gd (fle_gd (fle_ite (mJ89 _ _ _) (fle_gd (fle_gd (fle_gd (fle_gd (fle_gd (fle_gd (fle_gd (fle_gd (fle_let fun _ => (mJ46 _ _ _)))))))))))))))))
theorem nBX5_tell_46 {a0 : Nat} {J46 : Int32 → Int32 → ea_H → Option (Int32 × ea_H)} {J89 : Int32 → Int32 → ea_H → Option (Int32 × ea_H)} {J46_ : Nat → (Int32 → Int32 → ea_H → Option (Int32 × ea_H))} {J89_ : Nat → (Int32 → Int32 → ea_H → Option (Int32 × ea_H))}  (mJ46 : ∀ (x3 : Int32) (x4 : Int32) (h : ea_H), fct (J46 x3 x4 h) (fun f => J46_ f x3 x4 h)) (mJ89 : ∀ (x3 : Int32) (x4 : Int32) (h : ea_H), fct (J89 x3 x4 h) (fun f => J89_ f x3 x4 h)) {x3 : Int32} {x4 : Int32} {h : ea_H} : fct (BX5_tell_46 a0 J46 J89 x3 x4 h) (fun f => BX5_tell_46 a0 (J46_ f) (J89_ f) x3 x4 h) :=
  (fct_gd (fct_ite (mJ89 _ _ _) (fct_gd (fct_gd (fct_gd (fct_gd (fct_ite (mJ89 _ _ _) (fct_gd (fct_gd (fct_gd (fct_gd (fct_gd (fct_gd (fct_gd (fct_gd (fct_let fun _ => (mJ46 _ _ _)))))))))))))))))
noncomputable def BX5_tell_89 (a0 : Nat) (J89 : Int32 → Int32 → ea_H → Option (Int32 × ea_H)) (x3 : Int32) (x4 : Int32) (h : ea_H) : Option (Int32 × ea_H) :=
  (if x3 ≤ (0 : Int32) then (gd ((a0 < ea_n h ∧ ea_c h a0 = 5)) (gd ((ea_r h a0 19) = some (Option.getD (ea_r h a0 19) 0)) (gd (((Option.getD (ea_r h a0 19) 0) < ea_n h ∧ ea_c h (Option.getD (ea_r h a0 19) 0) = 20)) (gd (vp_in x3 (ea_l h (Option.getD (ea_r h a0 19) 0))) (ea_let (ea_wi h (Option.getD (ea_r h a0 19) 0) (Int32.toNatClampNeg x3) x4) fun H33 => (some ((1 : Int32), H33))))))) else (gd ((a0 < ea_n h ∧ ea_c h a0 = 5)) (gd ((ea_r h a0 19) = some (Option.getD (ea_r h a0 19) 0)) (gd (((Option.getD (ea_r h a0 19) 0) < ea_n h ∧ ea_c h (Option.getD (ea_r h a0 19) 0) = 20)) (gd (vp_in (x3 - (1 : Int32)) (ea_l h (Option.getD (ea_r h a0 19) 0))) (if (ea_i h (Option.getD (ea_r h a0 19) 0) (Int32.toNatClampNeg (x3 - (1 : Int32)))) ≤ x4 then (gd ((a0 < ea_n h ∧ ea_c h a0 = 5)) (gd ((ea_r h a0 19) = some (Option.getD (ea_r h a0 19) 0)) (gd (((Option.getD (ea_r h a0 19) 0) < ea_n h ∧ ea_c h (Option.getD (ea_r h a0 19) 0) = 20)) (gd (vp_in x3 (ea_l h (Option.getD (ea_r h a0 19) 0))) (ea_let (ea_wi h (Option.getD (ea_r h a0 19) 0) (Int32.toNatClampNeg x3) x4) fun H42 => (some ((1 : Int32), H42))))))) else (gd ((a0 < ea_n h ∧ ea_c h a0 = 5)) (gd ((a0 < ea_n h ∧ ea_c h a0 = 5)) (gd ((ea_r h a0 19) = some (Option.getD (ea_r h a0 19) 0)) (gd (((Option.getD (ea_r h a0 19) 0) < ea_n h ∧ ea_c h (Option.getD (ea_r h a0 19) 0) = 20)) (gd (vp_in (x3 - (1 : Int32)) (ea_l h (Option.getD (ea_r h a0 19) 0))) (gd ((ea_r h a0 19) = some (Option.getD (ea_r h a0 19) 0)) (gd (((Option.getD (ea_r h a0 19) 0) < ea_n h ∧ ea_c h (Option.getD (ea_r h a0 19) 0) = 20)) (gd (vp_in x3 (ea_l h (Option.getD (ea_r h a0 19) 0))) (ea_let (ea_wi h (Option.getD (ea_r h a0 19) 0) (Int32.toNatClampNeg x3) (ea_i h (Option.getD (ea_r h a0 19) 0) (Int32.toNatClampNeg (x3 - (1 : Int32))))) fun H51 => (J89 ((x3 + ((-1) : Int32)) : Int32) (x4 : Int32) H51))))))))))))))))
theorem tBX5_tell_89 {d : Nat} {a0 : Nat} {h0 : ea_H} (hd : 3 ≤ d) {J89 : Int32 → Int32 → ea_H → Option (Int32 × ea_H)}  (kJ89 : ∀ (x3 : Int32) (x4 : Int32) (h : ea_H) (r : Int32) (h' : ea_H), J89 x3 x4 h = some (r, h') → ea_W mX5_tell d h0 (some (vI r)) h' 89 [(0, vR (some a0)), (3, vI x3), (4, vI x4)] [] h) {x3 : Int32} {x4 : Int32} {h : ea_H} {r : Int32} {h' : ea_H} (E : BX5_tell_89 a0 J89 x3 x4 h = some (r, h')) : ea_W mX5_tell d h0 (some (vI r)) h' 89 [(0, vR (some a0)), (3, vI x3), (4, vI x4)] [] h := by
  unfold BX5_tell_89 at E
  refine ea_iload_n (pc := 89) dX5_tell_89 rfl 1 rfl ?_
  refine ea_if_le (pc := 90) (tgt := 126) dX5_tell_90 rfl (fun c53 => ?_) (fun c53 => ?_)
  · have E := (if_pos c53).symm.trans E
    obtain ⟨f29, E⟩ := gd_some E
    refine ea_aload_n (pc := 126) dX5_tell_126 rfl 0 rfl ?_
    obtain ⟨e30, E⟩ := gd_some E
    refine ea_getR (pc := 127) dX5_tell_127 ec_5 (k := 19) (Nat.le_of_ble_eq_true rfl) rfl (Or.inl ew_554) f29.1 f29.2 rfl ?_
    refine ea_iload_n (pc := 130) dX5_tell_130 rfl 1 rfl ?_
    refine ea_iload (pc := 131) dX5_tell_131 2 rfl ?_
    obtain ⟨f31, E⟩ := gd_some E
    obtain ⟨z32, E⟩ := gd_some E
    obtain ⟨H33, eH33, E⟩ := let_some E
    refine ea_deref2 e30 ?_
    refine ea_iast (pc := 133) dX5_tell_133 f31.1 f31.2 z32 ?_
    refine ea_nm eH33 ?_
    refine ea_iconst (pc := 134) dX5_tell_134 (v := 1) rfl ?_
    exact ea_iretO (pc := 135) dX5_tell_135 rfl (ea_bn (Or.inr rfl)) E
  · have E := (if_neg c53).symm.trans E
    obtain ⟨f34, E⟩ := gd_some E
    refine ea_aload_n (pc := 93) dX5_tell_93 rfl 0 rfl ?_
    obtain ⟨e35, E⟩ := gd_some E
    refine ea_getR (pc := 94) dX5_tell_94 ec_5 (k := 19) (Nat.le_of_ble_eq_true rfl) rfl (Or.inl ew_554) f34.1 f34.2 rfl ?_
    refine ea_iload_n (pc := 97) dX5_tell_97 rfl 1 rfl ?_
    refine ea_iconst (pc := 98) dX5_tell_98 (v := 1) rfl ?_
    refine ea_isub (pc := 99) dX5_tell_99 ?_
    obtain ⟨f36, E⟩ := gd_some E
    obtain ⟨z37, E⟩ := gd_some E
    refine ea_deref1 e35 ?_
    refine ea_iald (pc := 100) dX5_tell_100 f36.1 f36.2 z37 ?_
    refine ea_iload (pc := 101) dX5_tell_101 2 rfl ?_
    refine ea_icmp_le (pc := 103) (tgt := 126) dX5_tell_103 rfl (fun c52 => ?_) (fun c52 => ?_)
    · have E := (if_pos c52).symm.trans E
      obtain ⟨f38, E⟩ := gd_some E
      refine ea_aload_n (pc := 126) dX5_tell_126 rfl 0 rfl ?_
      obtain ⟨e39, E⟩ := gd_some E
      refine ea_getR (pc := 127) dX5_tell_127 ec_5 (k := 19) (Nat.le_of_ble_eq_true rfl) rfl (Or.inl ew_554) f38.1 f38.2 rfl ?_
      refine ea_iload_n (pc := 130) dX5_tell_130 rfl 1 rfl ?_
      refine ea_iload (pc := 131) dX5_tell_131 2 rfl ?_
      obtain ⟨f40, E⟩ := gd_some E
      obtain ⟨z41, E⟩ := gd_some E
      obtain ⟨H42, eH42, E⟩ := let_some E
      refine ea_deref2 e39 ?_
      refine ea_iast (pc := 133) dX5_tell_133 f40.1 f40.2 z41 ?_
      refine ea_nm eH42 ?_
      refine ea_iconst (pc := 134) dX5_tell_134 (v := 1) rfl ?_
      exact ea_iretO (pc := 135) dX5_tell_135 rfl (ea_bn (Or.inr rfl)) E
    · have E := (if_neg c52).symm.trans E
      obtain ⟨f43, E⟩ := gd_some E
      refine ea_aload_n (pc := 106) dX5_tell_106 rfl 0 rfl ?_
      obtain ⟨f44, E⟩ := gd_some E
      refine ea_getR (pc := 107) dX5_tell_107 ec_5 (k := 19) (Nat.le_of_ble_eq_true rfl) rfl (Or.inl ew_554) f43.1 f43.2 rfl ?_
      refine ea_iload_n (pc := 110) dX5_tell_110 rfl 1 rfl ?_
      refine ea_aload_n (pc := 111) dX5_tell_111 rfl 0 rfl ?_
      obtain ⟨e45, E⟩ := gd_some E
      refine ea_getR (pc := 112) dX5_tell_112 ec_5 (k := 19) (Nat.le_of_ble_eq_true rfl) rfl (Or.inl ew_554) f44.1 f44.2 rfl ?_
      refine ea_iload_n (pc := 115) dX5_tell_115 rfl 1 rfl ?_
      refine ea_iconst (pc := 116) dX5_tell_116 (v := 1) rfl ?_
      refine ea_isub (pc := 117) dX5_tell_117 ?_
      obtain ⟨f46, E⟩ := gd_some E
      obtain ⟨z47, E⟩ := gd_some E
      obtain ⟨e48, E⟩ := gd_some E
      refine ea_deref1 e45 ?_
      refine ea_iald (pc := 118) dX5_tell_118 f46.1 f46.2 z47 ?_
      obtain ⟨f49, E⟩ := gd_some E
      obtain ⟨z50, E⟩ := gd_some E
      obtain ⟨H51, eH51, E⟩ := let_some E
      refine ea_deref2 e48 ?_
      refine ea_iast (pc := 119) dX5_tell_119 f49.1 f49.2 z50 ?_
      refine ea_nm eH51 ?_
      refine ea_iinc (pc := 120) (v := (-1)) (lv' := [(0, vR (some a0)), (3, vI (x3 + ((-1) : Int32))), (4, vI x4)]) dX5_tell_120 1 rfl rfl (Nat.le_of_ble_eq_true rfl) [1, 0, 2] rfl ?_
      refine ea_goto (pc := 123) (tgt := 89) dX5_tell_123 rfl ?_
      exact (kJ89 ((x3 + ((-1) : Int32)) : Int32) (x4 : Int32) H51 _ _ E)
theorem kBX5_tell_89 {a0 : Nat} {J89 : Int32 → Int32 → ea_H → Option (Int32 × ea_H)}  (cJ89 : ∀ (x3 : Int32) (x4 : Int32) (h : ea_H), kp (ea_core h) (J89 x3 x4 h)) {x3 : Int32} {x4 : Int32} {h : ea_H} : kp (ea_core h) (BX5_tell_89 a0 J89 x3 x4 h) :=
  (kp_ite (kp_gd (kp_gd (kp_gd (kp_gd (kp_let (kp_ret rfl)))))) (kp_gd (kp_gd (kp_gd (kp_gd (kp_ite (kp_gd (kp_gd (kp_gd (kp_gd (kp_let (kp_ret rfl)))))) (kp_gd (kp_gd (kp_gd (kp_gd (kp_gd (kp_gd (kp_gd (kp_gd (kp_let (kp_tw (cJ89 _ _ _) rfl))))))))))))))))
theorem lBX5_tell_89 {a0 : Nat} {J89 : Int32 → Int32 → ea_H → Option (Int32 × ea_H)} {J89_ : Int32 → Int32 → ea_H → Option (Int32 × ea_H)}  (mJ89 : ∀ (x3 : Int32) (x4 : Int32) (h : ea_H), fle (J89 x3 x4 h) (J89_ x3 x4 h)) {x3 : Int32} {x4 : Int32} {h : ea_H} : fle (BX5_tell_89 a0 J89 x3 x4 h) (BX5_tell_89 a0 J89_ x3 x4 h) :=
  (fle_ite (fle_rfl _) (fle_gd (fle_gd (fle_gd (fle_gd (fle_ite (fle_rfl _) (fle_gd (fle_gd (fle_gd (fle_gd (fle_gd (fle_gd (fle_gd (fle_gd (fle_let fun _ => (mJ89 _ _ _))))))))))))))))
theorem nBX5_tell_89 {a0 : Nat} {J89 : Int32 → Int32 → ea_H → Option (Int32 × ea_H)} {J89_ : Nat → (Int32 → Int32 → ea_H → Option (Int32 × ea_H))}  (mJ89 : ∀ (x3 : Int32) (x4 : Int32) (h : ea_H), fct (J89 x3 x4 h) (fun f => J89_ f x3 x4 h)) {x3 : Int32} {x4 : Int32} {h : ea_H} : fct (BX5_tell_89 a0 J89 x3 x4 h) (fun f => BX5_tell_89 a0 (J89_ f) x3 x4 h) :=
  (fct_ite (fct_rfl _) (fct_gd (fct_gd (fct_gd (fct_gd (fct_ite (fct_rfl _) (fct_gd (fct_gd (fct_gd (fct_gd (fct_gd (fct_gd (fct_gd (fct_gd (fct_let fun _ => (mJ89 _ _ _))))))))))))))))
noncomputable def gX5_tell (a0 : Nat) : Nat → (Int32 → Int32 → ea_H → Option (Int32 × ea_H)) × (Int32 → Int32 → ea_H → Option (Int32 × ea_H)) × (Int32 → Int32 → ea_H → Option (Int32 × ea_H))
  | 0 => (fun _ _ _ => none, fun _ _ _ => none, fun _ _ _ => none)
  | f + 1 => (BX5_tell_0 a0 (gX5_tell a0 f).2.1, BX5_tell_46 a0 (gX5_tell a0 f).2.1 (gX5_tell a0 f).2.2, BX5_tell_89 a0 (gX5_tell a0 f).2.2)
theorem mgX5_tell (a0 : Nat) : ∀ f : Nat, (∀ (x1 : Int32) (x2 : Int32) (h : ea_H), fle ((gX5_tell a0 f).1 x1 x2 h) ((gX5_tell a0 (f + 1)).1 x1 x2 h)) ∧ (∀ (x3 : Int32) (x4 : Int32) (h : ea_H), fle ((gX5_tell a0 f).2.1 x3 x4 h) ((gX5_tell a0 (f + 1)).2.1 x3 x4 h)) ∧ (∀ (x3 : Int32) (x4 : Int32) (h : ea_H), fle ((gX5_tell a0 f).2.2 x3 x4 h) ((gX5_tell a0 (f + 1)).2.2 x3 x4 h)) := by
  intro f
  induction f with
  | zero => exact ⟨fun _ _ _ => fle_none _, fun _ _ _ => fle_none _, fun _ _ _ => fle_none _⟩
  | succ f ih => exact ⟨fun _ _ _ => lBX5_tell_0 (a0 := a0) ih.2.1, fun _ _ _ => lBX5_tell_46 (a0 := a0) ih.2.1 ih.2.2, fun _ _ _ => lBX5_tell_89 (a0 := a0) ih.2.2⟩
noncomputable def qX5_tell_0 (a0 : Nat) (x1 : Int32) (x2 : Int32) (h : ea_H) : Option (Int32 × ea_H) := flim fun f => (gX5_tell a0 f).1 x1 x2 h
noncomputable def qX5_tell_46 (a0 : Nat) (x3 : Int32) (x4 : Int32) (h : ea_H) : Option (Int32 × ea_H) := flim fun f => (gX5_tell a0 f).2.1 x3 x4 h
noncomputable def qX5_tell_89 (a0 : Nat) (x3 : Int32) (x4 : Int32) (h : ea_H) : Option (Int32 × ea_H) := flim fun f => (gX5_tell a0 f).2.2 x3 x4 h
theorem fqX5_tell_0 (a0 : Nat) (x1 : Int32) (x2 : Int32) (h : ea_H) : fct (qX5_tell_0 a0 x1 x2 h) fun f => (gX5_tell a0 f).1 x1 x2 h := flim_ct fun f => (mgX5_tell a0 f).1 x1 x2 h
theorem fqX5_tell_46 (a0 : Nat) (x3 : Int32) (x4 : Int32) (h : ea_H) : fct (qX5_tell_46 a0 x3 x4 h) fun f => (gX5_tell a0 f).2.1 x3 x4 h := flim_ct fun f => (mgX5_tell a0 f).2.1 x3 x4 h
theorem fqX5_tell_89 (a0 : Nat) (x3 : Int32) (x4 : Int32) (h : ea_H) : fct (qX5_tell_89 a0 x3 x4 h) fun f => (gX5_tell a0 f).2.2 x3 x4 h := flim_ct fun f => (mgX5_tell a0 f).2.2 x3 x4 h
/-- how a block opens -/
theorem uqX5_tell_0 {a0 : Nat} {x1 : Int32} {x2 : Int32} {h : ea_H} {P : Int32 × ea_H → Prop} (H : sat (BX5_tell_0 a0 (qX5_tell_46 a0) x1 x2 h) P) : sat (qX5_tell_0 a0 x1 x2 h) P := by
  obtain ⟨x, e, hp⟩ := H
  obtain ⟨n, hn⟩ := nBX5_tell_0 (a0 := a0) (fqX5_tell_46 a0) x e
  exact ⟨x, flim_at (fun f => (mgX5_tell a0 f).1 x1 x2 h) (f := n + 1) (hn n (Nat.le_refl _)), hp⟩
/-- how a block opens -/
theorem uqX5_tell_46 {a0 : Nat} {x3 : Int32} {x4 : Int32} {h : ea_H} {P : Int32 × ea_H → Prop} (H : sat (BX5_tell_46 a0 (qX5_tell_46 a0) (qX5_tell_89 a0) x3 x4 h) P) : sat (qX5_tell_46 a0 x3 x4 h) P := by
  obtain ⟨x, e, hp⟩ := H
  obtain ⟨n, hn⟩ := nBX5_tell_46 (a0 := a0) (fqX5_tell_46 a0) (fqX5_tell_89 a0) x e
  exact ⟨x, flim_at (fun f => (mgX5_tell a0 f).2.1 x3 x4 h) (f := n + 1) (hn n (Nat.le_refl _)), hp⟩
/-- how a block opens -/
theorem uqX5_tell_89 {a0 : Nat} {x3 : Int32} {x4 : Int32} {h : ea_H} {P : Int32 × ea_H → Prop} (H : sat (BX5_tell_89 a0 (qX5_tell_89 a0) x3 x4 h) P) : sat (qX5_tell_89 a0 x3 x4 h) P := by
  obtain ⟨x, e, hp⟩ := H
  obtain ⟨n, hn⟩ := nBX5_tell_89 (a0 := a0) (fqX5_tell_89 a0) x e
  exact ⟨x, flim_at (fun f => (mgX5_tell a0 f).2.2 x3 x4 h) (f := n + 1) (hn n (Nat.le_refl _)), hp⟩
theorem kgX5_tell (a0 : Nat) : ∀ f : Nat, (∀ (x1 : Int32) (x2 : Int32) (h : ea_H), kp (ea_core h) ((gX5_tell a0 f).1 x1 x2 h)) ∧ (∀ (x3 : Int32) (x4 : Int32) (h : ea_H), kp (ea_core h) ((gX5_tell a0 f).2.1 x3 x4 h)) ∧ (∀ (x3 : Int32) (x4 : Int32) (h : ea_H), kp (ea_core h) ((gX5_tell a0 f).2.2 x3 x4 h)) := by
  intro f
  induction f with
  | zero => exact ⟨fun _ _ _ => kp_none _, fun _ _ _ => kp_none _, fun _ _ _ => kp_none _⟩
  | succ f ih => exact ⟨fun _ _ _ => kBX5_tell_0 (a0 := a0) ih.2.1, fun _ _ _ => kBX5_tell_46 (a0 := a0) ih.2.1 ih.2.2, fun _ _ _ => kBX5_tell_89 (a0 := a0) ih.2.2⟩
theorem tgX5_tell {d : Nat} {a0 : Nat} {h0 : ea_H} (hd : 3 ≤ d) : ∀ f : Nat, (∀ (x1 : Int32) (x2 : Int32) (h : ea_H) (r : Int32) (h' : ea_H), (gX5_tell a0 f).1 x1 x2 h = some (r, h') → ea_W mX5_tell d h0 (some (vI r)) h' 0 [(0, vR (some a0)), (1, vI x1), (2, vI x2)] [] h) ∧ (∀ (x3 : Int32) (x4 : Int32) (h : ea_H) (r : Int32) (h' : ea_H), (gX5_tell a0 f).2.1 x3 x4 h = some (r, h') → ea_W mX5_tell d h0 (some (vI r)) h' 46 [(0, vR (some a0)), (3, vI x3), (4, vI x4)] [] h) ∧ (∀ (x3 : Int32) (x4 : Int32) (h : ea_H) (r : Int32) (h' : ea_H), (gX5_tell a0 f).2.2 x3 x4 h = some (r, h') → ea_W mX5_tell d h0 (some (vI r)) h' 89 [(0, vR (some a0)), (3, vI x3), (4, vI x4)] [] h) := by
  intro f
  induction f with
  | zero => exact ⟨fun _ _ _ _ _ E => no_some E, fun _ _ _ _ _ E => no_some E, fun _ _ _ _ _ E => no_some E⟩
  | succ f ih => exact ⟨fun _ _ _ _ _ E => tBX5_tell_0 (a0 := a0) hd ih.2.1 E, fun _ _ _ _ _ E => tBX5_tell_46 (a0 := a0) hd ih.2.1 ih.2.2 E, fun _ _ _ _ _ E => tBX5_tell_89 (a0 := a0) hd ih.2.2 E⟩
noncomputable def qX5_tell (a0 : Nat) (x1 : Int32) (x2 : Int32) (h : ea_H) : Option (Int32 × ea_H) := qX5_tell_0 a0 x1 x2 h
theorem sX5_tell {d : Nat} {a0 : Nat} {x1 : Int32} {x2 : Int32} {h : ea_H} {r : Int32} {h' : ea_H} (hd : 3 ≤ d) (K : qX5_tell a0 x1 x2 h = some (r, h')) : ea_Met mX5_tell d [vR (some a0), vI x1, vI x2] h (some (vI r)) h' := by
  unfold qX5_tell at K
  obtain ⟨n, hn⟩ := fqX5_tell_0 a0 x1 x2 h _ K
  have W := (tgX5_tell (d := d) (h0 := h) hd n).1 x1 x2 h _ _ (hn n (Nat.le_refl _))
  exact ea_enter rfl (Nat.le_of_ble_eq_true rfl) W
theorem kpX5_tell (a0 : Nat) (x1 : Int32) (x2 : Int32) (h : ea_H) : kp (ea_core h) (qX5_tell a0 x1 x2 h) := fun x e => by
  obtain ⟨n, hn⟩ := fqX5_tell_0 a0 x1 x2 h x e
  exact (kgX5_tell a0 n).1 x1 x2 h x (hn n (Nat.le_refl _))
noncomputable def BX5_foundByAll_0 (a0 : Nat) (J8 : Int32 → Int64 → Int64 → Int32 → ea_H → Option (Int64 × ea_H)) (x1 : Int32) (h : ea_H) : Option (Int64 × ea_H) :=
  (J8 (x1 : Int32) (1 : Int64) (1 : Int64) (0 : Int32) h)
theorem tBX5_foundByAll_0 {d : Nat} {a0 : Nat} {h0 : ea_H} (hd : 2 ≤ d) {J8 : Int32 → Int64 → Int64 → Int32 → ea_H → Option (Int64 × ea_H)}  (kJ8 : ∀ (x1 : Int32) (y2 : Int64) (y4 : Int64) (x6 : Int32) (h : ea_H) (r : Int64) (h' : ea_H), J8 x1 y2 y4 x6 h = some (r, h') → ea_W mX5_foundByAll d h0 (some (vJ r)) h' 8 [(0, vR (some a0)), (1, vI x1), (2, vJ y2), (4, vJ y4), (6, vI x6)] [] h) {x1 : Int32} {h : ea_H} {r : Int64} {h' : ea_H} (E : BX5_foundByAll_0 a0 J8 x1 h = some (r, h')) : ea_W mX5_foundByAll d h0 (some (vJ r)) h' 0 [(0, vR (some a0)), (1, vI x1)] [] h := by
  unfold BX5_foundByAll_0 at E
  refine ea_lconst (pc := 0) dX5_foundByAll_0 (v := 1) rfl ?_
  refine ea_lstore_n (pc := 1) (lv' := [(0, vR (some a0)), (1, vI x1), (2, vJ 1)]) dX5_foundByAll_1 rfl (Nat.le_of_ble_eq_true rfl) [1, 2, 0] rfl ?_
  refine ea_lconst (pc := 2) dX5_foundByAll_2 (v := 1) rfl ?_
  refine ea_lstore (pc := 3) (lv' := [(0, vR (some a0)), (1, vI x1), (2, vJ 1), (4, vJ 1)]) dX5_foundByAll_3 (Nat.le_of_ble_eq_true rfl) [1, 2, 3, 0] rfl ?_
  refine ea_iconst (pc := 5) dX5_foundByAll_5 (v := 0) rfl ?_
  refine ea_istore (pc := 6) (lv' := [(0, vR (some a0)), (1, vI x1), (2, vJ 1), (4, vJ 1), (6, vI 0)]) dX5_foundByAll_6 (Nat.le_of_ble_eq_true rfl) [1, 2, 3, 4, 0] rfl ?_
  exact (kJ8 (x1 : Int32) (1 : Int64) (1 : Int64) (0 : Int32) h _ _ E)
theorem kBX5_foundByAll_0 {a0 : Nat} {J8 : Int32 → Int64 → Int64 → Int32 → ea_H → Option (Int64 × ea_H)}  (cJ8 : ∀ (x1 : Int32) (y2 : Int64) (y4 : Int64) (x6 : Int32) (h : ea_H), kp (ea_core h) (J8 x1 y2 y4 x6 h)) {x1 : Int32} {h : ea_H} : kp (ea_core h) (BX5_foundByAll_0 a0 J8 x1 h) :=
  (kp_tw (cJ8 _ _ _ _ _) rfl)
theorem lBX5_foundByAll_0 {a0 : Nat} {J8 : Int32 → Int64 → Int64 → Int32 → ea_H → Option (Int64 × ea_H)} {J8_ : Int32 → Int64 → Int64 → Int32 → ea_H → Option (Int64 × ea_H)}  (mJ8 : ∀ (x1 : Int32) (y2 : Int64) (y4 : Int64) (x6 : Int32) (h : ea_H), fle (J8 x1 y2 y4 x6 h) (J8_ x1 y2 y4 x6 h)) {x1 : Int32} {h : ea_H} : fle (BX5_foundByAll_0 a0 J8 x1 h) (BX5_foundByAll_0 a0 J8_ x1 h) :=
  (mJ8 _ _ _ _ _)
theorem nBX5_foundByAll_0 {a0 : Nat} {J8 : Int32 → Int64 → Int64 → Int32 → ea_H → Option (Int64 × ea_H)} {J8_ : Nat → (Int32 → Int64 → Int64 → Int32 → ea_H → Option (Int64 × ea_H))}  (mJ8 : ∀ (x1 : Int32) (y2 : Int64) (y4 : Int64) (x6 : Int32) (h : ea_H), fct (J8 x1 y2 y4 x6 h) (fun f => J8_ f x1 y2 y4 x6 h)) {x1 : Int32} {h : ea_H} : fct (BX5_foundByAll_0 a0 J8 x1 h) (fun f => BX5_foundByAll_0 a0 (J8_ f) x1 h) :=
  (mJ8 _ _ _ _ _)
noncomputable def BX5_foundByAll_8 (a0 : Nat) (J8 : Int32 → Int64 → Int64 → Int32 → ea_H → Option (Int64 × ea_H)) (J56 : Int32 → Int64 → Int64 → Int64 → Int64 → Int32 → ea_H → Option (Int64 × ea_H)) (x1 : Int32) (y2 : Int64) (y4 : Int64) (x6 : Int32) (h : ea_H) : Option (Int64 × ea_H) :=
  (gd ((a0 < ea_n h ∧ ea_c h a0 = 5)) (if (ea_i h a0 18) ≤ x6 then (J56 (x1 : Int32) (y2 : Int64) (y4 : Int64) (y2 : Int64) ((y2 - y4) : Int64) (0 : Int32) h) else (ea_let (y2 * (100 : Int64)) fun (v2 : Int64) => (gd ((a0 < ea_n h ∧ ea_c h a0 = 5)) (Option.bind (qX5_placeChance a0 (x6 : Int32) h) fun w3 => (ea_let (y4 * (Int32.toInt64 ((100 : Int32) - w3.1))) fun (v5 : Int64) => (J8 (x1 : Int32) (v2 : Int64) (v5 : Int64) ((x6 + (1 : Int32)) : Int32) w3.2)))))))
theorem tBX5_foundByAll_8 {d : Nat} {a0 : Nat} {h0 : ea_H} (hd : 2 ≤ d) {J8 : Int32 → Int64 → Int64 → Int32 → ea_H → Option (Int64 × ea_H)} {J56 : Int32 → Int64 → Int64 → Int64 → Int64 → Int32 → ea_H → Option (Int64 × ea_H)}  (kJ8 : ∀ (x1 : Int32) (y2 : Int64) (y4 : Int64) (x6 : Int32) (h : ea_H) (r : Int64) (h' : ea_H), J8 x1 y2 y4 x6 h = some (r, h') → ea_W mX5_foundByAll d h0 (some (vJ r)) h' 8 [(0, vR (some a0)), (1, vI x1), (2, vJ y2), (4, vJ y4), (6, vI x6)] [] h) (kJ56 : ∀ (x1 : Int32) (y2 : Int64) (y4 : Int64) (y6 : Int64) (y8 : Int64) (x10 : Int32) (h : ea_H) (r : Int64) (h' : ea_H), J56 x1 y2 y4 y6 y8 x10 h = some (r, h') → ea_W mX5_foundByAll d h0 (some (vJ r)) h' 56 [(1, vI x1), (2, vJ y2), (4, vJ y4), (6, vJ y6), (8, vJ y8), (10, vI x10)] [] h) {x1 : Int32} {y2 : Int64} {y4 : Int64} {x6 : Int32} {h : ea_H} {r : Int64} {h' : ea_H} (E : BX5_foundByAll_8 a0 J8 J56 x1 y2 y4 x6 h = some (r, h')) : ea_W mX5_foundByAll d h0 (some (vJ r)) h' 8 [(0, vR (some a0)), (1, vI x1), (2, vJ y2), (4, vJ y4), (6, vI x6)] [] h := by
  unfold BX5_foundByAll_8 at E
  obtain ⟨f1, E⟩ := gd_some E
  refine ea_iload (pc := 8) dX5_foundByAll_8 4 rfl ?_
  refine ea_aload_n (pc := 10) dX5_foundByAll_10 rfl 0 rfl ?_
  refine ea_getI (pc := 11) dX5_foundByAll_11 ec_5 (k := 18) (Nat.le_of_ble_eq_true rfl) rfl (Or.inl ew_552) f1.1 f1.2 ?_
  refine ea_icmp_ge (pc := 14) (tgt := 44) dX5_foundByAll_14 rfl (fun c6 => ?_) (fun c6 => ?_)
  · have E := (if_pos c6).symm.trans E
    refine ea_lload_n (pc := 44) dX5_foundByAll_44 rfl 2 rfl ?_
    refine ea_lstore (pc := 45) (lv' := [(1, vI x1), (2, vJ y2), (4, vJ y4), (6, vJ y2)]) dX5_foundByAll_45 (Nat.le_of_ble_eq_true rfl) [2, 3, 4, 0] rfl ?_
    refine ea_lload_n (pc := 47) dX5_foundByAll_47 rfl 1 rfl ?_
    refine ea_lload (pc := 48) dX5_foundByAll_48 2 rfl ?_
    refine ea_lsub (pc := 50) dX5_foundByAll_50 ?_
    refine ea_lstore (pc := 51) (lv' := [(1, vI x1), (2, vJ y2), (4, vJ y4), (6, vJ y2), (8, vJ (y2 - y4))]) dX5_foundByAll_51 (Nat.le_of_ble_eq_true rfl) [1, 2, 3, 4, 0] rfl ?_
    refine ea_iconst (pc := 53) dX5_foundByAll_53 (v := 0) rfl ?_
    refine ea_istore (pc := 54) (lv' := [(1, vI x1), (2, vJ y2), (4, vJ y4), (6, vJ y2), (8, vJ (y2 - y4)), (10, vI 0)]) dX5_foundByAll_54 (Nat.le_of_ble_eq_true rfl) [1, 2, 3, 4, 5, 0] rfl ?_
    exact (kJ56 (x1 : Int32) (y2 : Int64) (y4 : Int64) (y2 : Int64) ((y2 - y4) : Int64) (0 : Int32) h _ _ E)
  · have E := (if_neg c6).symm.trans E
    obtain ⟨v2, ev2, E⟩ := let_some E
    refine ea_lload_n (pc := 17) dX5_foundByAll_17 rfl 2 rfl ?_
    refine ea_ldc2 (pc := 18) dX5_foundByAll_18 ew_1286 ?_
    refine ea_lmul (pc := 21) dX5_foundByAll_21 ?_
    obtain ⟨f4, E⟩ := gd_some E
    refine ea_lstore_n (pc := 22) (lv' := [(0, vR (some a0)), (1, vI x1), (2, vJ v2), (4, vJ y4), (6, vI x6)]) dX5_foundByAll_22 rfl (Nat.le_of_ble_eq_true rfl) [1, 2, 0, 3, 4] (by rw [ev2]; rfl) ?_
    refine ea_lload (pc := 23) dX5_foundByAll_23 3 rfl ?_
    refine ea_bipush (pc := 25) dX5_foundByAll_25 (v := 100) rfl ?_
    refine ea_aload_n (pc := 27) dX5_foundByAll_27 rfl 0 rfl ?_
    refine ea_iload (pc := 28) dX5_foundByAll_28 4 rfl ?_
    obtain ⟨w3, Ew3, E⟩ := bd_some E
    refine ea_callV (pc := 30) (d' := d - 1) (As := [vI x6]) (st := [vI 100, vJ y4]) dX5_foundByAll_30 kX5_placeChance (sX5_placeChance (d := d - 1) (by omega) Ew3) (by omega) rfl (Nat.le_of_ble_eq_true rfl) ew_1287 ew_1288 ew_1289 (ci := 5) rfl (by decide) f4.1 f4.2 ?_
    obtain ⟨v5, ev5, E⟩ := let_some E
    refine ea_isub (pc := 33) dX5_foundByAll_33 ?_
    refine ea_i2l (pc := 34) dX5_foundByAll_34 ?_
    refine ea_lmul (pc := 35) dX5_foundByAll_35 ?_
    refine ea_lstore (pc := 36) (lv' := [(0, vR (some a0)), (1, vI x1), (2, vJ v2), (4, vJ v5), (6, vI x6)]) dX5_foundByAll_36 (Nat.le_of_ble_eq_true rfl) [1, 2, 3, 0, 4] (by rw [ev5]; rfl) ?_
    refine ea_iinc (pc := 38) (v := 1) (lv' := [(0, vR (some a0)), (1, vI x1), (2, vJ v2), (4, vJ v5), (6, vI (x6 + (1 : Int32)))]) dX5_foundByAll_38 4 rfl rfl (Nat.le_of_ble_eq_true rfl) [1, 2, 3, 4, 0] rfl ?_
    refine ea_goto (pc := 41) (tgt := 8) dX5_foundByAll_41 rfl ?_
    exact (kJ8 (x1 : Int32) (v2 : Int64) (v5 : Int64) ((x6 + (1 : Int32)) : Int32) w3.2 _ _ E)
theorem kBX5_foundByAll_8 {a0 : Nat} {J8 : Int32 → Int64 → Int64 → Int32 → ea_H → Option (Int64 × ea_H)} {J56 : Int32 → Int64 → Int64 → Int64 → Int64 → Int32 → ea_H → Option (Int64 × ea_H)}  (cJ8 : ∀ (x1 : Int32) (y2 : Int64) (y4 : Int64) (x6 : Int32) (h : ea_H), kp (ea_core h) (J8 x1 y2 y4 x6 h)) (cJ56 : ∀ (x1 : Int32) (y2 : Int64) (y4 : Int64) (y6 : Int64) (y8 : Int64) (x10 : Int32) (h : ea_H), kp (ea_core h) (J56 x1 y2 y4 y6 y8 x10 h)) {x1 : Int32} {y2 : Int64} {y4 : Int64} {x6 : Int32} {h : ea_H} : kp (ea_core h) (BX5_foundByAll_8 a0 J8 J56 x1 y2 y4 x6 h) :=
  (kp_gd (kp_ite (kp_tw (cJ56 _ _ _ _ _ _ _) rfl) (kp_let (kp_gd (kp_bind (kp_tw (kpX5_placeChance _ _ _) rfl) fun w3 hcw3 => (kp_let (kp_tw (cJ8 _ _ _ _ _) hcw3)))))))
theorem lBX5_foundByAll_8 {a0 : Nat} {J8 : Int32 → Int64 → Int64 → Int32 → ea_H → Option (Int64 × ea_H)} {J56 : Int32 → Int64 → Int64 → Int64 → Int64 → Int32 → ea_H → Option (Int64 × ea_H)} {J8_ : Int32 → Int64 → Int64 → Int32 → ea_H → Option (Int64 × ea_H)} {J56_ : Int32 → Int64 → Int64 → Int64 → Int64 → Int32 → ea_H → Option (Int64 × ea_H)}  (mJ8 : ∀ (x1 : Int32) (y2 : Int64) (y4 : Int64) (x6 : Int32) (h : ea_H), fle (J8 x1 y2 y4 x6 h) (J8_ x1 y2 y4 x6 h)) (mJ56 : ∀ (x1 : Int32) (y2 : Int64) (y4 : Int64) (y6 : Int64) (y8 : Int64) (x10 : Int32) (h : ea_H), fle (J56 x1 y2 y4 y6 y8 x10 h) (J56_ x1 y2 y4 y6 y8 x10 h)) {x1 : Int32} {y2 : Int64} {y4 : Int64} {x6 : Int32} {h : ea_H} : fle (BX5_foundByAll_8 a0 J8 J56 x1 y2 y4 x6 h) (BX5_foundByAll_8 a0 J8_ J56_ x1 y2 y4 x6 h) :=
  (fle_gd (fle_ite (mJ56 _ _ _ _ _ _ _) (fle_let fun _ => (fle_gd (fle_bind (fle_rfl _) fun _ => (fle_let fun _ => (mJ8 _ _ _ _ _)))))))
theorem nBX5_foundByAll_8 {a0 : Nat} {J8 : Int32 → Int64 → Int64 → Int32 → ea_H → Option (Int64 × ea_H)} {J56 : Int32 → Int64 → Int64 → Int64 → Int64 → Int32 → ea_H → Option (Int64 × ea_H)} {J8_ : Nat → (Int32 → Int64 → Int64 → Int32 → ea_H → Option (Int64 × ea_H))} {J56_ : Nat → (Int32 → Int64 → Int64 → Int64 → Int64 → Int32 → ea_H → Option (Int64 × ea_H))}  (mJ8 : ∀ (x1 : Int32) (y2 : Int64) (y4 : Int64) (x6 : Int32) (h : ea_H), fct (J8 x1 y2 y4 x6 h) (fun f => J8_ f x1 y2 y4 x6 h)) (mJ56 : ∀ (x1 : Int32) (y2 : Int64) (y4 : Int64) (y6 : Int64) (y8 : Int64) (x10 : Int32) (h : ea_H), fct (J56 x1 y2 y4 y6 y8 x10 h) (fun f => J56_ f x1 y2 y4 y6 y8 x10 h)) {x1 : Int32} {y2 : Int64} {y4 : Int64} {x6 : Int32} {h : ea_H} : fct (BX5_foundByAll_8 a0 J8 J56 x1 y2 y4 x6 h) (fun f => BX5_foundByAll_8 a0 (J8_ f) (J56_ f) x1 y2 y4 x6 h) :=
  (fct_gd (fct_ite (mJ56 _ _ _ _ _ _ _) (fct_let fun _ => (fct_gd (fct_bind (fct_rfl _) fun _ => (fct_let fun _ => (mJ8 _ _ _ _ _)))))))
noncomputable def BX5_foundByAll_56 (a0 : Nat) (J56 : Int32 → Int64 → Int64 → Int64 → Int64 → Int32 → ea_H → Option (Int64 × ea_H)) (J91 : Int32 → Int64 → Int64 → Int64 → ea_H → Option (Int64 × ea_H)) (x1 : Int32) (y2 : Int64) (y4 : Int64) (y6 : Int64) (y8 : Int64) (x10 : Int32) (h : ea_H) : Option (Int64 × ea_H) :=
  (if (100 : Int32) ≤ x10 then (J91 (x1 : Int32) (y2 : Int64) (y4 : Int64) (y6 : Int64) h) else (if (lg_cmp y8 (0 : Int64)) ≤ (0 : Int32) then (J91 (x1 : Int32) (y2 : Int64) (y4 : Int64) (y6 : Int64) h) else (gd ((¬ y8 = 0)) (ea_let (y6 - y6 / y8 * y8) fun (v8 : Int64) => (J56 (x1 : Int32) (y2 : Int64) (y4 : Int64) (y8 : Int64) (v8 : Int64) ((x10 + (1 : Int32)) : Int32) h)))))
theorem tBX5_foundByAll_56 {d : Nat} {a0 : Nat} {h0 : ea_H} (hd : 2 ≤ d) {J56 : Int32 → Int64 → Int64 → Int64 → Int64 → Int32 → ea_H → Option (Int64 × ea_H)} {J91 : Int32 → Int64 → Int64 → Int64 → ea_H → Option (Int64 × ea_H)}  (kJ56 : ∀ (x1 : Int32) (y2 : Int64) (y4 : Int64) (y6 : Int64) (y8 : Int64) (x10 : Int32) (h : ea_H) (r : Int64) (h' : ea_H), J56 x1 y2 y4 y6 y8 x10 h = some (r, h') → ea_W mX5_foundByAll d h0 (some (vJ r)) h' 56 [(1, vI x1), (2, vJ y2), (4, vJ y4), (6, vJ y6), (8, vJ y8), (10, vI x10)] [] h) (kJ91 : ∀ (x1 : Int32) (y2 : Int64) (y4 : Int64) (y6 : Int64) (h : ea_H) (r : Int64) (h' : ea_H), J91 x1 y2 y4 y6 h = some (r, h') → ea_W mX5_foundByAll d h0 (some (vJ r)) h' 91 [(1, vI x1), (2, vJ y2), (4, vJ y4), (6, vJ y6)] [] h) {x1 : Int32} {y2 : Int64} {y4 : Int64} {y6 : Int64} {y8 : Int64} {x10 : Int32} {h : ea_H} {r : Int64} {h' : ea_H} (E : BX5_foundByAll_56 a0 J56 J91 x1 y2 y4 y6 y8 x10 h = some (r, h')) : ea_W mX5_foundByAll d h0 (some (vJ r)) h' 56 [(1, vI x1), (2, vJ y2), (4, vJ y4), (6, vJ y6), (8, vJ y8), (10, vI x10)] [] h := by
  unfold BX5_foundByAll_56 at E
  refine ea_iload (pc := 56) dX5_foundByAll_56 5 rfl ?_
  refine ea_bipush (pc := 58) dX5_foundByAll_58 (v := 100) rfl ?_
  refine ea_icmp_ge (pc := 60) (tgt := 91) dX5_foundByAll_60 rfl (fun c10 => ?_) (fun c10 => ?_)
  · have E := (if_pos c10).symm.trans E
    exact ea_fewer [0, 1, 2, 3] rfl (kJ91 (x1 : Int32) (y2 : Int64) (y4 : Int64) (y6 : Int64) h _ _ E)
  · have E := (if_neg c10).symm.trans E
    refine ea_lload (pc := 63) dX5_foundByAll_63 4 rfl ?_
    refine ea_lconst (pc := 65) dX5_foundByAll_65 (v := 0) rfl ?_
    refine ea_lcmp (pc := 66) dX5_foundByAll_66 ?_
    refine ea_if_le (pc := 67) (tgt := 91) dX5_foundByAll_67 rfl (fun c9 => ?_) (fun c9 => ?_)
    · have E := (if_pos c9).symm.trans E
      exact ea_fewer [0, 1, 2, 3] rfl (kJ91 (x1 : Int32) (y2 : Int64) (y4 : Int64) (y6 : Int64) h _ _ E)
    · have E := (if_neg c9).symm.trans E
      obtain ⟨z7, E⟩ := gd_some E
      refine ea_lload (pc := 70) dX5_foundByAll_70 3 rfl ?_
      refine ea_lload (pc := 72) dX5_foundByAll_72 4 rfl ?_
      obtain ⟨v8, ev8, E⟩ := let_some E
      refine ea_lrem (pc := 74) dX5_foundByAll_74 z7 ?_
      refine ea_lstore (pc := 75) (lv' := [(1, vI x1), (2, vJ y2), (4, vJ y4), (8, vJ y8), (10, vI x10), (11, vJ v8)]) dX5_foundByAll_75 (Nat.le_of_ble_eq_true rfl) [1, 2, 3, 5, 6, 0] (by rw [ev8]; rfl) ?_
      refine ea_lload (pc := 77) dX5_foundByAll_77 3 rfl ?_
      refine ea_lstore (pc := 79) (lv' := [(1, vI x1), (2, vJ y2), (4, vJ y4), (6, vJ y8), (10, vI x10), (11, vJ v8)]) dX5_foundByAll_79 (Nat.le_of_ble_eq_true rfl) [1, 2, 3, 0, 5, 6] rfl ?_
      refine ea_lload (pc := 81) dX5_foundByAll_81 5 rfl ?_
      refine ea_lstore (pc := 83) (lv' := [(1, vI x1), (2, vJ y2), (4, vJ y4), (6, vJ y8), (8, vJ v8), (10, vI x10)]) dX5_foundByAll_83 (Nat.le_of_ble_eq_true rfl) [1, 2, 3, 4, 0, 5] rfl ?_
      refine ea_iinc (pc := 85) (v := 1) (lv' := [(1, vI x1), (2, vJ y2), (4, vJ y4), (6, vJ y8), (8, vJ v8), (10, vI (x10 + (1 : Int32)))]) dX5_foundByAll_85 5 rfl rfl (Nat.le_of_ble_eq_true rfl) [1, 2, 3, 4, 5, 0] rfl ?_
      refine ea_goto (pc := 88) (tgt := 56) dX5_foundByAll_88 rfl ?_
      exact (kJ56 (x1 : Int32) (y2 : Int64) (y4 : Int64) (y8 : Int64) (v8 : Int64) ((x10 + (1 : Int32)) : Int32) h _ _ E)
theorem kBX5_foundByAll_56 {a0 : Nat} {J56 : Int32 → Int64 → Int64 → Int64 → Int64 → Int32 → ea_H → Option (Int64 × ea_H)} {J91 : Int32 → Int64 → Int64 → Int64 → ea_H → Option (Int64 × ea_H)}  (cJ56 : ∀ (x1 : Int32) (y2 : Int64) (y4 : Int64) (y6 : Int64) (y8 : Int64) (x10 : Int32) (h : ea_H), kp (ea_core h) (J56 x1 y2 y4 y6 y8 x10 h)) (cJ91 : ∀ (x1 : Int32) (y2 : Int64) (y4 : Int64) (y6 : Int64) (h : ea_H), kp (ea_core h) (J91 x1 y2 y4 y6 h)) {x1 : Int32} {y2 : Int64} {y4 : Int64} {y6 : Int64} {y8 : Int64} {x10 : Int32} {h : ea_H} : kp (ea_core h) (BX5_foundByAll_56 a0 J56 J91 x1 y2 y4 y6 y8 x10 h) :=
  (kp_ite (kp_tw (cJ91 _ _ _ _ _) rfl) (kp_ite (kp_tw (cJ91 _ _ _ _ _) rfl) (kp_gd (kp_let (kp_tw (cJ56 _ _ _ _ _ _ _) rfl)))))
theorem lBX5_foundByAll_56 {a0 : Nat} {J56 : Int32 → Int64 → Int64 → Int64 → Int64 → Int32 → ea_H → Option (Int64 × ea_H)} {J91 : Int32 → Int64 → Int64 → Int64 → ea_H → Option (Int64 × ea_H)} {J56_ : Int32 → Int64 → Int64 → Int64 → Int64 → Int32 → ea_H → Option (Int64 × ea_H)} {J91_ : Int32 → Int64 → Int64 → Int64 → ea_H → Option (Int64 × ea_H)}  (mJ56 : ∀ (x1 : Int32) (y2 : Int64) (y4 : Int64) (y6 : Int64) (y8 : Int64) (x10 : Int32) (h : ea_H), fle (J56 x1 y2 y4 y6 y8 x10 h) (J56_ x1 y2 y4 y6 y8 x10 h)) (mJ91 : ∀ (x1 : Int32) (y2 : Int64) (y4 : Int64) (y6 : Int64) (h : ea_H), fle (J91 x1 y2 y4 y6 h) (J91_ x1 y2 y4 y6 h)) {x1 : Int32} {y2 : Int64} {y4 : Int64} {y6 : Int64} {y8 : Int64} {x10 : Int32} {h : ea_H} : fle (BX5_foundByAll_56 a0 J56 J91 x1 y2 y4 y6 y8 x10 h) (BX5_foundByAll_56 a0 J56_ J91_ x1 y2 y4 y6 y8 x10 h) :=
  (fle_ite (mJ91 _ _ _ _ _) (fle_ite (mJ91 _ _ _ _ _) (fle_gd (fle_let fun _ => (mJ56 _ _ _ _ _ _ _)))))
theorem nBX5_foundByAll_56 {a0 : Nat} {J56 : Int32 → Int64 → Int64 → Int64 → Int64 → Int32 → ea_H → Option (Int64 × ea_H)} {J91 : Int32 → Int64 → Int64 → Int64 → ea_H → Option (Int64 × ea_H)} {J56_ : Nat → (Int32 → Int64 → Int64 → Int64 → Int64 → Int32 → ea_H → Option (Int64 × ea_H))} {J91_ : Nat → (Int32 → Int64 → Int64 → Int64 → ea_H → Option (Int64 × ea_H))}  (mJ56 : ∀ (x1 : Int32) (y2 : Int64) (y4 : Int64) (y6 : Int64) (y8 : Int64) (x10 : Int32) (h : ea_H), fct (J56 x1 y2 y4 y6 y8 x10 h) (fun f => J56_ f x1 y2 y4 y6 y8 x10 h)) (mJ91 : ∀ (x1 : Int32) (y2 : Int64) (y4 : Int64) (y6 : Int64) (h : ea_H), fct (J91 x1 y2 y4 y6 h) (fun f => J91_ f x1 y2 y4 y6 h)) {x1 : Int32} {y2 : Int64} {y4 : Int64} {y6 : Int64} {y8 : Int64} {x10 : Int32} {h : ea_H} : fct (BX5_foundByAll_56 a0 J56 J91 x1 y2 y4 y6 y8 x10 h) (fun f => BX5_foundByAll_56 a0 (J56_ f) (J91_ f) x1 y2 y4 y6 y8 x10 h) :=
  (fct_ite (mJ91 _ _ _ _ _) (fct_ite (mJ91 _ _ _ _ _) (fct_gd (fct_let fun _ => (mJ56 _ _ _ _ _ _ _)))))
noncomputable def BX5_foundByAll_91 (a0 : Nat) (x1 : Int32) (y2 : Int64) (y4 : Int64) (y6 : Int64) (h : ea_H) : Option (Int64 × ea_H) :=
  (if (lg_cmp y6 (0 : Int64)) = (0 : Int32) then (some (((-1) : Int64), h)) else (if x1 = (0 : Int32) then (gd ((¬ y6 = 0)) (some ((y2 / y6), h))) else (gd ((¬ y6 = 0)) (some (((y2 - y4) / y6), h)))))
theorem tBX5_foundByAll_91 {d : Nat} {a0 : Nat} {h0 : ea_H} (hd : 2 ≤ d)  {x1 : Int32} {y2 : Int64} {y4 : Int64} {y6 : Int64} {h : ea_H} {r : Int64} {h' : ea_H} (E : BX5_foundByAll_91 a0 x1 y2 y4 y6 h = some (r, h')) : ea_W mX5_foundByAll d h0 (some (vJ r)) h' 91 [(1, vI x1), (2, vJ y2), (4, vJ y4), (6, vJ y6)] [] h := by
  unfold BX5_foundByAll_91 at E
  refine ea_lload (pc := 91) dX5_foundByAll_91 3 rfl ?_
  refine ea_lconst (pc := 93) dX5_foundByAll_93 (v := 0) rfl ?_
  refine ea_lcmp (pc := 94) dX5_foundByAll_94 ?_
  refine ea_if_ne (pc := 95) (tgt := 102) dX5_foundByAll_95 rfl (fun c14 => ?_) (fun c14 => ?_)
  · have E := (if_neg c14).symm.trans E
    refine ea_iload_n (pc := 102) dX5_foundByAll_102 rfl 0 rfl ?_
    refine ea_if_eq (pc := 103) (tgt := 113) dX5_foundByAll_103 rfl (fun c13 => ?_) (fun c13 => ?_)
    · have E := (if_pos c13).symm.trans E
      obtain ⟨z11, E⟩ := gd_some E
      refine ea_lload_n (pc := 113) dX5_foundByAll_113 rfl 1 rfl ?_
      refine ea_lload (pc := 114) dX5_foundByAll_114 3 rfl ?_
      refine ea_ldiv (pc := 116) dX5_foundByAll_116 z11 ?_
      exact ea_lretO (pc := 117) dX5_foundByAll_117 rfl E
    · have E := (if_neg c13).symm.trans E
      obtain ⟨z12, E⟩ := gd_some E
      refine ea_lload_n (pc := 106) dX5_foundByAll_106 rfl 1 rfl ?_
      refine ea_lload (pc := 107) dX5_foundByAll_107 2 rfl ?_
      refine ea_lsub (pc := 109) dX5_foundByAll_109 ?_
      refine ea_goto (pc := 110) (tgt := 114) dX5_foundByAll_110 rfl ?_
      refine ea_lload (pc := 114) dX5_foundByAll_114 3 rfl ?_
      refine ea_ldiv (pc := 116) dX5_foundByAll_116 z12 ?_
      exact ea_lretO (pc := 117) dX5_foundByAll_117 rfl E
  · have E := (if_pos c14).symm.trans E
    refine ea_ldc2 (pc := 98) dX5_foundByAll_98 ew_1291 ?_
    exact ea_lretO (pc := 101) dX5_foundByAll_101 rfl E
theorem kBX5_foundByAll_91 {a0 : Nat}  {x1 : Int32} {y2 : Int64} {y4 : Int64} {y6 : Int64} {h : ea_H} : kp (ea_core h) (BX5_foundByAll_91 a0 x1 y2 y4 y6 h) :=
  (kp_ite (kp_ret rfl) (kp_ite (kp_gd (kp_ret rfl)) (kp_gd (kp_ret rfl))))
theorem lBX5_foundByAll_91 {a0 : Nat}  {x1 : Int32} {y2 : Int64} {y4 : Int64} {y6 : Int64} {h : ea_H} : fle (BX5_foundByAll_91 a0 x1 y2 y4 y6 h) (BX5_foundByAll_91 a0 x1 y2 y4 y6 h) :=
  (fle_rfl _)
theorem nBX5_foundByAll_91 {a0 : Nat}  {x1 : Int32} {y2 : Int64} {y4 : Int64} {y6 : Int64} {h : ea_H} : fct (BX5_foundByAll_91 a0 x1 y2 y4 y6 h) (fun f => BX5_foundByAll_91 a0 x1 y2 y4 y6 h) :=
  (fct_rfl _)
noncomputable def gX5_foundByAll (a0 : Nat) : Nat → (Int32 → ea_H → Option (Int64 × ea_H)) × (Int32 → Int64 → Int64 → Int32 → ea_H → Option (Int64 × ea_H)) × (Int32 → Int64 → Int64 → Int64 → Int64 → Int32 → ea_H → Option (Int64 × ea_H)) × (Int32 → Int64 → Int64 → Int64 → ea_H → Option (Int64 × ea_H))
  | 0 => (fun _ _ => none, fun _ _ _ _ _ => none, fun _ _ _ _ _ _ _ => none, fun _ _ _ _ _ => none)
  | f + 1 => (BX5_foundByAll_0 a0 (gX5_foundByAll a0 f).2.1, BX5_foundByAll_8 a0 (gX5_foundByAll a0 f).2.1 (gX5_foundByAll a0 f).2.2.1, BX5_foundByAll_56 a0 (gX5_foundByAll a0 f).2.2.1 (gX5_foundByAll a0 f).2.2.2, BX5_foundByAll_91 a0)
theorem mgX5_foundByAll (a0 : Nat) : ∀ f : Nat, (∀ (x1 : Int32) (h : ea_H), fle ((gX5_foundByAll a0 f).1 x1 h) ((gX5_foundByAll a0 (f + 1)).1 x1 h)) ∧ (∀ (x1 : Int32) (y2 : Int64) (y4 : Int64) (x6 : Int32) (h : ea_H), fle ((gX5_foundByAll a0 f).2.1 x1 y2 y4 x6 h) ((gX5_foundByAll a0 (f + 1)).2.1 x1 y2 y4 x6 h)) ∧ (∀ (x1 : Int32) (y2 : Int64) (y4 : Int64) (y6 : Int64) (y8 : Int64) (x10 : Int32) (h : ea_H), fle ((gX5_foundByAll a0 f).2.2.1 x1 y2 y4 y6 y8 x10 h) ((gX5_foundByAll a0 (f + 1)).2.2.1 x1 y2 y4 y6 y8 x10 h)) ∧ (∀ (x1 : Int32) (y2 : Int64) (y4 : Int64) (y6 : Int64) (h : ea_H), fle ((gX5_foundByAll a0 f).2.2.2 x1 y2 y4 y6 h) ((gX5_foundByAll a0 (f + 1)).2.2.2 x1 y2 y4 y6 h)) := by
  intro f
  induction f with
  | zero => exact ⟨fun _ _ => fle_none _, fun _ _ _ _ _ => fle_none _, fun _ _ _ _ _ _ _ => fle_none _, fun _ _ _ _ _ => fle_none _⟩
  | succ f ih => exact ⟨fun _ _ => lBX5_foundByAll_0 (a0 := a0) ih.2.1, fun _ _ _ _ _ => lBX5_foundByAll_8 (a0 := a0) ih.2.1 ih.2.2.1, fun _ _ _ _ _ _ _ => lBX5_foundByAll_56 (a0 := a0) ih.2.2.1 ih.2.2.2, fun _ _ _ _ _ => lBX5_foundByAll_91 (a0 := a0)⟩
noncomputable def qX5_foundByAll_0 (a0 : Nat) (x1 : Int32) (h : ea_H) : Option (Int64 × ea_H) := flim fun f => (gX5_foundByAll a0 f).1 x1 h
noncomputable def qX5_foundByAll_8 (a0 : Nat) (x1 : Int32) (y2 : Int64) (y4 : Int64) (x6 : Int32) (h : ea_H) : Option (Int64 × ea_H) := flim fun f => (gX5_foundByAll a0 f).2.1 x1 y2 y4 x6 h
noncomputable def qX5_foundByAll_56 (a0 : Nat) (x1 : Int32) (y2 : Int64) (y4 : Int64) (y6 : Int64) (y8 : Int64) (x10 : Int32) (h : ea_H) : Option (Int64 × ea_H) := flim fun f => (gX5_foundByAll a0 f).2.2.1 x1 y2 y4 y6 y8 x10 h
noncomputable def qX5_foundByAll_91 (a0 : Nat) (x1 : Int32) (y2 : Int64) (y4 : Int64) (y6 : Int64) (h : ea_H) : Option (Int64 × ea_H) := flim fun f => (gX5_foundByAll a0 f).2.2.2 x1 y2 y4 y6 h
theorem fqX5_foundByAll_0 (a0 : Nat) (x1 : Int32) (h : ea_H) : fct (qX5_foundByAll_0 a0 x1 h) fun f => (gX5_foundByAll a0 f).1 x1 h := flim_ct fun f => (mgX5_foundByAll a0 f).1 x1 h
theorem fqX5_foundByAll_8 (a0 : Nat) (x1 : Int32) (y2 : Int64) (y4 : Int64) (x6 : Int32) (h : ea_H) : fct (qX5_foundByAll_8 a0 x1 y2 y4 x6 h) fun f => (gX5_foundByAll a0 f).2.1 x1 y2 y4 x6 h := flim_ct fun f => (mgX5_foundByAll a0 f).2.1 x1 y2 y4 x6 h
theorem fqX5_foundByAll_56 (a0 : Nat) (x1 : Int32) (y2 : Int64) (y4 : Int64) (y6 : Int64) (y8 : Int64) (x10 : Int32) (h : ea_H) : fct (qX5_foundByAll_56 a0 x1 y2 y4 y6 y8 x10 h) fun f => (gX5_foundByAll a0 f).2.2.1 x1 y2 y4 y6 y8 x10 h := flim_ct fun f => (mgX5_foundByAll a0 f).2.2.1 x1 y2 y4 y6 y8 x10 h
theorem fqX5_foundByAll_91 (a0 : Nat) (x1 : Int32) (y2 : Int64) (y4 : Int64) (y6 : Int64) (h : ea_H) : fct (qX5_foundByAll_91 a0 x1 y2 y4 y6 h) fun f => (gX5_foundByAll a0 f).2.2.2 x1 y2 y4 y6 h := flim_ct fun f => (mgX5_foundByAll a0 f).2.2.2 x1 y2 y4 y6 h
/-- how a block opens -/
theorem uqX5_foundByAll_0 {a0 : Nat} {x1 : Int32} {h : ea_H} {P : Int64 × ea_H → Prop} (H : sat (BX5_foundByAll_0 a0 (qX5_foundByAll_8 a0) x1 h) P) : sat (qX5_foundByAll_0 a0 x1 h) P := by
  obtain ⟨x, e, hp⟩ := H
  obtain ⟨n, hn⟩ := nBX5_foundByAll_0 (a0 := a0) (fqX5_foundByAll_8 a0) x e
  exact ⟨x, flim_at (fun f => (mgX5_foundByAll a0 f).1 x1 h) (f := n + 1) (hn n (Nat.le_refl _)), hp⟩
/-- how a block opens -/
theorem uqX5_foundByAll_8 {a0 : Nat} {x1 : Int32} {y2 : Int64} {y4 : Int64} {x6 : Int32} {h : ea_H} {P : Int64 × ea_H → Prop} (H : sat (BX5_foundByAll_8 a0 (qX5_foundByAll_8 a0) (qX5_foundByAll_56 a0) x1 y2 y4 x6 h) P) : sat (qX5_foundByAll_8 a0 x1 y2 y4 x6 h) P := by
  obtain ⟨x, e, hp⟩ := H
  obtain ⟨n, hn⟩ := nBX5_foundByAll_8 (a0 := a0) (fqX5_foundByAll_8 a0) (fqX5_foundByAll_56 a0) x e
  exact ⟨x, flim_at (fun f => (mgX5_foundByAll a0 f).2.1 x1 y2 y4 x6 h) (f := n + 1) (hn n (Nat.le_refl _)), hp⟩
/-- how a block opens -/
theorem uqX5_foundByAll_56 {a0 : Nat} {x1 : Int32} {y2 : Int64} {y4 : Int64} {y6 : Int64} {y8 : Int64} {x10 : Int32} {h : ea_H} {P : Int64 × ea_H → Prop} (H : sat (BX5_foundByAll_56 a0 (qX5_foundByAll_56 a0) (qX5_foundByAll_91 a0) x1 y2 y4 y6 y8 x10 h) P) : sat (qX5_foundByAll_56 a0 x1 y2 y4 y6 y8 x10 h) P := by
  obtain ⟨x, e, hp⟩ := H
  obtain ⟨n, hn⟩ := nBX5_foundByAll_56 (a0 := a0) (fqX5_foundByAll_56 a0) (fqX5_foundByAll_91 a0) x e
  exact ⟨x, flim_at (fun f => (mgX5_foundByAll a0 f).2.2.1 x1 y2 y4 y6 y8 x10 h) (f := n + 1) (hn n (Nat.le_refl _)), hp⟩
/-- how a block opens -/
theorem uqX5_foundByAll_91 {a0 : Nat} {x1 : Int32} {y2 : Int64} {y4 : Int64} {y6 : Int64} {h : ea_H} {P : Int64 × ea_H → Prop} (H : sat (BX5_foundByAll_91 a0 x1 y2 y4 y6 h) P) : sat (qX5_foundByAll_91 a0 x1 y2 y4 y6 h) P := by
  obtain ⟨x, e, hp⟩ := H
  obtain ⟨n, hn⟩ := nBX5_foundByAll_91 (a0 := a0) x e
  exact ⟨x, flim_at (fun f => (mgX5_foundByAll a0 f).2.2.2 x1 y2 y4 y6 h) (f := n + 1) (hn n (Nat.le_refl _)), hp⟩
theorem kgX5_foundByAll (a0 : Nat) : ∀ f : Nat, (∀ (x1 : Int32) (h : ea_H), kp (ea_core h) ((gX5_foundByAll a0 f).1 x1 h)) ∧ (∀ (x1 : Int32) (y2 : Int64) (y4 : Int64) (x6 : Int32) (h : ea_H), kp (ea_core h) ((gX5_foundByAll a0 f).2.1 x1 y2 y4 x6 h)) ∧ (∀ (x1 : Int32) (y2 : Int64) (y4 : Int64) (y6 : Int64) (y8 : Int64) (x10 : Int32) (h : ea_H), kp (ea_core h) ((gX5_foundByAll a0 f).2.2.1 x1 y2 y4 y6 y8 x10 h)) ∧ (∀ (x1 : Int32) (y2 : Int64) (y4 : Int64) (y6 : Int64) (h : ea_H), kp (ea_core h) ((gX5_foundByAll a0 f).2.2.2 x1 y2 y4 y6 h)) := by
  intro f
  induction f with
  | zero => exact ⟨fun _ _ => kp_none _, fun _ _ _ _ _ => kp_none _, fun _ _ _ _ _ _ _ => kp_none _, fun _ _ _ _ _ => kp_none _⟩
  | succ f ih => exact ⟨fun _ _ => kBX5_foundByAll_0 (a0 := a0) ih.2.1, fun _ _ _ _ _ => kBX5_foundByAll_8 (a0 := a0) ih.2.1 ih.2.2.1, fun _ _ _ _ _ _ _ => kBX5_foundByAll_56 (a0 := a0) ih.2.2.1 ih.2.2.2, fun _ _ _ _ _ => kBX5_foundByAll_91 (a0 := a0)⟩
theorem tgX5_foundByAll {d : Nat} {a0 : Nat} {h0 : ea_H} (hd : 2 ≤ d) : ∀ f : Nat, (∀ (x1 : Int32) (h : ea_H) (r : Int64) (h' : ea_H), (gX5_foundByAll a0 f).1 x1 h = some (r, h') → ea_W mX5_foundByAll d h0 (some (vJ r)) h' 0 [(0, vR (some a0)), (1, vI x1)] [] h) ∧ (∀ (x1 : Int32) (y2 : Int64) (y4 : Int64) (x6 : Int32) (h : ea_H) (r : Int64) (h' : ea_H), (gX5_foundByAll a0 f).2.1 x1 y2 y4 x6 h = some (r, h') → ea_W mX5_foundByAll d h0 (some (vJ r)) h' 8 [(0, vR (some a0)), (1, vI x1), (2, vJ y2), (4, vJ y4), (6, vI x6)] [] h) ∧ (∀ (x1 : Int32) (y2 : Int64) (y4 : Int64) (y6 : Int64) (y8 : Int64) (x10 : Int32) (h : ea_H) (r : Int64) (h' : ea_H), (gX5_foundByAll a0 f).2.2.1 x1 y2 y4 y6 y8 x10 h = some (r, h') → ea_W mX5_foundByAll d h0 (some (vJ r)) h' 56 [(1, vI x1), (2, vJ y2), (4, vJ y4), (6, vJ y6), (8, vJ y8), (10, vI x10)] [] h) ∧ (∀ (x1 : Int32) (y2 : Int64) (y4 : Int64) (y6 : Int64) (h : ea_H) (r : Int64) (h' : ea_H), (gX5_foundByAll a0 f).2.2.2 x1 y2 y4 y6 h = some (r, h') → ea_W mX5_foundByAll d h0 (some (vJ r)) h' 91 [(1, vI x1), (2, vJ y2), (4, vJ y4), (6, vJ y6)] [] h) := by
  intro f
  induction f with
  | zero => exact ⟨fun _ _ _ _ E => no_some E, fun _ _ _ _ _ _ _ E => no_some E, fun _ _ _ _ _ _ _ _ _ E => no_some E, fun _ _ _ _ _ _ _ E => no_some E⟩
  | succ f ih => exact ⟨fun _ _ _ _ E => tBX5_foundByAll_0 (a0 := a0) hd ih.2.1 E, fun _ _ _ _ _ _ _ E => tBX5_foundByAll_8 (a0 := a0) hd ih.2.1 ih.2.2.1 E, fun _ _ _ _ _ _ _ _ _ E => tBX5_foundByAll_56 (a0 := a0) hd ih.2.2.1 ih.2.2.2 E, fun _ _ _ _ _ _ _ E => tBX5_foundByAll_91 (a0 := a0) hd E⟩
noncomputable def qX5_foundByAll (a0 : Nat) (x1 : Int32) (h : ea_H) : Option (Int64 × ea_H) := qX5_foundByAll_0 a0 x1 h
theorem sX5_foundByAll {d : Nat} {a0 : Nat} {x1 : Int32} {h : ea_H} {r : Int64} {h' : ea_H} (hd : 2 ≤ d) (K : qX5_foundByAll a0 x1 h = some (r, h')) : ea_Met mX5_foundByAll d [vR (some a0), vI x1] h (some (vJ r)) h' := by
  unfold qX5_foundByAll at K
  obtain ⟨n, hn⟩ := fqX5_foundByAll_0 a0 x1 h _ K
  have W := (tgX5_foundByAll (d := d) (h0 := h) hd n).1 x1 h _ _ (hn n (Nat.le_refl _))
  exact ea_enter rfl (Nat.le_of_ble_eq_true rfl) W
theorem kpX5_foundByAll (a0 : Nat) (x1 : Int32) (h : ea_H) : kp (ea_core h) (qX5_foundByAll a0 x1 h) := fun x e => by
  obtain ⟨n, hn⟩ := fqX5_foundByAll_0 a0 x1 h x e
  exact (kgX5_foundByAll a0 n).1 x1 h x (hn n (Nat.le_refl _))
noncomputable def BX6_init_0 (a0 : Nat) (h : ea_H) : Option (Unit × ea_H) :=
  (gd ((a0 < ea_n h ∧ ea_c h a0 = 6)) (ea_let (ea_wi h a0 2 (-1)) fun H2 => (ea_let (ea_new H2 20 600 600) fun H3 => (gd ((a0 < ea_n H3 ∧ ea_c H3 a0 = 6)) (ea_let (ea_wr H3 a0 3 (some (ea_n H2))) fun H5 => (ea_let (ea_new H5 20 601 601) fun H6 => (gd ((a0 < ea_n H6 ∧ ea_c H6 a0 = 6)) (ea_let (ea_wr H6 a0 4 (some (ea_n H5))) fun H8 => (ea_let (ea_new H8 22 900 900) fun H9 => (gd ((a0 < ea_n H9 ∧ ea_c H9 a0 = 6)) (ea_let (ea_wr H9 a0 8 (some (ea_n H8))) fun H11 => (some ((), H11)))))))))))))
theorem tBX6_init_0 {d : Nat} {a0 : Nat} {h0 : ea_H} (hd : 2 ≤ d)  {h : ea_H} {r : Unit} {h' : ea_H} (E : BX6_init_0 a0 h = some (r, h')) : ea_W mX6_init d h0 none h' 0 [(0, vR (some a0))] [] h := by
  unfold BX6_init_0 at E
  obtain ⟨f1, E⟩ := gd_some E
  refine ea_aload_n (pc := 0) dX6_init_0 rfl 0 rfl ?_
  refine ea_objInit (pc := 1) dX6_init_1 ew_293 ew_141 ew_142 (by omega) (Nat.le_of_ble_eq_true rfl) ?_
  refine ea_aload_n (pc := 4) dX6_init_4 rfl 0 rfl ?_
  refine ea_iconst (pc := 5) dX6_init_5 (v := (-1)) rfl ?_
  obtain ⟨H2, eH2, E⟩ := let_some E
  refine ea_putI (pc := 6) dX6_init_6 ec_6 (k := 2) (Nat.le_of_ble_eq_true rfl) rfl (Or.inl ⟨rfl, Or.inl ew_298⟩) rfl rfl f1.1 f1.2 ?_
  refine ea_nm eH2 ?_
  obtain ⟨H3, eH3, E⟩ := let_some E
  refine ea_aload_n (pc := 9) dX6_init_9 rfl 0 rfl ?_
  refine ea_sipush (pc := 10) dX6_init_10 (v := 600) rfl ?_
  refine ea_newI (pc := 13) (N := 600) dX6_init_13 ew_177 (by decide) rfl (Nat.le_of_ble_eq_true rfl) ?_
  refine ea_nm eH3 ?_
  obtain ⟨f4, E⟩ := gd_some E
  obtain ⟨H5, eH5, E⟩ := let_some E
  refine ea_putR (pc := 15) dX6_init_15 ec_6 (k := 3) (Nat.le_of_ble_eq_true rfl) rfl (Or.inr ⟨rfl, rfl, rfl, ew_300⟩) f4.1 f4.2 ?_
  refine ea_nm eH5 ?_
  obtain ⟨H6, eH6, E⟩ := let_some E
  refine ea_aload_n (pc := 18) dX6_init_18 rfl 0 rfl ?_
  refine ea_sipush (pc := 19) dX6_init_19 (v := 601) rfl ?_
  refine ea_newI (pc := 22) (N := 601) dX6_init_22 ew_177 (by decide) rfl (Nat.le_of_ble_eq_true rfl) ?_
  refine ea_nm eH6 ?_
  obtain ⟨f7, E⟩ := gd_some E
  obtain ⟨H8, eH8, E⟩ := let_some E
  refine ea_putR (pc := 24) dX6_init_24 ec_6 (k := 4) (Nat.le_of_ble_eq_true rfl) rfl (Or.inr ⟨rfl, rfl, rfl, ew_301⟩) f7.1 f7.2 ?_
  refine ea_nm eH8 ?_
  obtain ⟨H9, eH9, E⟩ := let_some E
  refine ea_aload_n (pc := 27) dX6_init_27 rfl 0 rfl ?_
  refine ea_sipush (pc := 28) dX6_init_28 (v := 900) rfl ?_
  refine ea_newJ (pc := 31) (N := 900) dX6_init_31 ew_257 (by decide) rfl (Nat.le_of_ble_eq_true rfl) ?_
  refine ea_nm eH9 ?_
  obtain ⟨f10, E⟩ := gd_some E
  obtain ⟨H11, eH11, E⟩ := let_some E
  refine ea_putR (pc := 33) dX6_init_33 ec_6 (k := 8) (Nat.le_of_ble_eq_true rfl) rfl (Or.inr ⟨rfl, rfl, rfl, ew_305⟩) f10.1 f10.2 ?_
  refine ea_nm eH11 ?_
  exact ea_vretO (pc := 36) dX6_init_36 rfl E
noncomputable def qX6_init (a0 : Nat) (h : ea_H) : Option (Unit × ea_H) := BX6_init_0 a0 h
theorem sX6_init {d : Nat} {a0 : Nat} {h : ea_H} {r : Unit} {h' : ea_H} (hd : 2 ≤ d) (K : qX6_init a0 h = some (r, h')) : ea_Met mX6_init d [vR (some a0)] h none h' := by
  unfold qX6_init at K
  have W := tBX6_init_0 hd (h0 := h) K
  exact ea_enter rfl (Nat.le_of_ble_eq_true rfl) W
noncomputable def BX6_take_0 (J3 : Int32 → Int32 → ea_H → Option (Unit × ea_H)) (x1 : Int32) (h : ea_H) : Option (Unit × ea_H) :=
  (J3 (x1 : Int32) (24 : Int32) h)
theorem tBX6_take_0 {d : Nat} {h0 : ea_H} (hd : 1 ≤ d) {J3 : Int32 → Int32 → ea_H → Option (Unit × ea_H)}  (kJ3 : ∀ (x1 : Int32) (x2 : Int32) (h : ea_H) (r : Unit) (h' : ea_H), J3 x1 x2 h = some (r, h') → ShC h → ea_W mX6_take d h0 none h' 3 [(0, vR (some 24)), (1, vI x1), (2, vI x2)] [] h) {x1 : Int32} {h : ea_H} {r : Unit} {h' : ea_H} (E : BX6_take_0 J3 x1 h = some (r, h')) (hs : ShC h) : ea_W mX6_take d h0 none h' 0 [(0, vR (some 24)), (1, vI x1)] [] h := by
  unfold BX6_take_0 at E
  refine ea_bipush (pc := 0) dX6_take_0 (v := 24) rfl ?_
  refine ea_istore_n (pc := 2) (lv' := [(0, vR (some 24)), (1, vI x1), (2, vI 24)]) dX6_take_2 rfl (Nat.le_of_ble_eq_true rfl) [1, 2, 0] rfl ?_
  exact (kJ3 (x1 : Int32) (24 : Int32) h _ _ E hs)
theorem kBX6_take_0 {J3 : Int32 → Int32 → ea_H → Option (Unit × ea_H)}  (cJ3 : ∀ (x1 : Int32) (x2 : Int32) (h : ea_H), kp (ea_core h) (J3 x1 x2 h)) {x1 : Int32} {h : ea_H} : kp (ea_core h) (BX6_take_0 J3 x1 h) :=
  (kp_tw (cJ3 _ _ _) rfl)
theorem lBX6_take_0 {J3 : Int32 → Int32 → ea_H → Option (Unit × ea_H)} {J3_ : Int32 → Int32 → ea_H → Option (Unit × ea_H)}  (mJ3 : ∀ (x1 : Int32) (x2 : Int32) (h : ea_H), fle (J3 x1 x2 h) (J3_ x1 x2 h)) {x1 : Int32} {h : ea_H} : fle (BX6_take_0 J3 x1 h) (BX6_take_0 J3_ x1 h) :=
  (mJ3 _ _ _)
theorem nBX6_take_0 {J3 : Int32 → Int32 → ea_H → Option (Unit × ea_H)} {J3_ : Nat → (Int32 → Int32 → ea_H → Option (Unit × ea_H))}  (mJ3 : ∀ (x1 : Int32) (x2 : Int32) (h : ea_H), fct (J3 x1 x2 h) (fun f => J3_ f x1 x2 h)) {x1 : Int32} {h : ea_H} : fct (BX6_take_0 J3 x1 h) (fun f => BX6_take_0 (J3_ f) x1 h) :=
  (mJ3 _ _ _)
noncomputable def BX6_take_3 (J3 : Int32 → Int32 → ea_H → Option (Unit × ea_H)) (x1 : Int32) (x2 : Int32) (h : ea_H) : Option (Unit × ea_H) :=
  (if x2 < (0 : Int32) then (some ((), h)) else (if (600 : Int32) ≤ (ea_i h 24 0) then (J3 (x1 : Int32) ((x2 + ((-8) : Int32)) : Int32) h) else (gd (vp_in (ea_i h 24 0) 600) (ea_let (ea_wi h 25 (Int32.toNatClampNeg (ea_i h 24 0)) ((x1 >>> (x2 &&& 31)) &&& (255 : Int32))) fun H2 => (ea_let (ea_wi H2 24 0 ((ea_i H2 24 0) + (1 : Int32))) fun H3 => (J3 (x1 : Int32) ((x2 + ((-8) : Int32)) : Int32) H3))))))
theorem tBX6_take_3 {d : Nat} {h0 : ea_H} (hd : 1 ≤ d) {J3 : Int32 → Int32 → ea_H → Option (Unit × ea_H)}  (kJ3 : ∀ (x1 : Int32) (x2 : Int32) (h : ea_H) (r : Unit) (h' : ea_H), J3 x1 x2 h = some (r, h') → ShC h → ea_W mX6_take d h0 none h' 3 [(0, vR (some 24)), (1, vI x1), (2, vI x2)] [] h) {x1 : Int32} {x2 : Int32} {h : ea_H} {r : Unit} {h' : ea_H} (E : BX6_take_3 J3 x1 x2 h = some (r, h')) (hs : ShC h) : ea_W mX6_take d h0 none h' 3 [(0, vR (some 24)), (1, vI x1), (2, vI x2)] [] h := by
  unfold BX6_take_3 at E
  refine ea_iload_n (pc := 3) dX6_take_3 rfl 2 rfl ?_
  refine ea_if_lt (pc := 4) (tgt := 49) dX6_take_4 rfl (fun c5 => ?_) (fun c5 => ?_)
  · have E := (if_pos c5).symm.trans E
    exact ea_vretO (pc := 49) dX6_take_49 rfl E
  · have E := (if_neg c5).symm.trans E
    refine ea_aload_n (pc := 7) dX6_take_7 rfl 0 rfl ?_
    refine ea_getI (pc := 8) dX6_take_8 ec_6 (k := 0) (Nat.le_of_ble_eq_true rfl) rfl (Or.inl ew_294) (cShC_24 hs).1 (cShC_24 hs).2.1 ?_
    refine ea_sipush (pc := 11) dX6_take_11 (v := 600) rfl ?_
    refine ea_icmp_ge (pc := 14) (tgt := 43) dX6_take_14 rfl (fun c4 => ?_) (fun c4 => ?_)
    · have E := (if_pos c4).symm.trans E
      refine ea_iinc (pc := 43) (v := (-8)) (lv' := [(0, vR (some 24)), (1, vI x1), (2, vI (x2 + ((-8) : Int32)))]) dX6_take_43 2 rfl rfl (Nat.le_of_ble_eq_true rfl) [1, 2, 0] rfl ?_
      refine ea_goto (pc := 46) (tgt := 3) dX6_take_46 rfl ?_
      exact (kJ3 (x1 : Int32) ((x2 + ((-8) : Int32)) : Int32) h _ _ E hs)
    · have E := (if_neg c4).symm.trans E
      obtain ⟨z1, E⟩ := gd_some E
      refine ea_aload_n (pc := 17) dX6_take_17 rfl 0 rfl ?_
      refine ea_getR (pc := 18) dX6_take_18 ec_6 (k := 3) (Nat.le_of_ble_eq_true rfl) rfl (Or.inl ew_300) (cShC_24 hs).1 (cShC_24 hs).2.1 (rShC_24_3 hs) ?_
      refine ea_aload_n (pc := 21) dX6_take_21 rfl 0 rfl ?_
      refine ea_getI (pc := 22) dX6_take_22 ec_6 (k := 0) (Nat.le_of_ble_eq_true rfl) rfl (Or.inl ew_294) (cShC_24 hs).1 (cShC_24 hs).2.1 ?_
      refine ea_iload_n (pc := 25) dX6_take_25 rfl 1 rfl ?_
      refine ea_iload_n (pc := 26) dX6_take_26 rfl 2 rfl ?_
      refine ea_ishr (pc := 27) dX6_take_27 ?_
      refine ea_sipush (pc := 28) dX6_take_28 (v := 255) rfl ?_
      refine ea_iand (pc := 31) dX6_take_31 ?_
      obtain ⟨H2, eH2, E⟩ := let_some E
      refine ea_iast (pc := 32) dX6_take_32 (cShC_25 hs).1 (cShC_25 hs).2.1 (ea_vpl (cShC_25 hs).2.2 z1) ?_
      refine ea_nm eH2 ?_
      have hsH2 : ShC H2 := by rw [eH2]; exact hs
      obtain ⟨H3, eH3, E⟩ := let_some E
      refine ea_aload_n (pc := 33) dX6_take_33 rfl 0 rfl ?_
      refine ea_dup (pc := 34) dX6_take_34 rfl ?_
      refine ea_getI (pc := 35) dX6_take_35 ec_6 (k := 0) (Nat.le_of_ble_eq_true rfl) rfl (Or.inl ew_294) (cShC_24 hsH2).1 (cShC_24 hsH2).2.1 ?_
      refine ea_iconst (pc := 38) dX6_take_38 (v := 1) rfl ?_
      refine ea_iadd (pc := 39) dX6_take_39 ?_
      refine ea_putI (pc := 40) dX6_take_40 ec_6 (k := 0) (Nat.le_of_ble_eq_true rfl) rfl (Or.inl ⟨rfl, Or.inl ew_294⟩) rfl rfl (cShC_24 hsH2).1 (cShC_24 hsH2).2.1 ?_
      refine ea_nm eH3 ?_
      have hsH3 : ShC H3 := by rw [eH3]; exact hsH2
      refine ea_iinc (pc := 43) (v := (-8)) (lv' := [(0, vR (some 24)), (1, vI x1), (2, vI (x2 + ((-8) : Int32)))]) dX6_take_43 2 rfl rfl (Nat.le_of_ble_eq_true rfl) [1, 2, 0] rfl ?_
      refine ea_goto (pc := 46) (tgt := 3) dX6_take_46 rfl ?_
      exact (kJ3 (x1 : Int32) ((x2 + ((-8) : Int32)) : Int32) H3 _ _ E hsH3)
theorem kBX6_take_3 {J3 : Int32 → Int32 → ea_H → Option (Unit × ea_H)}  (cJ3 : ∀ (x1 : Int32) (x2 : Int32) (h : ea_H), kp (ea_core h) (J3 x1 x2 h)) {x1 : Int32} {x2 : Int32} {h : ea_H} : kp (ea_core h) (BX6_take_3 J3 x1 x2 h) :=
  (kp_ite (kp_ret rfl) (kp_ite (kp_tw (cJ3 _ _ _) rfl) (kp_gd (kp_let (kp_let (kp_tw (cJ3 _ _ _) rfl))))))
theorem lBX6_take_3 {J3 : Int32 → Int32 → ea_H → Option (Unit × ea_H)} {J3_ : Int32 → Int32 → ea_H → Option (Unit × ea_H)}  (mJ3 : ∀ (x1 : Int32) (x2 : Int32) (h : ea_H), fle (J3 x1 x2 h) (J3_ x1 x2 h)) {x1 : Int32} {x2 : Int32} {h : ea_H} : fle (BX6_take_3 J3 x1 x2 h) (BX6_take_3 J3_ x1 x2 h) :=
  (fle_ite (fle_rfl _) (fle_ite (mJ3 _ _ _) (fle_gd (fle_let fun _ => (fle_let fun _ => (mJ3 _ _ _))))))
theorem nBX6_take_3 {J3 : Int32 → Int32 → ea_H → Option (Unit × ea_H)} {J3_ : Nat → (Int32 → Int32 → ea_H → Option (Unit × ea_H))}  (mJ3 : ∀ (x1 : Int32) (x2 : Int32) (h : ea_H), fct (J3 x1 x2 h) (fun f => J3_ f x1 x2 h)) {x1 : Int32} {x2 : Int32} {h : ea_H} : fct (BX6_take_3 J3 x1 x2 h) (fun f => BX6_take_3 (J3_ f) x1 x2 h) :=
  (fct_ite (fct_rfl _) (fct_ite (mJ3 _ _ _) (fct_gd (fct_let fun _ => (fct_let fun _ => (mJ3 _ _ _))))))
noncomputable def gX6_take : Nat → (Int32 → ea_H → Option (Unit × ea_H)) × (Int32 → Int32 → ea_H → Option (Unit × ea_H))
  | 0 => (fun _ _ => none, fun _ _ _ => none)
  | f + 1 => (BX6_take_0 (gX6_take f).2, BX6_take_3 (gX6_take f).2)
theorem mgX6_take : ∀ f : Nat, (∀ (x1 : Int32) (h : ea_H), fle ((gX6_take f).1 x1 h) ((gX6_take (f + 1)).1 x1 h)) ∧ (∀ (x1 : Int32) (x2 : Int32) (h : ea_H), fle ((gX6_take f).2 x1 x2 h) ((gX6_take (f + 1)).2 x1 x2 h)) := by
  intro f
  induction f with
  | zero => exact ⟨fun _ _ => fle_none _, fun _ _ _ => fle_none _⟩
  | succ f ih => exact ⟨fun _ _ => lBX6_take_0 ih.2, fun _ _ _ => lBX6_take_3 ih.2⟩
noncomputable def qX6_take_0 (x1 : Int32) (h : ea_H) : Option (Unit × ea_H) := flim fun f => (gX6_take f).1 x1 h
noncomputable def qX6_take_3 (x1 : Int32) (x2 : Int32) (h : ea_H) : Option (Unit × ea_H) := flim fun f => (gX6_take f).2 x1 x2 h
theorem fqX6_take_0 (x1 : Int32) (h : ea_H) : fct (qX6_take_0 x1 h) fun f => (gX6_take f).1 x1 h := flim_ct fun f => (mgX6_take f).1 x1 h
theorem fqX6_take_3 (x1 : Int32) (x2 : Int32) (h : ea_H) : fct (qX6_take_3 x1 x2 h) fun f => (gX6_take f).2 x1 x2 h := flim_ct fun f => (mgX6_take f).2 x1 x2 h
/-- how a block opens -/
theorem uqX6_take_0 {x1 : Int32} {h : ea_H} {P : Unit × ea_H → Prop} (H : sat (BX6_take_0 qX6_take_3 x1 h) P) : sat (qX6_take_0 x1 h) P := by
  obtain ⟨x, e, hp⟩ := H
  obtain ⟨n, hn⟩ := nBX6_take_0 fqX6_take_3 x e
  exact ⟨x, flim_at (fun f => (mgX6_take f).1 x1 h) (f := n + 1) (hn n (Nat.le_refl _)), hp⟩
/-- how a block opens -/
theorem uqX6_take_3 {x1 : Int32} {x2 : Int32} {h : ea_H} {P : Unit × ea_H → Prop} (H : sat (BX6_take_3 qX6_take_3 x1 x2 h) P) : sat (qX6_take_3 x1 x2 h) P := by
  obtain ⟨x, e, hp⟩ := H
  obtain ⟨n, hn⟩ := nBX6_take_3 fqX6_take_3 x e
  exact ⟨x, flim_at (fun f => (mgX6_take f).2 x1 x2 h) (f := n + 1) (hn n (Nat.le_refl _)), hp⟩
theorem kgX6_take : ∀ f : Nat, (∀ (x1 : Int32) (h : ea_H), kp (ea_core h) ((gX6_take f).1 x1 h)) ∧ (∀ (x1 : Int32) (x2 : Int32) (h : ea_H), kp (ea_core h) ((gX6_take f).2 x1 x2 h)) := by
  intro f
  induction f with
  | zero => exact ⟨fun _ _ => kp_none _, fun _ _ _ => kp_none _⟩
  | succ f ih => exact ⟨fun _ _ => kBX6_take_0 ih.2, fun _ _ _ => kBX6_take_3 ih.2⟩
theorem tgX6_take {d : Nat} {h0 : ea_H} (hd : 1 ≤ d) : ∀ f : Nat, (∀ (x1 : Int32) (h : ea_H) (r : Unit) (h' : ea_H), (gX6_take f).1 x1 h = some (r, h') → ShC h → ea_W mX6_take d h0 none h' 0 [(0, vR (some 24)), (1, vI x1)] [] h) ∧ (∀ (x1 : Int32) (x2 : Int32) (h : ea_H) (r : Unit) (h' : ea_H), (gX6_take f).2 x1 x2 h = some (r, h') → ShC h → ea_W mX6_take d h0 none h' 3 [(0, vR (some 24)), (1, vI x1), (2, vI x2)] [] h) := by
  intro f
  induction f with
  | zero => exact ⟨fun _ _ _ _ E => no_some E, fun _ _ _ _ _ E => no_some E⟩
  | succ f ih => exact ⟨fun _ _ _ _ E hs => tBX6_take_0 hd ih.2 E hs, fun _ _ _ _ _ E hs => tBX6_take_3 hd ih.2 E hs⟩
noncomputable def qX6_take (x1 : Int32) (h : ea_H) : Option (Unit × ea_H) := qX6_take_0 x1 h
theorem sX6_take {d : Nat} {x1 : Int32} {h : ea_H} {r : Unit} {h' : ea_H} (hd : 1 ≤ d) (hs : ShC h) (K : qX6_take x1 h = some (r, h')) : ea_Met mX6_take d [vR (some 24), vI x1] h none h' := by
  unfold qX6_take at K
  obtain ⟨n, hn⟩ := fqX6_take_0 x1 h _ K
  have W := (tgX6_take (d := d) (h0 := h) hd n).1 x1 h _ _ (hn n (Nat.le_refl _)) hs
  exact ea_enter rfl (Nat.le_of_ble_eq_true rfl) W
theorem kpX6_take (x1 : Int32) (h : ea_H) : kp (ea_core h) (qX6_take x1 h) := fun x e => by
  obtain ⟨n, hn⟩ := fqX6_take_0 x1 h x e
  exact (kgX6_take n).1 x1 h x (hn n (Nat.le_refl _))
noncomputable def BX6_drop_0 (h : ea_H) : Option (Unit × ea_H) :=
  (ea_let (ea_wi h 24 0 0) fun H1 => (ea_let (ea_wi H1 24 1 0) fun H2 => (ea_let (ea_wi H2 24 2 (-1)) fun H3 => (some ((), H3)))))
theorem tBX6_drop_0 {d : Nat} {h0 : ea_H} (hd : 1 ≤ d)  {h : ea_H} {r : Unit} {h' : ea_H} (E : BX6_drop_0 h = some (r, h')) (hs : ShC h) : ea_W mX6_drop d h0 none h' 0 [(0, vR (some 24))] [] h := by
  unfold BX6_drop_0 at E
  obtain ⟨H1, eH1, E⟩ := let_some E
  refine ea_aload_n (pc := 0) dX6_drop_0 rfl 0 rfl ?_
  refine ea_iconst (pc := 1) dX6_drop_1 (v := 0) rfl ?_
  refine ea_putI (pc := 2) dX6_drop_2 ec_6 (k := 0) (Nat.le_of_ble_eq_true rfl) rfl (Or.inl ⟨rfl, Or.inl ew_294⟩) rfl rfl (cShC_24 hs).1 (cShC_24 hs).2.1 ?_
  refine ea_nm eH1 ?_
  have hsH1 : ShC H1 := by rw [eH1]; exact hs
  obtain ⟨H2, eH2, E⟩ := let_some E
  refine ea_aload_n (pc := 5) dX6_drop_5 rfl 0 rfl ?_
  refine ea_iconst (pc := 6) dX6_drop_6 (v := 0) rfl ?_
  refine ea_putI (pc := 7) dX6_drop_7 ec_6 (k := 1) (Nat.le_of_ble_eq_true rfl) rfl (Or.inl ⟨rfl, Or.inl ew_296⟩) rfl rfl (cShC_24 hsH1).1 (cShC_24 hsH1).2.1 ?_
  refine ea_nm eH2 ?_
  have hsH2 : ShC H2 := by rw [eH2]; exact hsH1
  obtain ⟨H3, eH3, E⟩ := let_some E
  refine ea_aload_n (pc := 10) dX6_drop_10 rfl 0 rfl ?_
  refine ea_iconst (pc := 11) dX6_drop_11 (v := (-1)) rfl ?_
  refine ea_putI (pc := 12) dX6_drop_12 ec_6 (k := 2) (Nat.le_of_ble_eq_true rfl) rfl (Or.inl ⟨rfl, Or.inl ew_298⟩) rfl rfl (cShC_24 hsH2).1 (cShC_24 hsH2).2.1 ?_
  refine ea_nm eH3 ?_
  have hsH3 : ShC H3 := by rw [eH3]; exact hsH2
  exact ea_vretO (pc := 15) dX6_drop_15 rfl E
theorem kBX6_drop_0  {h : ea_H} : kp (ea_core h) (BX6_drop_0 h) :=
  (kp_let (kp_let (kp_let (kp_ret rfl))))
noncomputable def qX6_drop (h : ea_H) : Option (Unit × ea_H) := BX6_drop_0 h
theorem sX6_drop {d : Nat} {h : ea_H} {r : Unit} {h' : ea_H} (hd : 1 ≤ d) (hs : ShC h) (K : qX6_drop h = some (r, h')) : ea_Met mX6_drop d [vR (some 24)] h none h' := by
  unfold qX6_drop at K
  have W := tBX6_drop_0 hd (h0 := h) K hs
  exact ea_enter rfl (Nat.le_of_ble_eq_true rfl) W
theorem kpX6_drop (h : ea_H) : kp (ea_core h) (qX6_drop h) := kBX6_drop_0
noncomputable def BX6_comparison_0 (h : ea_H) : Option (Int32 × ea_H) :=
  (if Int32.toInt (ea_i h 24 7) = 60 then (some (((-14) : Int32), h)) else (if Int32.toInt (ea_i h 24 7) = 61 then (some (((-15) : Int32), h)) else (if Int32.toInt (ea_i h 24 7) = 62 then (some (((-16) : Int32), h)) else (some (((-1) : Int32), h)))))
theorem tBX6_comparison_0 {d : Nat} {h0 : ea_H} (hd : 1 ≤ d)  {h : ea_H} {r : Int32} {h' : ea_H} (E : BX6_comparison_0 h = some (r, h')) (hs : ShC h) : ea_W mX6_comparison d h0 (some (vI r)) h' 0 [(0, vR (some 24))] [] h := by
  unfold BX6_comparison_0 at E
  refine ea_aload_n (pc := 0) dX6_comparison_0 rfl 0 rfl ?_
  refine ea_getI (pc := 1) dX6_comparison_1 ec_6 (k := 7) (Nat.le_of_ble_eq_true rfl) rfl (Or.inl ew_304) (cShC_24 hs).1 (cShC_24 hs).2.1 ?_
  by_cases q4_0 : Int32.toInt (ea_i h 24 7) = 60
  · have E := (if_pos q4_0).symm.trans E
    refine ea_tswIn (pc := 4) (tgt := 32) dX6_comparison_4 (by rw [q4_0]; decide) (by rw [q4_0]; decide) (by rw [q4_0]; rfl) rfl ?_
    refine ea_bipush (pc := 32) dX6_comparison_32 (v := (-14)) rfl ?_
    exact ea_iretO (pc := 34) dX6_comparison_34 rfl rfl E
  have E := (if_neg q4_0).symm.trans E
  by_cases q4_1 : Int32.toInt (ea_i h 24 7) = 61
  · have E := (if_pos q4_1).symm.trans E
    refine ea_tswIn (pc := 4) (tgt := 35) dX6_comparison_4 (by rw [q4_1]; decide) (by rw [q4_1]; decide) (by rw [q4_1]; rfl) rfl ?_
    refine ea_bipush (pc := 35) dX6_comparison_35 (v := (-15)) rfl ?_
    exact ea_iretO (pc := 37) dX6_comparison_37 rfl rfl E
  have E := (if_neg q4_1).symm.trans E
  by_cases q4_2 : Int32.toInt (ea_i h 24 7) = 62
  · have E := (if_pos q4_2).symm.trans E
    refine ea_tswIn (pc := 4) (tgt := 38) dX6_comparison_4 (by rw [q4_2]; decide) (by rw [q4_2]; decide) (by rw [q4_2]; rfl) rfl ?_
    refine ea_bipush (pc := 38) dX6_comparison_38 (v := (-16)) rfl ?_
    exact ea_iretO (pc := 40) dX6_comparison_40 rfl rfl E
  have E := (if_neg q4_2).symm.trans E
  refine ea_tswOut (pc := 4) (tgt := 41) dX6_comparison_4 (ea_sw_60_62 q4_0 q4_1 q4_2) rfl ?_
  refine ea_iconst (pc := 41) dX6_comparison_41 (v := (-1)) rfl ?_
  exact ea_iretO (pc := 42) dX6_comparison_42 rfl rfl E
theorem kBX6_comparison_0  {h : ea_H} : kp (ea_core h) (BX6_comparison_0 h) :=
  (kp_ite (kp_ret rfl) (kp_ite (kp_ret rfl) (kp_ite (kp_ret rfl) (kp_ret rfl))))
noncomputable def qX6_comparison (h : ea_H) : Option (Int32 × ea_H) := BX6_comparison_0 h
theorem sX6_comparison {d : Nat} {h : ea_H} {r : Int32} {h' : ea_H} (hd : 1 ≤ d) (hs : ShC h) (K : qX6_comparison h = some (r, h')) : ea_Met mX6_comparison d [vR (some 24)] h (some (vI r)) h' := by
  unfold qX6_comparison at K
  have W := tBX6_comparison_0 hd (h0 := h) K hs
  exact ea_enter rfl (Nat.le_of_ble_eq_true rfl) W
theorem kpX6_comparison (h : ea_H) : kp (ea_core h) (qX6_comparison h) := kBX6_comparison_0
noncomputable def BX6_step_0 (J23 : ea_H → Option (Unit × ea_H)) (h : ea_H) : Option (Unit × ea_H) :=
  (if ((ea_i h 24 5) - (1 : Int32)) ≤ (ea_i h 24 6) then (J23 h) else (ea_let (ea_wi h 24 6 ((ea_i h 24 6) + (1 : Int32))) fun H1 => (J23 H1)))
theorem tBX6_step_0 {d : Nat} {h0 : ea_H} (hd : 1 ≤ d) {J23 : ea_H → Option (Unit × ea_H)}  (kJ23 : ∀ (h : ea_H) (r : Unit) (h' : ea_H), J23 h = some (r, h') → ShC h → ea_W mX6_step d h0 none h' 23 [(0, vR (some 24))] [] h) {h : ea_H} {r : Unit} {h' : ea_H} (E : BX6_step_0 J23 h = some (r, h')) (hs : ShC h) : ea_W mX6_step d h0 none h' 0 [(0, vR (some 24))] [] h := by
  unfold BX6_step_0 at E
  refine ea_aload_n (pc := 0) dX6_step_0 rfl 0 rfl ?_
  refine ea_getI (pc := 1) dX6_step_1 ec_6 (k := 6) (Nat.le_of_ble_eq_true rfl) rfl (Or.inl ew_303) (cShC_24 hs).1 (cShC_24 hs).2.1 ?_
  refine ea_aload_n (pc := 4) dX6_step_4 rfl 0 rfl ?_
  refine ea_getI (pc := 5) dX6_step_5 ec_6 (k := 5) (Nat.le_of_ble_eq_true rfl) rfl (Or.inl ew_302) (cShC_24 hs).1 (cShC_24 hs).2.1 ?_
  refine ea_iconst (pc := 8) dX6_step_8 (v := 1) rfl ?_
  refine ea_isub (pc := 9) dX6_step_9 ?_
  refine ea_icmp_ge (pc := 10) (tgt := 23) dX6_step_10 rfl (fun c2 => ?_) (fun c2 => ?_)
  · have E := (if_pos c2).symm.trans E
    exact (kJ23 h _ _ E hs)
  · have E := (if_neg c2).symm.trans E
    obtain ⟨H1, eH1, E⟩ := let_some E
    refine ea_aload_n (pc := 13) dX6_step_13 rfl 0 rfl ?_
    refine ea_dup (pc := 14) dX6_step_14 rfl ?_
    refine ea_getI (pc := 15) dX6_step_15 ec_6 (k := 6) (Nat.le_of_ble_eq_true rfl) rfl (Or.inl ew_303) (cShC_24 hs).1 (cShC_24 hs).2.1 ?_
    refine ea_iconst (pc := 18) dX6_step_18 (v := 1) rfl ?_
    refine ea_iadd (pc := 19) dX6_step_19 ?_
    refine ea_putI (pc := 20) dX6_step_20 ec_6 (k := 6) (Nat.le_of_ble_eq_true rfl) rfl (Or.inl ⟨rfl, Or.inl ew_303⟩) rfl rfl (cShC_24 hs).1 (cShC_24 hs).2.1 ?_
    refine ea_nm eH1 ?_
    have hsH1 : ShC H1 := by rw [eH1]; exact hs
    exact (kJ23 H1 _ _ E hsH1)
theorem kBX6_step_0 {J23 : ea_H → Option (Unit × ea_H)}  (cJ23 : ∀ (h : ea_H), kp (ea_core h) (J23 h)) {h : ea_H} : kp (ea_core h) (BX6_step_0 J23 h) :=
  (kp_ite (kp_tw (cJ23 _) rfl) (kp_let (kp_tw (cJ23 _) rfl)))
theorem lBX6_step_0 {J23 : ea_H → Option (Unit × ea_H)} {J23_ : ea_H → Option (Unit × ea_H)}  (mJ23 : ∀ (h : ea_H), fle (J23 h) (J23_ h)) {h : ea_H} : fle (BX6_step_0 J23 h) (BX6_step_0 J23_ h) :=
  (fle_ite (mJ23 _) (fle_let fun _ => (mJ23 _)))
theorem nBX6_step_0 {J23 : ea_H → Option (Unit × ea_H)} {J23_ : Nat → (ea_H → Option (Unit × ea_H))}  (mJ23 : ∀ (h : ea_H), fct (J23 h) (fun f => J23_ f h)) {h : ea_H} : fct (BX6_step_0 J23 h) (fun f => BX6_step_0 (J23_ f) h) :=
  (fct_ite (mJ23 _) (fct_let fun _ => (mJ23 _)))
noncomputable def BX6_step_23 (h : ea_H) : Option (Unit × ea_H) :=
  (gd (vp_in (ea_i h 24 6) 601) (ea_let (ea_wi h 24 7 ((ea_i h 26 (Int32.toNatClampNeg (ea_i h 24 6))) &&& (127 : Int32))) fun H4 => (some ((), H4))))
theorem tBX6_step_23 {d : Nat} {h0 : ea_H} (hd : 1 ≤ d)  {h : ea_H} {r : Unit} {h' : ea_H} (E : BX6_step_23 h = some (r, h')) (hs : ShC h) : ea_W mX6_step d h0 none h' 23 [(0, vR (some 24))] [] h := by
  unfold BX6_step_23 at E
  obtain ⟨z3, E⟩ := gd_some E
  refine ea_aload_n (pc := 23) dX6_step_23 rfl 0 rfl ?_
  refine ea_aload_n (pc := 24) dX6_step_24 rfl 0 rfl ?_
  refine ea_getR (pc := 25) dX6_step_25 ec_6 (k := 4) (Nat.le_of_ble_eq_true rfl) rfl (Or.inl ew_301) (cShC_24 hs).1 (cShC_24 hs).2.1 (rShC_24_4 hs) ?_
  refine ea_aload_n (pc := 28) dX6_step_28 rfl 0 rfl ?_
  refine ea_getI (pc := 29) dX6_step_29 ec_6 (k := 6) (Nat.le_of_ble_eq_true rfl) rfl (Or.inl ew_303) (cShC_24 hs).1 (cShC_24 hs).2.1 ?_
  obtain ⟨H4, eH4, E⟩ := let_some E
  refine ea_iald (pc := 32) dX6_step_32 (cShC_26 hs).1 (cShC_26 hs).2.1 (ea_vpl (cShC_26 hs).2.2 z3) ?_
  refine ea_bipush (pc := 33) dX6_step_33 (v := 127) rfl ?_
  refine ea_iand (pc := 35) dX6_step_35 ?_
  refine ea_putI (pc := 36) dX6_step_36 ec_6 (k := 7) (Nat.le_of_ble_eq_true rfl) rfl (Or.inl ⟨rfl, Or.inl ew_304⟩) rfl rfl (cShC_24 hs).1 (cShC_24 hs).2.1 ?_
  refine ea_nm eH4 ?_
  have hsH4 : ShC H4 := by rw [eH4]; exact hs
  exact ea_vretO (pc := 39) dX6_step_39 rfl E
theorem kBX6_step_23  {h : ea_H} : kp (ea_core h) (BX6_step_23 h) :=
  (kp_gd (kp_let (kp_ret rfl)))
theorem lBX6_step_23  {h : ea_H} : fle (BX6_step_23 h) (BX6_step_23 h) :=
  (fle_rfl _)
theorem nBX6_step_23  {h : ea_H} : fct (BX6_step_23 h) (fun f => BX6_step_23 h) :=
  (fct_rfl _)
noncomputable def gX6_step : Nat → (ea_H → Option (Unit × ea_H)) × (ea_H → Option (Unit × ea_H))
  | 0 => (fun _ => none, fun _ => none)
  | f + 1 => (BX6_step_0 (gX6_step f).2, BX6_step_23)
theorem mgX6_step : ∀ f : Nat, (∀ (h : ea_H), fle ((gX6_step f).1 h) ((gX6_step (f + 1)).1 h)) ∧ (∀ (h : ea_H), fle ((gX6_step f).2 h) ((gX6_step (f + 1)).2 h)) := by
  intro f
  induction f with
  | zero => exact ⟨fun _ => fle_none _, fun _ => fle_none _⟩
  | succ f ih => exact ⟨fun _ => lBX6_step_0 ih.2, fun _ => lBX6_step_23⟩
noncomputable def qX6_step_0 (h : ea_H) : Option (Unit × ea_H) := flim fun f => (gX6_step f).1 h
noncomputable def qX6_step_23 (h : ea_H) : Option (Unit × ea_H) := flim fun f => (gX6_step f).2 h
theorem fqX6_step_0 (h : ea_H) : fct (qX6_step_0 h) fun f => (gX6_step f).1 h := flim_ct fun f => (mgX6_step f).1 h
theorem fqX6_step_23 (h : ea_H) : fct (qX6_step_23 h) fun f => (gX6_step f).2 h := flim_ct fun f => (mgX6_step f).2 h
/-- how a block opens -/
theorem uqX6_step_0 {h : ea_H} {P : Unit × ea_H → Prop} (H : sat (BX6_step_0 qX6_step_23 h) P) : sat (qX6_step_0 h) P := by
  obtain ⟨x, e, hp⟩ := H
  obtain ⟨n, hn⟩ := nBX6_step_0 fqX6_step_23 x e
  exact ⟨x, flim_at (fun f => (mgX6_step f).1 h) (f := n + 1) (hn n (Nat.le_refl _)), hp⟩
/-- how a block opens -/
theorem uqX6_step_23 {h : ea_H} {P : Unit × ea_H → Prop} (H : sat (BX6_step_23 h) P) : sat (qX6_step_23 h) P := by
  obtain ⟨x, e, hp⟩ := H
  obtain ⟨n, hn⟩ := nBX6_step_23 x e
  exact ⟨x, flim_at (fun f => (mgX6_step f).2 h) (f := n + 1) (hn n (Nat.le_refl _)), hp⟩
theorem kgX6_step : ∀ f : Nat, (∀ (h : ea_H), kp (ea_core h) ((gX6_step f).1 h)) ∧ (∀ (h : ea_H), kp (ea_core h) ((gX6_step f).2 h)) := by
  intro f
  induction f with
  | zero => exact ⟨fun _ => kp_none _, fun _ => kp_none _⟩
  | succ f ih => exact ⟨fun _ => kBX6_step_0 ih.2, fun _ => kBX6_step_23⟩
theorem tgX6_step {d : Nat} {h0 : ea_H} (hd : 1 ≤ d) : ∀ f : Nat, (∀ (h : ea_H) (r : Unit) (h' : ea_H), (gX6_step f).1 h = some (r, h') → ShC h → ea_W mX6_step d h0 none h' 0 [(0, vR (some 24))] [] h) ∧ (∀ (h : ea_H) (r : Unit) (h' : ea_H), (gX6_step f).2 h = some (r, h') → ShC h → ea_W mX6_step d h0 none h' 23 [(0, vR (some 24))] [] h) := by
  intro f
  induction f with
  | zero => exact ⟨fun _ _ _ E => no_some E, fun _ _ _ E => no_some E⟩
  | succ f ih => exact ⟨fun _ _ _ E hs => tBX6_step_0 hd ih.2 E hs, fun _ _ _ E hs => tBX6_step_23 hd E hs⟩
noncomputable def qX6_step (h : ea_H) : Option (Unit × ea_H) := qX6_step_0  h
theorem sX6_step {d : Nat} {h : ea_H} {r : Unit} {h' : ea_H} (hd : 1 ≤ d) (hs : ShC h) (K : qX6_step h = some (r, h')) : ea_Met mX6_step d [vR (some 24)] h none h' := by
  unfold qX6_step at K
  obtain ⟨n, hn⟩ := fqX6_step_0  h _ K
  have W := (tgX6_step (d := d) (h0 := h) hd n).1  h _ _ (hn n (Nat.le_refl _)) hs
  exact ea_enter rfl (Nat.le_of_ble_eq_true rfl) W
theorem kpX6_step (h : ea_H) : kp (ea_core h) (qX6_step h) := fun x e => by
  obtain ⟨n, hn⟩ := fqX6_step_0  h x e
  exact (kgX6_step n).1  h x (hn n (Nat.le_refl _))
noncomputable def BX6_refuse_0 (x1 : Int32) (h : ea_H) : Option (Int32 × ea_H) :=
  (ea_let (ea_wi h 24 1 x1) fun H1 => (gd (vp_in (ea_i H1 24 6) 601) (ea_let (ea_wi H1 24 2 (((ea_i H1 26 (Int32.toNatClampNeg (ea_i H1 24 6))) >>> ((7 : Int32) &&& 31)) &&& (1023 : Int32))) fun H3 => (some ((0 : Int32), H3)))))
theorem tBX6_refuse_0 {d : Nat} {h0 : ea_H} (hd : 1 ≤ d)  {x1 : Int32} {h : ea_H} {r : Int32} {h' : ea_H} (E : BX6_refuse_0 x1 h = some (r, h')) (hs : ShC h) : ea_W mX6_refuse d h0 (some (vI r)) h' 0 [(0, vR (some 24)), (1, vI x1)] [] h := by
  unfold BX6_refuse_0 at E
  obtain ⟨H1, eH1, E⟩ := let_some E
  refine ea_aload_n (pc := 0) dX6_refuse_0 rfl 0 rfl ?_
  refine ea_iload_n (pc := 1) dX6_refuse_1 rfl 1 rfl ?_
  refine ea_putI (pc := 2) dX6_refuse_2 ec_6 (k := 1) (Nat.le_of_ble_eq_true rfl) rfl (Or.inl ⟨rfl, Or.inl ew_296⟩) rfl rfl (cShC_24 hs).1 (cShC_24 hs).2.1 ?_
  refine ea_nm eH1 ?_
  have hsH1 : ShC H1 := by rw [eH1]; exact hs
  obtain ⟨z2, E⟩ := gd_some E
  refine ea_aload_n (pc := 5) dX6_refuse_5 rfl 0 rfl ?_
  refine ea_aload_n (pc := 6) dX6_refuse_6 rfl 0 rfl ?_
  refine ea_getR (pc := 7) dX6_refuse_7 ec_6 (k := 4) (Nat.le_of_ble_eq_true rfl) rfl (Or.inl ew_301) (cShC_24 hsH1).1 (cShC_24 hsH1).2.1 (rShC_24_4 hsH1) ?_
  refine ea_aload_n (pc := 10) dX6_refuse_10 rfl 0 rfl ?_
  refine ea_getI (pc := 11) dX6_refuse_11 ec_6 (k := 6) (Nat.le_of_ble_eq_true rfl) rfl (Or.inl ew_303) (cShC_24 hsH1).1 (cShC_24 hsH1).2.1 ?_
  obtain ⟨H3, eH3, E⟩ := let_some E
  refine ea_iald (pc := 14) dX6_refuse_14 (cShC_26 hsH1).1 (cShC_26 hsH1).2.1 (ea_vpl (cShC_26 hsH1).2.2 z2) ?_
  refine ea_bipush (pc := 15) dX6_refuse_15 (v := 7) rfl ?_
  refine ea_ishr (pc := 17) dX6_refuse_17 ?_
  refine ea_sipush (pc := 18) dX6_refuse_18 (v := 1023) rfl ?_
  refine ea_iand (pc := 21) dX6_refuse_21 ?_
  refine ea_putI (pc := 22) dX6_refuse_22 ec_6 (k := 2) (Nat.le_of_ble_eq_true rfl) rfl (Or.inl ⟨rfl, Or.inl ew_298⟩) rfl rfl (cShC_24 hsH1).1 (cShC_24 hsH1).2.1 ?_
  refine ea_nm eH3 ?_
  have hsH3 : ShC H3 := by rw [eH3]; exact hsH1
  refine ea_iconst (pc := 25) dX6_refuse_25 (v := 0) rfl ?_
  exact ea_iretO (pc := 26) dX6_refuse_26 rfl (ea_bn (Or.inl rfl)) E
theorem kBX6_refuse_0  {x1 : Int32} {h : ea_H} : kp (ea_core h) (BX6_refuse_0 x1 h) :=
  (kp_let (kp_gd (kp_let (kp_ret rfl))))
noncomputable def qX6_refuse (x1 : Int32) (h : ea_H) : Option (Int32 × ea_H) := BX6_refuse_0 x1 h
theorem sX6_refuse {d : Nat} {x1 : Int32} {h : ea_H} {r : Int32} {h' : ea_H} (hd : 1 ≤ d) (hs : ShC h) (K : qX6_refuse x1 h = some (r, h')) : ea_Met mX6_refuse d [vR (some 24), vI x1] h (some (vI r)) h' := by
  unfold qX6_refuse at K
  have W := tBX6_refuse_0 hd (h0 := h) K hs
  exact ea_enter rfl (Nat.le_of_ble_eq_true rfl) W
theorem kpX6_refuse (x1 : Int32) (h : ea_H) : kp (ea_core h) (qX6_refuse x1 h) := kBX6_refuse_0
noncomputable def BX6_put_0 (x1 : Int32) (h : ea_H) : Option (Unit × ea_H) :=
  (if (3600 : Int32) ≤ (ea_i h 24 9) then (some ((), h)) else (ea_let ((16 : Int32) * ((ea_i h 24 9) - (ea_i h 24 9) / (4 : Int32) * (4 : Int32))) fun (v1 : Int32) => (gd (vp_in ((ea_i h 24 9) / (4 : Int32)) 900) (gd (vp_in ((ea_i h 24 9) / (4 : Int32)) 900) (ea_let (ea_wj h 27 (Int32.toNatClampNeg ((ea_i h 24 9) / (4 : Int32))) (((ea_j h 27 (Int32.toNatClampNeg ((ea_i h 24 9) / (4 : Int32)))) &&& (((65535 : Int64) <<< (Int32.toInt64 v1 &&& 63)) ^^^ ((-1) : Int64))) ||| (((Int32.toInt64 x1) &&& (65535 : Int64)) <<< (Int32.toInt64 v1 &&& 63)))) fun H4 => (ea_let (ea_wi H4 24 9 ((ea_i H4 24 9) + (1 : Int32))) fun H5 => (some ((), H5))))))))
theorem tBX6_put_0 {d : Nat} {h0 : ea_H} (hd : 1 ≤ d)  {x1 : Int32} {h : ea_H} {r : Unit} {h' : ea_H} (E : BX6_put_0 x1 h = some (r, h')) (hs : ShC h) : ea_W mX6_put d h0 none h' 0 [(0, vR (some 24)), (1, vI x1)] [] h := by
  unfold BX6_put_0 at E
  refine ea_aload_n (pc := 0) dX6_put_0 rfl 0 rfl ?_
  refine ea_getI (pc := 1) dX6_put_1 ec_6 (k := 9) (Nat.le_of_ble_eq_true rfl) rfl (Or.inl ew_306) (cShC_24 hs).1 (cShC_24 hs).2.1 ?_
  refine ea_sipush (pc := 4) dX6_put_4 (v := 3600) rfl ?_
  refine ea_icmp_ge (pc := 7) (tgt := 71) dX6_put_7 rfl (fun c6 => ?_) (fun c6 => ?_)
  · have E := (if_pos c6).symm.trans E
    exact ea_vretO (pc := 71) dX6_put_71 rfl E
  · have E := (if_neg c6).symm.trans E
    obtain ⟨v1, ev1, E⟩ := let_some E
    refine ea_bipush (pc := 10) dX6_put_10 (v := 16) rfl ?_
    refine ea_aload_n (pc := 12) dX6_put_12 rfl 0 rfl ?_
    refine ea_getI (pc := 13) dX6_put_13 ec_6 (k := 9) (Nat.le_of_ble_eq_true rfl) rfl (Or.inl ew_306) (cShC_24 hs).1 (cShC_24 hs).2.1 ?_
    refine ea_iconst (pc := 16) dX6_put_16 (v := 4) rfl ?_
    refine ea_irem (pc := 17) dX6_put_17 (by decide) ?_
    refine ea_imul (pc := 18) dX6_put_18 ?_
    obtain ⟨z2, E⟩ := gd_some E
    refine ea_istore_n (pc := 19) (lv' := [(0, vR (some 24)), (1, vI x1), (2, vI v1)]) dX6_put_19 rfl (Nat.le_of_ble_eq_true rfl) [1, 2, 0] (by rw [ev1]; rfl) ?_
    refine ea_aload_n (pc := 20) dX6_put_20 rfl 0 rfl ?_
    refine ea_getR (pc := 21) dX6_put_21 ec_6 (k := 8) (Nat.le_of_ble_eq_true rfl) rfl (Or.inl ew_305) (cShC_24 hs).1 (cShC_24 hs).2.1 (rShC_24_8 hs) ?_
    refine ea_aload_n (pc := 24) dX6_put_24 rfl 0 rfl ?_
    refine ea_getI (pc := 25) dX6_put_25 ec_6 (k := 9) (Nat.le_of_ble_eq_true rfl) rfl (Or.inl ew_306) (cShC_24 hs).1 (cShC_24 hs).2.1 ?_
    refine ea_iconst (pc := 28) dX6_put_28 (v := 4) rfl ?_
    refine ea_idiv (pc := 29) dX6_put_29 (by decide) ?_
    refine ea_aload_n (pc := 30) dX6_put_30 rfl 0 rfl ?_
    refine ea_getR (pc := 31) dX6_put_31 ec_6 (k := 8) (Nat.le_of_ble_eq_true rfl) rfl (Or.inl ew_305) (cShC_24 hs).1 (cShC_24 hs).2.1 (rShC_24_8 hs) ?_
    refine ea_aload_n (pc := 34) dX6_put_34 rfl 0 rfl ?_
    refine ea_getI (pc := 35) dX6_put_35 ec_6 (k := 9) (Nat.le_of_ble_eq_true rfl) rfl (Or.inl ew_306) (cShC_24 hs).1 (cShC_24 hs).2.1 ?_
    refine ea_iconst (pc := 38) dX6_put_38 (v := 4) rfl ?_
    refine ea_idiv (pc := 39) dX6_put_39 (by decide) ?_
    obtain ⟨z3, E⟩ := gd_some E
    refine ea_lald (pc := 40) dX6_put_40 (cShC_27 hs).1 (cShC_27 hs).2.1 (ea_vpl (cShC_27 hs).2.2 z2) ?_
    refine ea_ldc2 (pc := 41) dX6_put_41 ew_1020 ?_
    refine ea_iload_n (pc := 44) dX6_put_44 rfl 2 rfl ?_
    refine ea_lshl (pc := 45) dX6_put_45 ?_
    refine ea_ldc2 (pc := 46) dX6_put_46 ew_967 ?_
    refine ea_lxor (pc := 49) dX6_put_49 ?_
    refine ea_land (pc := 50) dX6_put_50 ?_
    refine ea_iload_n (pc := 51) dX6_put_51 rfl 1 rfl ?_
    refine ea_i2l (pc := 52) dX6_put_52 ?_
    refine ea_ldc2 (pc := 53) dX6_put_53 ew_1020 ?_
    refine ea_land (pc := 56) dX6_put_56 ?_
    refine ea_iload_n (pc := 57) dX6_put_57 rfl 2 rfl ?_
    refine ea_lshl (pc := 58) dX6_put_58 ?_
    refine ea_lor (pc := 59) dX6_put_59 ?_
    obtain ⟨H4, eH4, E⟩ := let_some E
    refine ea_last (pc := 60) dX6_put_60 (cShC_27 hs).1 (cShC_27 hs).2.1 (ea_vpl (cShC_27 hs).2.2 z3) ?_
    refine ea_nm eH4 ?_
    have hsH4 : ShC H4 := by rw [eH4]; exact hs
    obtain ⟨H5, eH5, E⟩ := let_some E
    refine ea_aload_n (pc := 61) dX6_put_61 rfl 0 rfl ?_
    refine ea_dup (pc := 62) dX6_put_62 rfl ?_
    refine ea_getI (pc := 63) dX6_put_63 ec_6 (k := 9) (Nat.le_of_ble_eq_true rfl) rfl (Or.inl ew_306) (cShC_24 hsH4).1 (cShC_24 hsH4).2.1 ?_
    refine ea_iconst (pc := 66) dX6_put_66 (v := 1) rfl ?_
    refine ea_iadd (pc := 67) dX6_put_67 ?_
    refine ea_putI (pc := 68) dX6_put_68 ec_6 (k := 9) (Nat.le_of_ble_eq_true rfl) rfl (Or.inl ⟨rfl, Or.inl ew_306⟩) rfl rfl (cShC_24 hsH4).1 (cShC_24 hsH4).2.1 ?_
    refine ea_nm eH5 ?_
    have hsH5 : ShC H5 := by rw [eH5]; exact hsH4
    exact ea_vretO (pc := 71) dX6_put_71 rfl E
theorem kBX6_put_0  {x1 : Int32} {h : ea_H} : kp (ea_core h) (BX6_put_0 x1 h) :=
  (kp_ite (kp_ret rfl) (kp_let (kp_gd (kp_gd (kp_let (kp_let (kp_ret rfl)))))))
noncomputable def qX6_put (x1 : Int32) (h : ea_H) : Option (Unit × ea_H) := BX6_put_0 x1 h
theorem sX6_put {d : Nat} {x1 : Int32} {h : ea_H} {r : Unit} {h' : ea_H} (hd : 1 ≤ d) (hs : ShC h) (K : qX6_put x1 h = some (r, h')) : ea_Met mX6_put d [vR (some 24), vI x1] h none h' := by
  unfold qX6_put at K
  have W := tBX6_put_0 hd (h0 := h) K hs
  exact ea_enter rfl (Nat.le_of_ble_eq_true rfl) W
theorem kpX6_put (x1 : Int32) (h : ea_H) : kp (ea_core h) (qX6_put x1 h) := kBX6_put_0
noncomputable def BX6_codeAt_0 (x1 : Int32) (h : ea_H) : Option (Int32 × ea_H) :=
  (if x1 < (0 : Int32) then (some (((-100) : Int32), h)) else (if (3600 : Int32) ≤ x1 then (some (((-100) : Int32), h)) else (gd (vp_in (x1 / (4 : Int32)) 900) (some ((Int16.toInt32 (Int32.toInt16 (Int64.toInt32 ((ea_j h 27 (Int32.toNatClampNeg (x1 / (4 : Int32)))) >>> (Int32.toInt64 ((16 : Int32) * (x1 - x1 / (4 : Int32) * (4 : Int32))) &&& 63))))), h)))))
theorem tBX6_codeAt_0 {d : Nat} {h0 : ea_H} (hd : 1 ≤ d)  {x1 : Int32} {h : ea_H} {r : Int32} {h' : ea_H} (E : BX6_codeAt_0 x1 h = some (r, h')) (hs : ShC h) : ea_W mX6_codeAt d h0 (some (vI r)) h' 0 [(0, vR (some 24)), (1, vI x1)] [] h := by
  unfold BX6_codeAt_0 at E
  refine ea_iload_n (pc := 0) dX6_codeAt_0 rfl 1 rfl ?_
  refine ea_if_lt (pc := 1) (tgt := 31) dX6_codeAt_1 rfl (fun c3 => ?_) (fun c3 => ?_)
  · have E := (if_pos c3).symm.trans E
    refine ea_bipush (pc := 31) dX6_codeAt_31 (v := (-100)) rfl ?_
    exact ea_iretO (pc := 33) dX6_codeAt_33 rfl rfl E
  · have E := (if_neg c3).symm.trans E
    refine ea_iload_n (pc := 4) dX6_codeAt_4 rfl 1 rfl ?_
    refine ea_sipush (pc := 5) dX6_codeAt_5 (v := 3600) rfl ?_
    refine ea_icmp_ge (pc := 8) (tgt := 31) dX6_codeAt_8 rfl (fun c2 => ?_) (fun c2 => ?_)
    · have E := (if_pos c2).symm.trans E
      refine ea_bipush (pc := 31) dX6_codeAt_31 (v := (-100)) rfl ?_
      exact ea_iretO (pc := 33) dX6_codeAt_33 rfl rfl E
    · have E := (if_neg c2).symm.trans E
      obtain ⟨z1, E⟩ := gd_some E
      refine ea_aload_n (pc := 11) dX6_codeAt_11 rfl 0 rfl ?_
      refine ea_getR (pc := 12) dX6_codeAt_12 ec_6 (k := 8) (Nat.le_of_ble_eq_true rfl) rfl (Or.inl ew_305) (cShC_24 hs).1 (cShC_24 hs).2.1 (rShC_24_8 hs) ?_
      refine ea_iload_n (pc := 15) dX6_codeAt_15 rfl 1 rfl ?_
      refine ea_iconst (pc := 16) dX6_codeAt_16 (v := 4) rfl ?_
      refine ea_idiv (pc := 17) dX6_codeAt_17 (by decide) ?_
      refine ea_lald (pc := 18) dX6_codeAt_18 (cShC_27 hs).1 (cShC_27 hs).2.1 (ea_vpl (cShC_27 hs).2.2 z1) ?_
      refine ea_bipush (pc := 19) dX6_codeAt_19 (v := 16) rfl ?_
      refine ea_iload_n (pc := 21) dX6_codeAt_21 rfl 1 rfl ?_
      refine ea_iconst (pc := 22) dX6_codeAt_22 (v := 4) rfl ?_
      refine ea_irem (pc := 23) dX6_codeAt_23 (by decide) ?_
      refine ea_imul (pc := 24) dX6_codeAt_24 ?_
      refine ea_lshr (pc := 25) dX6_codeAt_25 ?_
      refine ea_l2i (pc := 26) dX6_codeAt_26 ?_
      refine ea_i2s (pc := 27) dX6_codeAt_27 ?_
      refine ea_goto (pc := 28) (tgt := 33) dX6_codeAt_28 rfl ?_
      exact ea_iretO (pc := 33) dX6_codeAt_33 rfl rfl E
theorem kBX6_codeAt_0  {x1 : Int32} {h : ea_H} : kp (ea_core h) (BX6_codeAt_0 x1 h) :=
  (kp_ite (kp_ret rfl) (kp_ite (kp_ret rfl) (kp_gd (kp_ret rfl))))
noncomputable def qX6_codeAt (x1 : Int32) (h : ea_H) : Option (Int32 × ea_H) := BX6_codeAt_0 x1 h
theorem sX6_codeAt {d : Nat} {x1 : Int32} {h : ea_H} {r : Int32} {h' : ea_H} (hd : 1 ≤ d) (hs : ShC h) (K : qX6_codeAt x1 h = some (r, h')) : ea_Met mX6_codeAt d [vR (some 24), vI x1] h (some (vI r)) h' := by
  unfold qX6_codeAt at K
  have W := tBX6_codeAt_0 hd (h0 := h) K hs
  exact ea_enter rfl (Nat.le_of_ble_eq_true rfl) W
theorem kpX6_codeAt (x1 : Int32) (h : ea_H) : kp (ea_core h) (qX6_codeAt x1 h) := kBX6_codeAt_0
noncomputable def BX6_value_0 (h : ea_H) : Option (Int32 × ea_H) :=
  (gd (vp_in (ea_i h 24 6) 601) (some (((ea_i h 26 (Int32.toNatClampNeg (ea_i h 24 6))) >>> ((17 : Int32) &&& 31)), h)))
theorem tBX6_value_0 {d : Nat} {h0 : ea_H} (hd : 1 ≤ d)  {h : ea_H} {r : Int32} {h' : ea_H} (E : BX6_value_0 h = some (r, h')) (hs : ShC h) : ea_W mX6_value d h0 (some (vI r)) h' 0 [(0, vR (some 24))] [] h := by
  unfold BX6_value_0 at E
  obtain ⟨z1, E⟩ := gd_some E
  refine ea_aload_n (pc := 0) dX6_value_0 rfl 0 rfl ?_
  refine ea_getR (pc := 1) dX6_value_1 ec_6 (k := 4) (Nat.le_of_ble_eq_true rfl) rfl (Or.inl ew_301) (cShC_24 hs).1 (cShC_24 hs).2.1 (rShC_24_4 hs) ?_
  refine ea_aload_n (pc := 4) dX6_value_4 rfl 0 rfl ?_
  refine ea_getI (pc := 5) dX6_value_5 ec_6 (k := 6) (Nat.le_of_ble_eq_true rfl) rfl (Or.inl ew_303) (cShC_24 hs).1 (cShC_24 hs).2.1 ?_
  refine ea_iald (pc := 8) dX6_value_8 (cShC_26 hs).1 (cShC_26 hs).2.1 (ea_vpl (cShC_26 hs).2.2 z1) ?_
  refine ea_bipush (pc := 9) dX6_value_9 (v := 17) rfl ?_
  refine ea_ishr (pc := 11) dX6_value_11 ?_
  exact ea_iretO (pc := 12) dX6_value_12 rfl rfl E
theorem kBX6_value_0  {h : ea_H} : kp (ea_core h) (BX6_value_0 h) :=
  (kp_gd (kp_ret rfl))
noncomputable def qX6_value (h : ea_H) : Option (Int32 × ea_H) := BX6_value_0 h
theorem sX6_value {d : Nat} {h : ea_H} {r : Int32} {h' : ea_H} (hd : 1 ≤ d) (hs : ShC h) (K : qX6_value h = some (r, h')) : ea_Met mX6_value d [vR (some 24)] h (some (vI r)) h' := by
  unfold qX6_value at K
  have W := tBX6_value_0 hd (h0 := h) K hs
  exact ea_enter rfl (Nat.le_of_ble_eq_true rfl) W
theorem kpX6_value (h : ea_H) : kp (ea_core h) (qX6_value h) := kBX6_value_0
noncomputable def BX6_addToken_0 (x1 : Int32) (x2 : Int32) (x3 : Int32) (h : ea_H) : Option (Unit × ea_H) :=
  (if (601 : Int32) ≤ (ea_i h 24 5) then (some ((), h)) else (gd (vp_in (ea_i h 24 5) 601) (ea_let (ea_wi h 26 (Int32.toNatClampNeg (ea_i h 24 5)) (((x3 <<< ((17 : Int32) &&& 31)) ||| (x2 <<< ((7 : Int32) &&& 31))) ||| x1)) fun H2 => (ea_let (ea_wi H2 24 5 ((ea_i H2 24 5) + (1 : Int32))) fun H3 => (some ((), H3))))))
theorem tBX6_addToken_0 {d : Nat} {h0 : ea_H} (hd : 1 ≤ d)  {x1 : Int32} {x2 : Int32} {x3 : Int32} {h : ea_H} {r : Unit} {h' : ea_H} (E : BX6_addToken_0 x1 x2 x3 h = some (r, h')) (hs : ShC h) : ea_W mX6_addToken d h0 none h' 0 [(0, vR (some 24)), (1, vI x1), (2, vI x2), (3, vI x3)] [] h := by
  unfold BX6_addToken_0 at E
  refine ea_aload_n (pc := 0) dX6_addToken_0 rfl 0 rfl ?_
  refine ea_getI (pc := 1) dX6_addToken_1 ec_6 (k := 5) (Nat.le_of_ble_eq_true rfl) rfl (Or.inl ew_302) (cShC_24 hs).1 (cShC_24 hs).2.1 ?_
  refine ea_aload_n (pc := 4) dX6_addToken_4 rfl 0 rfl ?_
  refine ea_getR (pc := 5) dX6_addToken_5 ec_6 (k := 4) (Nat.le_of_ble_eq_true rfl) rfl (Or.inl ew_301) (cShC_24 hs).1 (cShC_24 hs).2.1 (rShC_24_4 hs) ?_
  refine ea_alen (pc := 8) dX6_addToken_8 (cShC_26 hs).1 (cShC_26 hs).2.1 (by decide) (by decide) ?_
  refine ea_tops (by rw [(cShC_26 hs).2.2]; rfl : vI (Int32.ofNat (ea_l h 26)) = vI 601) ?_
  refine ea_icmp_ge (pc := 9) (tgt := 42) dX6_addToken_9 rfl (fun c4 => ?_) (fun c4 => ?_)
  · have E := (if_pos c4).symm.trans E
    exact ea_vretO (pc := 42) dX6_addToken_42 rfl E
  · have E := (if_neg c4).symm.trans E
    obtain ⟨z1, E⟩ := gd_some E
    refine ea_aload_n (pc := 12) dX6_addToken_12 rfl 0 rfl ?_
    refine ea_getR (pc := 13) dX6_addToken_13 ec_6 (k := 4) (Nat.le_of_ble_eq_true rfl) rfl (Or.inl ew_301) (cShC_24 hs).1 (cShC_24 hs).2.1 (rShC_24_4 hs) ?_
    refine ea_aload_n (pc := 16) dX6_addToken_16 rfl 0 rfl ?_
    refine ea_getI (pc := 17) dX6_addToken_17 ec_6 (k := 5) (Nat.le_of_ble_eq_true rfl) rfl (Or.inl ew_302) (cShC_24 hs).1 (cShC_24 hs).2.1 ?_
    refine ea_iload_n (pc := 20) dX6_addToken_20 rfl 3 rfl ?_
    refine ea_bipush (pc := 21) dX6_addToken_21 (v := 17) rfl ?_
    refine ea_ishl (pc := 23) dX6_addToken_23 ?_
    refine ea_iload_n (pc := 24) dX6_addToken_24 rfl 2 rfl ?_
    refine ea_bipush (pc := 25) dX6_addToken_25 (v := 7) rfl ?_
    refine ea_ishl (pc := 27) dX6_addToken_27 ?_
    refine ea_ior (pc := 28) dX6_addToken_28 ?_
    refine ea_iload_n (pc := 29) dX6_addToken_29 rfl 1 rfl ?_
    refine ea_ior (pc := 30) dX6_addToken_30 ?_
    obtain ⟨H2, eH2, E⟩ := let_some E
    refine ea_iast (pc := 31) dX6_addToken_31 (cShC_26 hs).1 (cShC_26 hs).2.1 (ea_vpl (cShC_26 hs).2.2 z1) ?_
    refine ea_nm eH2 ?_
    have hsH2 : ShC H2 := by rw [eH2]; exact hs
    obtain ⟨H3, eH3, E⟩ := let_some E
    refine ea_aload_n (pc := 32) dX6_addToken_32 rfl 0 rfl ?_
    refine ea_dup (pc := 33) dX6_addToken_33 rfl ?_
    refine ea_getI (pc := 34) dX6_addToken_34 ec_6 (k := 5) (Nat.le_of_ble_eq_true rfl) rfl (Or.inl ew_302) (cShC_24 hsH2).1 (cShC_24 hsH2).2.1 ?_
    refine ea_iconst (pc := 37) dX6_addToken_37 (v := 1) rfl ?_
    refine ea_iadd (pc := 38) dX6_addToken_38 ?_
    refine ea_putI (pc := 39) dX6_addToken_39 ec_6 (k := 5) (Nat.le_of_ble_eq_true rfl) rfl (Or.inl ⟨rfl, Or.inl ew_302⟩) rfl rfl (cShC_24 hsH2).1 (cShC_24 hsH2).2.1 ?_
    refine ea_nm eH3 ?_
    have hsH3 : ShC H3 := by rw [eH3]; exact hsH2
    exact ea_vretO (pc := 42) dX6_addToken_42 rfl E
theorem kBX6_addToken_0  {x1 : Int32} {x2 : Int32} {x3 : Int32} {h : ea_H} : kp (ea_core h) (BX6_addToken_0 x1 x2 x3 h) :=
  (kp_ite (kp_ret rfl) (kp_gd (kp_let (kp_let (kp_ret rfl)))))
noncomputable def qX6_addToken (x1 : Int32) (x2 : Int32) (x3 : Int32) (h : ea_H) : Option (Unit × ea_H) := BX6_addToken_0 x1 x2 x3 h
theorem sX6_addToken {d : Nat} {x1 : Int32} {x2 : Int32} {x3 : Int32} {h : ea_H} {r : Unit} {h' : ea_H} (hd : 1 ≤ d) (hs : ShC h) (K : qX6_addToken x1 x2 x3 h = some (r, h')) : ea_Met mX6_addToken d [vR (some 24), vI x1, vI x2, vI x3] h none h' := by
  unfold qX6_addToken at K
  have W := tBX6_addToken_0 hd (h0 := h) K hs
  exact ea_enter rfl (Nat.le_of_ble_eq_true rfl) W
theorem kpX6_addToken (x1 : Int32) (x2 : Int32) (x3 : Int32) (h : ea_H) : kp (ea_core h) (qX6_addToken x1 x2 x3 h) := kBX6_addToken_0
noncomputable def BX6_isLetter_0 (J12 : Int32 → ea_H → Option (Int32 × ea_H)) (x0 : Int32) (h : ea_H) : Option (Int32 × ea_H) :=
  (if x0 < (97 : Int32) then (J12 (x0 : Int32) h) else (if x0 ≤ (122 : Int32) then (some ((1 : Int32), h)) else (J12 (x0 : Int32) h)))
theorem tBX6_isLetter_0 {d : Nat} {h0 : ea_H} (hd : 1 ≤ d) {J12 : Int32 → ea_H → Option (Int32 × ea_H)}  (kJ12 : ∀ (x0 : Int32) (h : ea_H) (r : Int32) (h' : ea_H), J12 x0 h = some (r, h') → ea_W mX6_isLetter d h0 (some (vI r)) h' 12 [(0, vI x0)] [] h) {x0 : Int32} {h : ea_H} {r : Int32} {h' : ea_H} (E : BX6_isLetter_0 J12 x0 h = some (r, h')) : ea_W mX6_isLetter d h0 (some (vI r)) h' 0 [(0, vI x0)] [] h := by
  unfold BX6_isLetter_0 at E
  refine ea_iload_n (pc := 0) dX6_isLetter_0 rfl 0 rfl ?_
  refine ea_bipush (pc := 1) dX6_isLetter_1 (v := 97) rfl ?_
  refine ea_icmp_lt (pc := 3) (tgt := 12) dX6_isLetter_3 rfl (fun c2 => ?_) (fun c2 => ?_)
  · have E := (if_pos c2).symm.trans E
    exact (kJ12 (x0 : Int32) h _ _ E)
  · have E := (if_neg c2).symm.trans E
    refine ea_iload_n (pc := 6) dX6_isLetter_6 rfl 0 rfl ?_
    refine ea_bipush (pc := 7) dX6_isLetter_7 (v := 122) rfl ?_
    refine ea_icmp_le (pc := 9) (tgt := 24) dX6_isLetter_9 rfl (fun c1 => ?_) (fun c1 => ?_)
    · have E := (if_pos c1).symm.trans E
      refine ea_iconst (pc := 24) dX6_isLetter_24 (v := 1) rfl ?_
      refine ea_goto (pc := 25) (tgt := 29) dX6_isLetter_25 rfl ?_
      exact ea_iretO (pc := 29) dX6_isLetter_29 rfl (ea_bn (Or.inr rfl)) E
    · have E := (if_neg c1).symm.trans E
      exact (kJ12 (x0 : Int32) h _ _ E)
theorem kBX6_isLetter_0 {J12 : Int32 → ea_H → Option (Int32 × ea_H)}  (cJ12 : ∀ (x0 : Int32) (h : ea_H), kp (ea_core h) (J12 x0 h)) {x0 : Int32} {h : ea_H} : kp (ea_core h) (BX6_isLetter_0 J12 x0 h) :=
  (kp_ite (kp_tw (cJ12 _ _) rfl) (kp_ite (kp_ret rfl) (kp_tw (cJ12 _ _) rfl)))
theorem lBX6_isLetter_0 {J12 : Int32 → ea_H → Option (Int32 × ea_H)} {J12_ : Int32 → ea_H → Option (Int32 × ea_H)}  (mJ12 : ∀ (x0 : Int32) (h : ea_H), fle (J12 x0 h) (J12_ x0 h)) {x0 : Int32} {h : ea_H} : fle (BX6_isLetter_0 J12 x0 h) (BX6_isLetter_0 J12_ x0 h) :=
  (fle_ite (mJ12 _ _) (fle_ite (fle_rfl _) (mJ12 _ _)))
theorem nBX6_isLetter_0 {J12 : Int32 → ea_H → Option (Int32 × ea_H)} {J12_ : Nat → (Int32 → ea_H → Option (Int32 × ea_H))}  (mJ12 : ∀ (x0 : Int32) (h : ea_H), fct (J12 x0 h) (fun f => J12_ f x0 h)) {x0 : Int32} {h : ea_H} : fct (BX6_isLetter_0 J12 x0 h) (fun f => BX6_isLetter_0 (J12_ f) x0 h) :=
  (fct_ite (mJ12 _ _) (fct_ite (fct_rfl _) (mJ12 _ _)))
noncomputable def BX6_isLetter_12 (x0 : Int32) (h : ea_H) : Option (Int32 × ea_H) :=
  (if x0 < (65 : Int32) then (some ((0 : Int32), h)) else (if (90 : Int32) < x0 then (some ((0 : Int32), h)) else (some ((1 : Int32), h))))
theorem tBX6_isLetter_12 {d : Nat} {h0 : ea_H} (hd : 1 ≤ d)  {x0 : Int32} {h : ea_H} {r : Int32} {h' : ea_H} (E : BX6_isLetter_12 x0 h = some (r, h')) : ea_W mX6_isLetter d h0 (some (vI r)) h' 12 [(0, vI x0)] [] h := by
  unfold BX6_isLetter_12 at E
  refine ea_iload_n (pc := 12) dX6_isLetter_12 rfl 0 rfl ?_
  refine ea_bipush (pc := 13) dX6_isLetter_13 (v := 65) rfl ?_
  refine ea_icmp_lt (pc := 15) (tgt := 28) dX6_isLetter_15 rfl (fun c4 => ?_) (fun c4 => ?_)
  · have E := (if_pos c4).symm.trans E
    refine ea_iconst (pc := 28) dX6_isLetter_28 (v := 0) rfl ?_
    exact ea_iretO (pc := 29) dX6_isLetter_29 rfl (ea_bn (Or.inl rfl)) E
  · have E := (if_neg c4).symm.trans E
    refine ea_iload_n (pc := 18) dX6_isLetter_18 rfl 0 rfl ?_
    refine ea_bipush (pc := 19) dX6_isLetter_19 (v := 90) rfl ?_
    refine ea_icmp_gt (pc := 21) (tgt := 28) dX6_isLetter_21 rfl (fun c3 => ?_) (fun c3 => ?_)
    · have E := (if_pos c3).symm.trans E
      refine ea_iconst (pc := 28) dX6_isLetter_28 (v := 0) rfl ?_
      exact ea_iretO (pc := 29) dX6_isLetter_29 rfl (ea_bn (Or.inl rfl)) E
    · have E := (if_neg c3).symm.trans E
      refine ea_iconst (pc := 24) dX6_isLetter_24 (v := 1) rfl ?_
      refine ea_goto (pc := 25) (tgt := 29) dX6_isLetter_25 rfl ?_
      exact ea_iretO (pc := 29) dX6_isLetter_29 rfl (ea_bn (Or.inr rfl)) E
theorem kBX6_isLetter_12  {x0 : Int32} {h : ea_H} : kp (ea_core h) (BX6_isLetter_12 x0 h) :=
  (kp_ite (kp_ret rfl) (kp_ite (kp_ret rfl) (kp_ret rfl)))
theorem lBX6_isLetter_12  {x0 : Int32} {h : ea_H} : fle (BX6_isLetter_12 x0 h) (BX6_isLetter_12 x0 h) :=
  (fle_rfl _)
theorem nBX6_isLetter_12  {x0 : Int32} {h : ea_H} : fct (BX6_isLetter_12 x0 h) (fun f => BX6_isLetter_12 x0 h) :=
  (fct_rfl _)
noncomputable def gX6_isLetter : Nat → (Int32 → ea_H → Option (Int32 × ea_H)) × (Int32 → ea_H → Option (Int32 × ea_H))
  | 0 => (fun _ _ => none, fun _ _ => none)
  | f + 1 => (BX6_isLetter_0 (gX6_isLetter f).2, BX6_isLetter_12)
theorem mgX6_isLetter : ∀ f : Nat, (∀ (x0 : Int32) (h : ea_H), fle ((gX6_isLetter f).1 x0 h) ((gX6_isLetter (f + 1)).1 x0 h)) ∧ (∀ (x0 : Int32) (h : ea_H), fle ((gX6_isLetter f).2 x0 h) ((gX6_isLetter (f + 1)).2 x0 h)) := by
  intro f
  induction f with
  | zero => exact ⟨fun _ _ => fle_none _, fun _ _ => fle_none _⟩
  | succ f ih => exact ⟨fun _ _ => lBX6_isLetter_0 ih.2, fun _ _ => lBX6_isLetter_12⟩
noncomputable def qX6_isLetter_0 (x0 : Int32) (h : ea_H) : Option (Int32 × ea_H) := flim fun f => (gX6_isLetter f).1 x0 h
noncomputable def qX6_isLetter_12 (x0 : Int32) (h : ea_H) : Option (Int32 × ea_H) := flim fun f => (gX6_isLetter f).2 x0 h
theorem fqX6_isLetter_0 (x0 : Int32) (h : ea_H) : fct (qX6_isLetter_0 x0 h) fun f => (gX6_isLetter f).1 x0 h := flim_ct fun f => (mgX6_isLetter f).1 x0 h
theorem fqX6_isLetter_12 (x0 : Int32) (h : ea_H) : fct (qX6_isLetter_12 x0 h) fun f => (gX6_isLetter f).2 x0 h := flim_ct fun f => (mgX6_isLetter f).2 x0 h
/-- how a block opens -/
theorem uqX6_isLetter_0 {x0 : Int32} {h : ea_H} {P : Int32 × ea_H → Prop} (H : sat (BX6_isLetter_0 qX6_isLetter_12 x0 h) P) : sat (qX6_isLetter_0 x0 h) P := by
  obtain ⟨x, e, hp⟩ := H
  obtain ⟨n, hn⟩ := nBX6_isLetter_0 fqX6_isLetter_12 x e
  exact ⟨x, flim_at (fun f => (mgX6_isLetter f).1 x0 h) (f := n + 1) (hn n (Nat.le_refl _)), hp⟩
/-- how a block opens -/
theorem uqX6_isLetter_12 {x0 : Int32} {h : ea_H} {P : Int32 × ea_H → Prop} (H : sat (BX6_isLetter_12 x0 h) P) : sat (qX6_isLetter_12 x0 h) P := by
  obtain ⟨x, e, hp⟩ := H
  obtain ⟨n, hn⟩ := nBX6_isLetter_12 x e
  exact ⟨x, flim_at (fun f => (mgX6_isLetter f).2 x0 h) (f := n + 1) (hn n (Nat.le_refl _)), hp⟩
theorem kgX6_isLetter : ∀ f : Nat, (∀ (x0 : Int32) (h : ea_H), kp (ea_core h) ((gX6_isLetter f).1 x0 h)) ∧ (∀ (x0 : Int32) (h : ea_H), kp (ea_core h) ((gX6_isLetter f).2 x0 h)) := by
  intro f
  induction f with
  | zero => exact ⟨fun _ _ => kp_none _, fun _ _ => kp_none _⟩
  | succ f ih => exact ⟨fun _ _ => kBX6_isLetter_0 ih.2, fun _ _ => kBX6_isLetter_12⟩
theorem tgX6_isLetter {d : Nat} {h0 : ea_H} (hd : 1 ≤ d) : ∀ f : Nat, (∀ (x0 : Int32) (h : ea_H) (r : Int32) (h' : ea_H), (gX6_isLetter f).1 x0 h = some (r, h') → ea_W mX6_isLetter d h0 (some (vI r)) h' 0 [(0, vI x0)] [] h) ∧ (∀ (x0 : Int32) (h : ea_H) (r : Int32) (h' : ea_H), (gX6_isLetter f).2 x0 h = some (r, h') → ea_W mX6_isLetter d h0 (some (vI r)) h' 12 [(0, vI x0)] [] h) := by
  intro f
  induction f with
  | zero => exact ⟨fun _ _ _ _ E => no_some E, fun _ _ _ _ E => no_some E⟩
  | succ f ih => exact ⟨fun _ _ _ _ E => tBX6_isLetter_0 hd ih.2 E, fun _ _ _ _ E => tBX6_isLetter_12 hd E⟩
noncomputable def qX6_isLetter (x0 : Int32) (h : ea_H) : Option (Int32 × ea_H) := qX6_isLetter_0 x0 h
theorem sX6_isLetter {d : Nat} {x0 : Int32} {h : ea_H} {r : Int32} {h' : ea_H} (hd : 1 ≤ d) (K : qX6_isLetter x0 h = some (r, h')) : ea_Met mX6_isLetter d [vI x0] h (some (vI r)) h' := by
  unfold qX6_isLetter at K
  obtain ⟨n, hn⟩ := fqX6_isLetter_0 x0 h _ K
  have W := (tgX6_isLetter (d := d) (h0 := h) hd n).1 x0 h _ _ (hn n (Nat.le_refl _))
  exact ea_enter rfl (Nat.le_of_ble_eq_true rfl) W
theorem kpX6_isLetter (x0 : Int32) (h : ea_H) : kp (ea_core h) (qX6_isLetter x0 h) := fun x e => by
  obtain ⟨n, hn⟩ := fqX6_isLetter_0 x0 h x e
  exact (kgX6_isLetter n).1 x0 h x (hn n (Nat.le_refl _))
noncomputable def BX6_isDigit_0 (x0 : Int32) (h : ea_H) : Option (Int32 × ea_H) :=
  (if x0 < (48 : Int32) then (some ((0 : Int32), h)) else (if (57 : Int32) < x0 then (some ((0 : Int32), h)) else (some ((1 : Int32), h))))
theorem tBX6_isDigit_0 {d : Nat} {h0 : ea_H} (hd : 1 ≤ d)  {x0 : Int32} {h : ea_H} {r : Int32} {h' : ea_H} (E : BX6_isDigit_0 x0 h = some (r, h')) : ea_W mX6_isDigit d h0 (some (vI r)) h' 0 [(0, vI x0)] [] h := by
  unfold BX6_isDigit_0 at E
  refine ea_iload_n (pc := 0) dX6_isDigit_0 rfl 0 rfl ?_
  refine ea_bipush (pc := 1) dX6_isDigit_1 (v := 48) rfl ?_
  refine ea_icmp_lt (pc := 3) (tgt := 16) dX6_isDigit_3 rfl (fun c2 => ?_) (fun c2 => ?_)
  · have E := (if_pos c2).symm.trans E
    refine ea_iconst (pc := 16) dX6_isDigit_16 (v := 0) rfl ?_
    exact ea_iretO (pc := 17) dX6_isDigit_17 rfl (ea_bn (Or.inl rfl)) E
  · have E := (if_neg c2).symm.trans E
    refine ea_iload_n (pc := 6) dX6_isDigit_6 rfl 0 rfl ?_
    refine ea_bipush (pc := 7) dX6_isDigit_7 (v := 57) rfl ?_
    refine ea_icmp_gt (pc := 9) (tgt := 16) dX6_isDigit_9 rfl (fun c1 => ?_) (fun c1 => ?_)
    · have E := (if_pos c1).symm.trans E
      refine ea_iconst (pc := 16) dX6_isDigit_16 (v := 0) rfl ?_
      exact ea_iretO (pc := 17) dX6_isDigit_17 rfl (ea_bn (Or.inl rfl)) E
    · have E := (if_neg c1).symm.trans E
      refine ea_iconst (pc := 12) dX6_isDigit_12 (v := 1) rfl ?_
      refine ea_goto (pc := 13) (tgt := 17) dX6_isDigit_13 rfl ?_
      exact ea_iretO (pc := 17) dX6_isDigit_17 rfl (ea_bn (Or.inr rfl)) E
theorem kBX6_isDigit_0  {x0 : Int32} {h : ea_H} : kp (ea_core h) (BX6_isDigit_0 x0 h) :=
  (kp_ite (kp_ret rfl) (kp_ite (kp_ret rfl) (kp_ret rfl)))
noncomputable def qX6_isDigit (x0 : Int32) (h : ea_H) : Option (Int32 × ea_H) := BX6_isDigit_0 x0 h
theorem sX6_isDigit {d : Nat} {x0 : Int32} {h : ea_H} {r : Int32} {h' : ea_H} (hd : 1 ≤ d) (K : qX6_isDigit x0 h = some (r, h')) : ea_Met mX6_isDigit d [vI x0] h (some (vI r)) h' := by
  unfold qX6_isDigit at K
  have W := tBX6_isDigit_0 hd (h0 := h) K
  exact ea_enter rfl (Nat.le_of_ble_eq_true rfl) W
theorem kpX6_isDigit (x0 : Int32) (h : ea_H) : kp (ea_core h) (qX6_isDigit x0 h) := kBX6_isDigit_0
noncomputable def BX6_isSign_0 (x0 : Int32) (h : ea_H) : Option (Int32 × ea_H) :=
  (if Int32.toInt x0 = 40 then (some ((1 : Int32), h)) else (if Int32.toInt x0 = 41 then (some ((1 : Int32), h)) else (if Int32.toInt x0 = 42 then (some ((1 : Int32), h)) else (if Int32.toInt x0 = 43 then (some ((1 : Int32), h)) else (if Int32.toInt x0 = 44 then (some ((0 : Int32), h)) else (if Int32.toInt x0 = 45 then (some ((1 : Int32), h)) else (if Int32.toInt x0 = 46 then (some ((0 : Int32), h)) else (if Int32.toInt x0 = 47 then (some ((1 : Int32), h)) else (if Int32.toInt x0 = 48 then (some ((0 : Int32), h)) else (if Int32.toInt x0 = 49 then (some ((0 : Int32), h)) else (if Int32.toInt x0 = 50 then (some ((0 : Int32), h)) else (if Int32.toInt x0 = 51 then (some ((0 : Int32), h)) else (if Int32.toInt x0 = 52 then (some ((0 : Int32), h)) else (if Int32.toInt x0 = 53 then (some ((0 : Int32), h)) else (if Int32.toInt x0 = 54 then (some ((0 : Int32), h)) else (if Int32.toInt x0 = 55 then (some ((0 : Int32), h)) else (if Int32.toInt x0 = 56 then (some ((0 : Int32), h)) else (if Int32.toInt x0 = 57 then (some ((0 : Int32), h)) else (if Int32.toInt x0 = 58 then (some ((0 : Int32), h)) else (if Int32.toInt x0 = 59 then (some ((1 : Int32), h)) else (if Int32.toInt x0 = 60 then (some ((1 : Int32), h)) else (if Int32.toInt x0 = 61 then (some ((1 : Int32), h)) else (if Int32.toInt x0 = 62 then (some ((1 : Int32), h)) else (some ((0 : Int32), h)))))))))))))))))))))))))
theorem tBX6_isSign_0 {d : Nat} {h0 : ea_H} (hd : 1 ≤ d)  {x0 : Int32} {h : ea_H} {r : Int32} {h' : ea_H} (E : BX6_isSign_0 x0 h = some (r, h')) : ea_W mX6_isSign d h0 (some (vI r)) h' 0 [(0, vI x0)] [] h := by
  unfold BX6_isSign_0 at E
  refine ea_iload_n (pc := 0) dX6_isSign_0 rfl 0 rfl ?_
  by_cases q1_0 : Int32.toInt x0 = 40
  · have E := (if_pos q1_0).symm.trans E
    refine ea_tswIn (pc := 1) (tgt := 108) dX6_isSign_1 (by rw [q1_0]; decide) (by rw [q1_0]; decide) (by rw [q1_0]; rfl) rfl ?_
    refine ea_iconst (pc := 108) dX6_isSign_108 (v := 1) rfl ?_
    exact ea_iretO (pc := 109) dX6_isSign_109 rfl (ea_bn (Or.inr rfl)) E
  have E := (if_neg q1_0).symm.trans E
  by_cases q1_1 : Int32.toInt x0 = 41
  · have E := (if_pos q1_1).symm.trans E
    refine ea_tswIn (pc := 1) (tgt := 108) dX6_isSign_1 (by rw [q1_1]; decide) (by rw [q1_1]; decide) (by rw [q1_1]; rfl) rfl ?_
    refine ea_iconst (pc := 108) dX6_isSign_108 (v := 1) rfl ?_
    exact ea_iretO (pc := 109) dX6_isSign_109 rfl (ea_bn (Or.inr rfl)) E
  have E := (if_neg q1_1).symm.trans E
  by_cases q1_2 : Int32.toInt x0 = 42
  · have E := (if_pos q1_2).symm.trans E
    refine ea_tswIn (pc := 1) (tgt := 108) dX6_isSign_1 (by rw [q1_2]; decide) (by rw [q1_2]; decide) (by rw [q1_2]; rfl) rfl ?_
    refine ea_iconst (pc := 108) dX6_isSign_108 (v := 1) rfl ?_
    exact ea_iretO (pc := 109) dX6_isSign_109 rfl (ea_bn (Or.inr rfl)) E
  have E := (if_neg q1_2).symm.trans E
  by_cases q1_3 : Int32.toInt x0 = 43
  · have E := (if_pos q1_3).symm.trans E
    refine ea_tswIn (pc := 1) (tgt := 108) dX6_isSign_1 (by rw [q1_3]; decide) (by rw [q1_3]; decide) (by rw [q1_3]; rfl) rfl ?_
    refine ea_iconst (pc := 108) dX6_isSign_108 (v := 1) rfl ?_
    exact ea_iretO (pc := 109) dX6_isSign_109 rfl (ea_bn (Or.inr rfl)) E
  have E := (if_neg q1_3).symm.trans E
  by_cases q1_4 : Int32.toInt x0 = 44
  · have E := (if_pos q1_4).symm.trans E
    refine ea_tswIn (pc := 1) (tgt := 110) dX6_isSign_1 (by rw [q1_4]; decide) (by rw [q1_4]; decide) (by rw [q1_4]; rfl) rfl ?_
    refine ea_iconst (pc := 110) dX6_isSign_110 (v := 0) rfl ?_
    exact ea_iretO (pc := 111) dX6_isSign_111 rfl (ea_bn (Or.inl rfl)) E
  have E := (if_neg q1_4).symm.trans E
  by_cases q1_5 : Int32.toInt x0 = 45
  · have E := (if_pos q1_5).symm.trans E
    refine ea_tswIn (pc := 1) (tgt := 108) dX6_isSign_1 (by rw [q1_5]; decide) (by rw [q1_5]; decide) (by rw [q1_5]; rfl) rfl ?_
    refine ea_iconst (pc := 108) dX6_isSign_108 (v := 1) rfl ?_
    exact ea_iretO (pc := 109) dX6_isSign_109 rfl (ea_bn (Or.inr rfl)) E
  have E := (if_neg q1_5).symm.trans E
  by_cases q1_6 : Int32.toInt x0 = 46
  · have E := (if_pos q1_6).symm.trans E
    refine ea_tswIn (pc := 1) (tgt := 110) dX6_isSign_1 (by rw [q1_6]; decide) (by rw [q1_6]; decide) (by rw [q1_6]; rfl) rfl ?_
    refine ea_iconst (pc := 110) dX6_isSign_110 (v := 0) rfl ?_
    exact ea_iretO (pc := 111) dX6_isSign_111 rfl (ea_bn (Or.inl rfl)) E
  have E := (if_neg q1_6).symm.trans E
  by_cases q1_7 : Int32.toInt x0 = 47
  · have E := (if_pos q1_7).symm.trans E
    refine ea_tswIn (pc := 1) (tgt := 108) dX6_isSign_1 (by rw [q1_7]; decide) (by rw [q1_7]; decide) (by rw [q1_7]; rfl) rfl ?_
    refine ea_iconst (pc := 108) dX6_isSign_108 (v := 1) rfl ?_
    exact ea_iretO (pc := 109) dX6_isSign_109 rfl (ea_bn (Or.inr rfl)) E
  have E := (if_neg q1_7).symm.trans E
  by_cases q1_8 : Int32.toInt x0 = 48
  · have E := (if_pos q1_8).symm.trans E
    refine ea_tswIn (pc := 1) (tgt := 110) dX6_isSign_1 (by rw [q1_8]; decide) (by rw [q1_8]; decide) (by rw [q1_8]; rfl) rfl ?_
    refine ea_iconst (pc := 110) dX6_isSign_110 (v := 0) rfl ?_
    exact ea_iretO (pc := 111) dX6_isSign_111 rfl (ea_bn (Or.inl rfl)) E
  have E := (if_neg q1_8).symm.trans E
  by_cases q1_9 : Int32.toInt x0 = 49
  · have E := (if_pos q1_9).symm.trans E
    refine ea_tswIn (pc := 1) (tgt := 110) dX6_isSign_1 (by rw [q1_9]; decide) (by rw [q1_9]; decide) (by rw [q1_9]; rfl) rfl ?_
    refine ea_iconst (pc := 110) dX6_isSign_110 (v := 0) rfl ?_
    exact ea_iretO (pc := 111) dX6_isSign_111 rfl (ea_bn (Or.inl rfl)) E
  have E := (if_neg q1_9).symm.trans E
  by_cases q1_10 : Int32.toInt x0 = 50
  · have E := (if_pos q1_10).symm.trans E
    refine ea_tswIn (pc := 1) (tgt := 110) dX6_isSign_1 (by rw [q1_10]; decide) (by rw [q1_10]; decide) (by rw [q1_10]; rfl) rfl ?_
    refine ea_iconst (pc := 110) dX6_isSign_110 (v := 0) rfl ?_
    exact ea_iretO (pc := 111) dX6_isSign_111 rfl (ea_bn (Or.inl rfl)) E
  have E := (if_neg q1_10).symm.trans E
  by_cases q1_11 : Int32.toInt x0 = 51
  · have E := (if_pos q1_11).symm.trans E
    refine ea_tswIn (pc := 1) (tgt := 110) dX6_isSign_1 (by rw [q1_11]; decide) (by rw [q1_11]; decide) (by rw [q1_11]; rfl) rfl ?_
    refine ea_iconst (pc := 110) dX6_isSign_110 (v := 0) rfl ?_
    exact ea_iretO (pc := 111) dX6_isSign_111 rfl (ea_bn (Or.inl rfl)) E
  have E := (if_neg q1_11).symm.trans E
  by_cases q1_12 : Int32.toInt x0 = 52
  · have E := (if_pos q1_12).symm.trans E
    refine ea_tswIn (pc := 1) (tgt := 110) dX6_isSign_1 (by rw [q1_12]; decide) (by rw [q1_12]; decide) (by rw [q1_12]; rfl) rfl ?_
    refine ea_iconst (pc := 110) dX6_isSign_110 (v := 0) rfl ?_
    exact ea_iretO (pc := 111) dX6_isSign_111 rfl (ea_bn (Or.inl rfl)) E
  have E := (if_neg q1_12).symm.trans E
  by_cases q1_13 : Int32.toInt x0 = 53
  · have E := (if_pos q1_13).symm.trans E
    refine ea_tswIn (pc := 1) (tgt := 110) dX6_isSign_1 (by rw [q1_13]; decide) (by rw [q1_13]; decide) (by rw [q1_13]; rfl) rfl ?_
    refine ea_iconst (pc := 110) dX6_isSign_110 (v := 0) rfl ?_
    exact ea_iretO (pc := 111) dX6_isSign_111 rfl (ea_bn (Or.inl rfl)) E
  have E := (if_neg q1_13).symm.trans E
  by_cases q1_14 : Int32.toInt x0 = 54
  · have E := (if_pos q1_14).symm.trans E
    refine ea_tswIn (pc := 1) (tgt := 110) dX6_isSign_1 (by rw [q1_14]; decide) (by rw [q1_14]; decide) (by rw [q1_14]; rfl) rfl ?_
    refine ea_iconst (pc := 110) dX6_isSign_110 (v := 0) rfl ?_
    exact ea_iretO (pc := 111) dX6_isSign_111 rfl (ea_bn (Or.inl rfl)) E
  have E := (if_neg q1_14).symm.trans E
  by_cases q1_15 : Int32.toInt x0 = 55
  · have E := (if_pos q1_15).symm.trans E
    refine ea_tswIn (pc := 1) (tgt := 110) dX6_isSign_1 (by rw [q1_15]; decide) (by rw [q1_15]; decide) (by rw [q1_15]; rfl) rfl ?_
    refine ea_iconst (pc := 110) dX6_isSign_110 (v := 0) rfl ?_
    exact ea_iretO (pc := 111) dX6_isSign_111 rfl (ea_bn (Or.inl rfl)) E
  have E := (if_neg q1_15).symm.trans E
  by_cases q1_16 : Int32.toInt x0 = 56
  · have E := (if_pos q1_16).symm.trans E
    refine ea_tswIn (pc := 1) (tgt := 110) dX6_isSign_1 (by rw [q1_16]; decide) (by rw [q1_16]; decide) (by rw [q1_16]; rfl) rfl ?_
    refine ea_iconst (pc := 110) dX6_isSign_110 (v := 0) rfl ?_
    exact ea_iretO (pc := 111) dX6_isSign_111 rfl (ea_bn (Or.inl rfl)) E
  have E := (if_neg q1_16).symm.trans E
  by_cases q1_17 : Int32.toInt x0 = 57
  · have E := (if_pos q1_17).symm.trans E
    refine ea_tswIn (pc := 1) (tgt := 110) dX6_isSign_1 (by rw [q1_17]; decide) (by rw [q1_17]; decide) (by rw [q1_17]; rfl) rfl ?_
    refine ea_iconst (pc := 110) dX6_isSign_110 (v := 0) rfl ?_
    exact ea_iretO (pc := 111) dX6_isSign_111 rfl (ea_bn (Or.inl rfl)) E
  have E := (if_neg q1_17).symm.trans E
  by_cases q1_18 : Int32.toInt x0 = 58
  · have E := (if_pos q1_18).symm.trans E
    refine ea_tswIn (pc := 1) (tgt := 110) dX6_isSign_1 (by rw [q1_18]; decide) (by rw [q1_18]; decide) (by rw [q1_18]; rfl) rfl ?_
    refine ea_iconst (pc := 110) dX6_isSign_110 (v := 0) rfl ?_
    exact ea_iretO (pc := 111) dX6_isSign_111 rfl (ea_bn (Or.inl rfl)) E
  have E := (if_neg q1_18).symm.trans E
  by_cases q1_19 : Int32.toInt x0 = 59
  · have E := (if_pos q1_19).symm.trans E
    refine ea_tswIn (pc := 1) (tgt := 108) dX6_isSign_1 (by rw [q1_19]; decide) (by rw [q1_19]; decide) (by rw [q1_19]; rfl) rfl ?_
    refine ea_iconst (pc := 108) dX6_isSign_108 (v := 1) rfl ?_
    exact ea_iretO (pc := 109) dX6_isSign_109 rfl (ea_bn (Or.inr rfl)) E
  have E := (if_neg q1_19).symm.trans E
  by_cases q1_20 : Int32.toInt x0 = 60
  · have E := (if_pos q1_20).symm.trans E
    refine ea_tswIn (pc := 1) (tgt := 108) dX6_isSign_1 (by rw [q1_20]; decide) (by rw [q1_20]; decide) (by rw [q1_20]; rfl) rfl ?_
    refine ea_iconst (pc := 108) dX6_isSign_108 (v := 1) rfl ?_
    exact ea_iretO (pc := 109) dX6_isSign_109 rfl (ea_bn (Or.inr rfl)) E
  have E := (if_neg q1_20).symm.trans E
  by_cases q1_21 : Int32.toInt x0 = 61
  · have E := (if_pos q1_21).symm.trans E
    refine ea_tswIn (pc := 1) (tgt := 108) dX6_isSign_1 (by rw [q1_21]; decide) (by rw [q1_21]; decide) (by rw [q1_21]; rfl) rfl ?_
    refine ea_iconst (pc := 108) dX6_isSign_108 (v := 1) rfl ?_
    exact ea_iretO (pc := 109) dX6_isSign_109 rfl (ea_bn (Or.inr rfl)) E
  have E := (if_neg q1_21).symm.trans E
  by_cases q1_22 : Int32.toInt x0 = 62
  · have E := (if_pos q1_22).symm.trans E
    refine ea_tswIn (pc := 1) (tgt := 108) dX6_isSign_1 (by rw [q1_22]; decide) (by rw [q1_22]; decide) (by rw [q1_22]; rfl) rfl ?_
    refine ea_iconst (pc := 108) dX6_isSign_108 (v := 1) rfl ?_
    exact ea_iretO (pc := 109) dX6_isSign_109 rfl (ea_bn (Or.inr rfl)) E
  have E := (if_neg q1_22).symm.trans E
  refine ea_tswOut (pc := 1) (tgt := 110) dX6_isSign_1 (ea_sw_40_62 q1_0 q1_1 q1_2 q1_3 q1_4 q1_5 q1_6 q1_7 q1_8 q1_9 q1_10 q1_11 q1_12 q1_13 q1_14 q1_15 q1_16 q1_17 q1_18 q1_19 q1_20 q1_21 q1_22) rfl ?_
  refine ea_iconst (pc := 110) dX6_isSign_110 (v := 0) rfl ?_
  exact ea_iretO (pc := 111) dX6_isSign_111 rfl (ea_bn (Or.inl rfl)) E
theorem kBX6_isSign_0  {x0 : Int32} {h : ea_H} : kp (ea_core h) (BX6_isSign_0 x0 h) :=
  (kp_ite (kp_ret rfl) (kp_ite (kp_ret rfl) (kp_ite (kp_ret rfl) (kp_ite (kp_ret rfl) (kp_ite (kp_ret rfl) (kp_ite (kp_ret rfl) (kp_ite (kp_ret rfl) (kp_ite (kp_ret rfl) (kp_ite (kp_ret rfl) (kp_ite (kp_ret rfl) (kp_ite (kp_ret rfl) (kp_ite (kp_ret rfl) (kp_ite (kp_ret rfl) (kp_ite (kp_ret rfl) (kp_ite (kp_ret rfl) (kp_ite (kp_ret rfl) (kp_ite (kp_ret rfl) (kp_ite (kp_ret rfl) (kp_ite (kp_ret rfl) (kp_ite (kp_ret rfl) (kp_ite (kp_ret rfl) (kp_ite (kp_ret rfl) (kp_ite (kp_ret rfl) (kp_ret rfl))))))))))))))))))))))))
noncomputable def qX6_isSign (x0 : Int32) (h : ea_H) : Option (Int32 × ea_H) := BX6_isSign_0 x0 h
theorem sX6_isSign {d : Nat} {x0 : Int32} {h : ea_H} {r : Int32} {h' : ea_H} (hd : 1 ≤ d) (K : qX6_isSign x0 h = some (r, h')) : ea_Met mX6_isSign d [vI x0] h (some (vI r)) h' := by
  unfold qX6_isSign at K
  have W := tBX6_isSign_0 hd (h0 := h) K
  exact ea_enter rfl (Nat.le_of_ble_eq_true rfl) W
theorem kpX6_isSign (x0 : Int32) (h : ea_H) : kp (ea_core h) (qX6_isSign x0 h) := kBX6_isSign_0
noncomputable def BX7_has_0 (x1 : Int32) (h : ea_H) : Option (Int32 × ea_H) :=
  (if x1 < (0 : Int32) then (some ((0 : Int32), h)) else (if (ea_i h 1 0) ≤ x1 then (some ((0 : Int32), h)) else (some ((1 : Int32), h))))
theorem tBX7_has_0 {d : Nat} {h0 : ea_H} (hd : 1 ≤ d)  {x1 : Int32} {h : ea_H} {r : Int32} {h' : ea_H} (E : BX7_has_0 x1 h = some (r, h')) (hs : ShC h) : ea_W mX7_has d h0 (some (vI r)) h' 0 [(0, vR (some 1)), (1, vI x1)] [] h := by
  unfold BX7_has_0 at E
  refine ea_iload_n (pc := 0) dX7_has_0 rfl 1 rfl ?_
  refine ea_if_lt (pc := 1) (tgt := 16) dX7_has_1 rfl (fun c2 => ?_) (fun c2 => ?_)
  · have E := (if_pos c2).symm.trans E
    refine ea_iconst (pc := 16) dX7_has_16 (v := 0) rfl ?_
    exact ea_iretO (pc := 17) dX7_has_17 rfl (ea_bn (Or.inl rfl)) E
  · have E := (if_neg c2).symm.trans E
    refine ea_iload_n (pc := 4) dX7_has_4 rfl 1 rfl ?_
    refine ea_aload_n (pc := 5) dX7_has_5 rfl 0 rfl ?_
    refine ea_getI (pc := 6) dX7_has_6 ec_7 (k := 0) (Nat.le_of_ble_eq_true rfl) rfl (Or.inl ew_164) (cShC_1 hs).1 (cShC_1 hs).2.1 ?_
    refine ea_icmp_ge (pc := 9) (tgt := 16) dX7_has_9 rfl (fun c1 => ?_) (fun c1 => ?_)
    · have E := (if_pos c1).symm.trans E
      refine ea_iconst (pc := 16) dX7_has_16 (v := 0) rfl ?_
      exact ea_iretO (pc := 17) dX7_has_17 rfl (ea_bn (Or.inl rfl)) E
    · have E := (if_neg c1).symm.trans E
      refine ea_iconst (pc := 12) dX7_has_12 (v := 1) rfl ?_
      refine ea_goto (pc := 13) (tgt := 17) dX7_has_13 rfl ?_
      exact ea_iretO (pc := 17) dX7_has_17 rfl (ea_bn (Or.inr rfl)) E
theorem kBX7_has_0  {x1 : Int32} {h : ea_H} : kp (ea_core h) (BX7_has_0 x1 h) :=
  (kp_ite (kp_ret rfl) (kp_ite (kp_ret rfl) (kp_ret rfl)))
noncomputable def qX7_has (x1 : Int32) (h : ea_H) : Option (Int32 × ea_H) := BX7_has_0 x1 h
theorem sX7_has {d : Nat} {x1 : Int32} {h : ea_H} {r : Int32} {h' : ea_H} (hd : 1 ≤ d) (hs : ShC h) (K : qX7_has x1 h = some (r, h')) : ea_Met mX7_has d [vR (some 1), vI x1] h (some (vI r)) h' := by
  unfold qX7_has at K
  have W := tBX7_has_0 hd (h0 := h) K hs
  exact ea_enter rfl (Nat.le_of_ble_eq_true rfl) W
theorem kpX7_has (x1 : Int32) (h : ea_H) : kp (ea_core h) (qX7_has x1 h) := kBX7_has_0
noncomputable def BX7_between_0 (x1 : Int32) (x2 : Int32) (h : ea_H) : Option (Int32 × ea_H) :=
  (gd (vp_in (((12 : Int32) * x1) + x2) 144) (ea_let (ea_i h 3 (Int32.toNatClampNeg (((12 : Int32) * x1) + x2))) fun (v2 : Int32) => (if v2 < (1000000 : Int32) then (some (v2, h)) else (some (((-1) : Int32), h)))))
theorem tBX7_between_0 {d : Nat} {h0 : ea_H} (hd : 1 ≤ d)  {x1 : Int32} {x2 : Int32} {h : ea_H} {r : Int32} {h' : ea_H} (E : BX7_between_0 x1 x2 h = some (r, h')) (hs : ShC h) : ea_W mX7_between d h0 (some (vI r)) h' 0 [(0, vR (some 1)), (1, vI x1), (2, vI x2)] [] h := by
  unfold BX7_between_0 at E
  obtain ⟨z1, E⟩ := gd_some E
  refine ea_aload_n (pc := 0) dX7_between_0 rfl 0 rfl ?_
  refine ea_getR (pc := 1) dX7_between_1 ec_7 (k := 2) (Nat.le_of_ble_eq_true rfl) rfl (Or.inl ew_166) (cShC_1 hs).1 (cShC_1 hs).2.1 (rShC_1_2 hs) ?_
  refine ea_bipush (pc := 4) dX7_between_4 (v := 12) rfl ?_
  refine ea_iload_n (pc := 6) dX7_between_6 rfl 1 rfl ?_
  refine ea_imul (pc := 7) dX7_between_7 ?_
  refine ea_iload_n (pc := 8) dX7_between_8 rfl 2 rfl ?_
  refine ea_iadd (pc := 9) dX7_between_9 ?_
  obtain ⟨v2, ev2, E⟩ := let_some E
  refine ea_iald (pc := 10) dX7_between_10 (cShC_3 hs).1 (cShC_3 hs).2.1 (ea_vpl (cShC_3 hs).2.2 z1) ?_
  refine ea_istore_n (pc := 11) (lv' := [(3, vI v2)]) dX7_between_11 rfl (Nat.le_of_ble_eq_true rfl) [0] (by rw [ev2]; rfl) ?_
  refine ea_iload_n (pc := 12) dX7_between_12 rfl 0 rfl ?_
  refine ea_ldc (pc := 13) dX7_between_13 ew_149 ?_
  refine ea_icmp_lt (pc := 15) (tgt := 22) dX7_between_15 rfl (fun c3 => ?_) (fun c3 => ?_)
  · have E := (if_pos c3).symm.trans E
    refine ea_iload_n (pc := 22) dX7_between_22 rfl 0 rfl ?_
    exact ea_iretO (pc := 23) dX7_between_23 rfl rfl E
  · have E := (if_neg c3).symm.trans E
    refine ea_iconst (pc := 18) dX7_between_18 (v := (-1)) rfl ?_
    refine ea_goto (pc := 19) (tgt := 23) dX7_between_19 rfl ?_
    exact ea_iretO (pc := 23) dX7_between_23 rfl rfl E
theorem kBX7_between_0  {x1 : Int32} {x2 : Int32} {h : ea_H} : kp (ea_core h) (BX7_between_0 x1 x2 h) :=
  (kp_gd (kp_let (kp_ite (kp_ret rfl) (kp_ret rfl))))
noncomputable def qX7_between (x1 : Int32) (x2 : Int32) (h : ea_H) : Option (Int32 × ea_H) := BX7_between_0 x1 x2 h
theorem sX7_between {d : Nat} {x1 : Int32} {x2 : Int32} {h : ea_H} {r : Int32} {h' : ea_H} (hd : 1 ≤ d) (hs : ShC h) (K : qX7_between x1 x2 h = some (r, h')) : ea_Met mX7_between d [vR (some 1), vI x1, vI x2] h (some (vI r)) h' := by
  unfold qX7_between at K
  have W := tBX7_between_0 hd (h0 := h) K hs
  exact ea_enter rfl (Nat.le_of_ble_eq_true rfl) W
theorem kpX7_between (x1 : Int32) (x2 : Int32) (h : ea_H) : kp (ea_core h) (qX7_between x1 x2 h) := kBX7_between_0
noncomputable def BX7_isCross_0 (x1 : Int32) (x2 : Int32) (h : ea_H) : Option (Int32 × ea_H) :=
  (gd (vp_in (((12 : Int32) * x1) + x2) 144) (ea_let (ea_i h 3 (Int32.toNatClampNeg (((12 : Int32) * x1) + x2))) fun (v2 : Int32) => (if x1 = (0 : Int32) then (some ((0 : Int32), h)) else (if x2 = (0 : Int32) then (some ((0 : Int32), h)) else (if (1000000 : Int32) ≤ v2 then (some ((0 : Int32), h)) else (gd (vp_in (((12 : Int32) * x1) + x2) 144) (if (ea_i h 4 (Int32.toNatClampNeg (((12 : Int32) * x1) + x2))) = v2 then (some ((1 : Int32), h)) else (some ((0 : Int32), h)))))))))
theorem tBX7_isCross_0 {d : Nat} {h0 : ea_H} (hd : 1 ≤ d)  {x1 : Int32} {x2 : Int32} {h : ea_H} {r : Int32} {h' : ea_H} (E : BX7_isCross_0 x1 x2 h = some (r, h')) (hs : ShC h) : ea_W mX7_isCross d h0 (some (vI r)) h' 0 [(0, vR (some 1)), (1, vI x1), (2, vI x2)] [] h := by
  unfold BX7_isCross_0 at E
  obtain ⟨z1, E⟩ := gd_some E
  refine ea_aload_n (pc := 0) dX7_isCross_0 rfl 0 rfl ?_
  refine ea_getR (pc := 1) dX7_isCross_1 ec_7 (k := 2) (Nat.le_of_ble_eq_true rfl) rfl (Or.inl ew_166) (cShC_1 hs).1 (cShC_1 hs).2.1 (rShC_1_2 hs) ?_
  refine ea_bipush (pc := 4) dX7_isCross_4 (v := 12) rfl ?_
  refine ea_iload_n (pc := 6) dX7_isCross_6 rfl 1 rfl ?_
  refine ea_imul (pc := 7) dX7_isCross_7 ?_
  refine ea_iload_n (pc := 8) dX7_isCross_8 rfl 2 rfl ?_
  refine ea_iadd (pc := 9) dX7_isCross_9 ?_
  obtain ⟨v2, ev2, E⟩ := let_some E
  refine ea_iald (pc := 10) dX7_isCross_10 (cShC_3 hs).1 (cShC_3 hs).2.1 (ea_vpl (cShC_3 hs).2.2 z1) ?_
  refine ea_istore_n (pc := 11) (lv' := [(0, vR (some 1)), (1, vI x1), (2, vI x2), (3, vI v2)]) dX7_isCross_11 rfl (Nat.le_of_ble_eq_true rfl) [1, 2, 3, 0] (by rw [ev2]; rfl) ?_
  refine ea_iload_n (pc := 12) dX7_isCross_12 rfl 1 rfl ?_
  refine ea_if_eq (pc := 13) (tgt := 45) dX7_isCross_13 rfl (fun c7 => ?_) (fun c7 => ?_)
  · have E := (if_pos c7).symm.trans E
    refine ea_iconst (pc := 45) dX7_isCross_45 (v := 0) rfl ?_
    exact ea_iretO (pc := 46) dX7_isCross_46 rfl (ea_bn (Or.inl rfl)) E
  · have E := (if_neg c7).symm.trans E
    refine ea_iload_n (pc := 16) dX7_isCross_16 rfl 2 rfl ?_
    refine ea_if_eq (pc := 17) (tgt := 45) dX7_isCross_17 rfl (fun c6 => ?_) (fun c6 => ?_)
    · have E := (if_pos c6).symm.trans E
      refine ea_iconst (pc := 45) dX7_isCross_45 (v := 0) rfl ?_
      exact ea_iretO (pc := 46) dX7_isCross_46 rfl (ea_bn (Or.inl rfl)) E
    · have E := (if_neg c6).symm.trans E
      refine ea_iload_n (pc := 20) dX7_isCross_20 rfl 3 rfl ?_
      refine ea_ldc (pc := 21) dX7_isCross_21 ew_149 ?_
      refine ea_icmp_ge (pc := 23) (tgt := 45) dX7_isCross_23 rfl (fun c5 => ?_) (fun c5 => ?_)
      · have E := (if_pos c5).symm.trans E
        refine ea_iconst (pc := 45) dX7_isCross_45 (v := 0) rfl ?_
        exact ea_iretO (pc := 46) dX7_isCross_46 rfl (ea_bn (Or.inl rfl)) E
      · have E := (if_neg c5).symm.trans E
        obtain ⟨z3, E⟩ := gd_some E
        refine ea_aload_n (pc := 26) dX7_isCross_26 rfl 0 rfl ?_
        refine ea_getR (pc := 27) dX7_isCross_27 ec_7 (k := 3) (Nat.le_of_ble_eq_true rfl) rfl (Or.inl ew_167) (cShC_1 hs).1 (cShC_1 hs).2.1 (rShC_1_3 hs) ?_
        refine ea_bipush (pc := 30) dX7_isCross_30 (v := 12) rfl ?_
        refine ea_iload_n (pc := 32) dX7_isCross_32 rfl 1 rfl ?_
        refine ea_imul (pc := 33) dX7_isCross_33 ?_
        refine ea_iload_n (pc := 34) dX7_isCross_34 rfl 2 rfl ?_
        refine ea_iadd (pc := 35) dX7_isCross_35 ?_
        refine ea_iald (pc := 36) dX7_isCross_36 (cShC_4 hs).1 (cShC_4 hs).2.1 (ea_vpl (cShC_4 hs).2.2 z3) ?_
        refine ea_iload_n (pc := 37) dX7_isCross_37 rfl 3 rfl ?_
        refine ea_icmp_ne (pc := 38) (tgt := 45) dX7_isCross_38 rfl (fun c4 => ?_) (fun c4 => ?_)
        · have E := (if_neg c4).symm.trans E
          refine ea_iconst (pc := 45) dX7_isCross_45 (v := 0) rfl ?_
          exact ea_iretO (pc := 46) dX7_isCross_46 rfl (ea_bn (Or.inl rfl)) E
        · have E := (if_pos c4).symm.trans E
          refine ea_iconst (pc := 41) dX7_isCross_41 (v := 1) rfl ?_
          refine ea_goto (pc := 42) (tgt := 46) dX7_isCross_42 rfl ?_
          exact ea_iretO (pc := 46) dX7_isCross_46 rfl (ea_bn (Or.inr rfl)) E
theorem kBX7_isCross_0  {x1 : Int32} {x2 : Int32} {h : ea_H} : kp (ea_core h) (BX7_isCross_0 x1 x2 h) :=
  (kp_gd (kp_let (kp_ite (kp_ret rfl) (kp_ite (kp_ret rfl) (kp_ite (kp_ret rfl) (kp_gd (kp_ite (kp_ret rfl) (kp_ret rfl))))))))
noncomputable def qX7_isCross (x1 : Int32) (x2 : Int32) (h : ea_H) : Option (Int32 × ea_H) := BX7_isCross_0 x1 x2 h
theorem sX7_isCross {d : Nat} {x1 : Int32} {x2 : Int32} {h : ea_H} {r : Int32} {h' : ea_H} (hd : 1 ≤ d) (hs : ShC h) (K : qX7_isCross x1 x2 h = some (r, h')) : ea_Met mX7_isCross d [vR (some 1), vI x1, vI x2] h (some (vI r)) h' := by
  unfold qX7_isCross at K
  have W := tBX7_isCross_0 hd (h0 := h) K hs
  exact ea_enter rfl (Nat.le_of_ble_eq_true rfl) W
theorem kpX7_isCross (x1 : Int32) (x2 : Int32) (h : ea_H) : kp (ea_core h) (qX7_isCross x1 x2 h) := kBX7_isCross_0
noncomputable def BX7_reckon_dyn_0 (a0 : Nat) (J15 : Option Nat → Int32 → ea_H → Option (Unit × ea_H)) (r1 : Option Nat) (x2 : Int32) (h : ea_H) : Option (Unit × ea_H) :=
  (gd ((a0 < ea_n h ∧ ea_c h a0 = 7)) (gd (r1 = some (Option.getD r1 0)) (gd (((Option.getD r1 0) < ea_n h ∧ ea_c h (Option.getD r1 0) = 20)) (gd ((ea_r h a0 1) = some (Option.getD (ea_r h a0 1) 0)) (gd (((Option.getD (ea_r h a0 1) 0) < ea_n h ∧ ea_c h (Option.getD (ea_r h a0 1) 0) = 20)) (gd ((¬ (0 : Int32) < 0)) (gd ((¬ (0 : Int32) < 0)) (gd ((¬ (144 : Int32) < 0)) (gd (((Int32.toNatClampNeg 0) + (Int32.toNatClampNeg 144) ≤ ea_l h (Option.getD (ea_r h a0 1) 0))) (gd (((Int32.toNatClampNeg 0) + (Int32.toNatClampNeg 144) ≤ ea_l h (Option.getD r1 0))) (ea_let (ea_wa h (Option.getD r1 0) (va_cpy (ea_i h (Option.getD (ea_r h a0 1) 0)) (ea_i h (Option.getD r1 0)) (Int32.toNatClampNeg 0) (Int32.toNatClampNeg 0) (Int32.toNatClampNeg 144))) fun H12 => (J15 (r1 : Option Nat) (x2 : Int32) H12))))))))))))
theorem tBX7_reckon_dyn_0 {d : Nat} {a0 : Nat} {h0 : ea_H} (hd : 2 ≤ d) {J15 : Option Nat → Int32 → ea_H → Option (Unit × ea_H)}  (kJ15 : ∀ (r1 : Option Nat) (x3 : Int32) (h : ea_H) (r : Unit) (h' : ea_H), J15 r1 x3 h = some (r, h') → ea_W mX7_reckon d h0 none h' 15 [(1, vR r1), (3, vI x3)] [] h) {r1 : Option Nat} {x2 : Int32} {h : ea_H} {r : Unit} {h' : ea_H} (E : BX7_reckon_dyn_0 a0 J15 r1 x2 h = some (r, h')) : ea_W mX7_reckon d h0 none h' 0 [(0, vR (some a0)), (1, vR r1), (2, vI x2)] [] h := by
  unfold BX7_reckon_dyn_0 at E
  obtain ⟨f1, E⟩ := gd_some E
  refine ea_aload_n (pc := 0) dX7_reckon_0 rfl 0 rfl ?_
  obtain ⟨e2, E⟩ := gd_some E
  refine ea_getR (pc := 1) dX7_reckon_1 ec_7 (k := 1) (Nat.le_of_ble_eq_true rfl) rfl (Or.inl ew_165) f1.1 f1.2 rfl ?_
  refine ea_iconst (pc := 4) dX7_reckon_4 (v := 0) rfl ?_
  refine ea_aload_n (pc := 5) dX7_reckon_5 rfl 1 rfl ?_
  refine ea_iconst (pc := 6) dX7_reckon_6 (v := 0) rfl ?_
  refine ea_sipush (pc := 7) dX7_reckon_7 (v := 144) rfl ?_
  obtain ⟨f3, E⟩ := gd_some E
  obtain ⟨e4, E⟩ := gd_some E
  obtain ⟨f5, E⟩ := gd_some E
  obtain ⟨z6, E⟩ := gd_some E
  obtain ⟨z7, E⟩ := gd_some E
  obtain ⟨z8, E⟩ := gd_some E
  obtain ⟨z9, E⟩ := gd_some E
  obtain ⟨z10, E⟩ := gd_some E
  obtain ⟨H12, eH12, E⟩ := let_some E
  refine ea_deref2 e2 ?_
  refine ea_deref4 e4 ?_
  refine ea_copyX (pc := 10) (sp := 0) (dp := 0) (n := 144) 0 (fun _ => rfl) (Or.inl rfl) rfl dX7_reckon_10 ew_157 ew_159 ew_158 ew_118 ⟨f5.1, f5.2⟩ ⟨f3.1, f3.2⟩ z6 z7 z8 z9 z10 (fun _ _ => rfl) (by omega) (Nat.le_of_ble_eq_true rfl) ?_
  refine ea_nm eH12 ?_
  refine ea_iload_n (pc := 13) dX7_reckon_13 rfl 2 rfl ?_
  refine ea_istore_n (pc := 14) (lv' := [(1, vR r1), (3, vI x2)]) dX7_reckon_14 rfl (Nat.le_of_ble_eq_true rfl) [2, 0] rfl ?_
  exact (kJ15 (r1 : Option Nat) (x2 : Int32) H12 _ _ E)
theorem kBX7_reckon_dyn_0 {a0 : Nat} {J15 : Option Nat → Int32 → ea_H → Option (Unit × ea_H)}  (cJ15 : ∀ (r1 : Option Nat) (x3 : Int32) (h : ea_H), kp (ea_core h) (J15 r1 x3 h)) {r1 : Option Nat} {x2 : Int32} {h : ea_H} : kp (ea_core h) (BX7_reckon_dyn_0 a0 J15 r1 x2 h) :=
  (kp_gd (kp_gd (kp_gd (kp_gd (kp_gd (kp_gd (kp_gd (kp_gd (kp_gd (kp_gd (kp_let (kp_tw (cJ15 _ _ _) rfl))))))))))))
theorem lBX7_reckon_dyn_0 {a0 : Nat} {J15 : Option Nat → Int32 → ea_H → Option (Unit × ea_H)} {J15_ : Option Nat → Int32 → ea_H → Option (Unit × ea_H)}  (mJ15 : ∀ (r1 : Option Nat) (x3 : Int32) (h : ea_H), fle (J15 r1 x3 h) (J15_ r1 x3 h)) {r1 : Option Nat} {x2 : Int32} {h : ea_H} : fle (BX7_reckon_dyn_0 a0 J15 r1 x2 h) (BX7_reckon_dyn_0 a0 J15_ r1 x2 h) :=
  (fle_gd (fle_gd (fle_gd (fle_gd (fle_gd (fle_gd (fle_gd (fle_gd (fle_gd (fle_gd (fle_let fun _ => (mJ15 _ _ _))))))))))))
theorem nBX7_reckon_dyn_0 {a0 : Nat} {J15 : Option Nat → Int32 → ea_H → Option (Unit × ea_H)} {J15_ : Nat → (Option Nat → Int32 → ea_H → Option (Unit × ea_H))}  (mJ15 : ∀ (r1 : Option Nat) (x3 : Int32) (h : ea_H), fct (J15 r1 x3 h) (fun f => J15_ f r1 x3 h)) {r1 : Option Nat} {x2 : Int32} {h : ea_H} : fct (BX7_reckon_dyn_0 a0 J15 r1 x2 h) (fun f => BX7_reckon_dyn_0 a0 (J15_ f) r1 x2 h) :=
  (fct_gd (fct_gd (fct_gd (fct_gd (fct_gd (fct_gd (fct_gd (fct_gd (fct_gd (fct_gd (fct_let fun _ => (mJ15 _ _ _))))))))))))
noncomputable def BX7_reckon_dyn_15 (a0 : Nat) (J24 : Option Nat → Int32 → Int32 → ea_H → Option (Unit × ea_H)) (r1 : Option Nat) (x3 : Int32) (h : ea_H) : Option (Unit × ea_H) :=
  (if (12 : Int32) ≤ x3 then (some ((), h)) else (J24 (r1 : Option Nat) (x3 : Int32) (0 : Int32) h))
theorem tBX7_reckon_dyn_15 {d : Nat} {a0 : Nat} {h0 : ea_H} (hd : 2 ≤ d) {J24 : Option Nat → Int32 → Int32 → ea_H → Option (Unit × ea_H)}  (kJ24 : ∀ (r1 : Option Nat) (x3 : Int32) (x4 : Int32) (h : ea_H) (r : Unit) (h' : ea_H), J24 r1 x3 x4 h = some (r, h') → ea_W mX7_reckon d h0 none h' 24 [(1, vR r1), (3, vI x3), (4, vI x4)] [] h) {r1 : Option Nat} {x3 : Int32} {h : ea_H} {r : Unit} {h' : ea_H} (E : BX7_reckon_dyn_15 a0 J24 r1 x3 h = some (r, h')) : ea_W mX7_reckon d h0 none h' 15 [(1, vR r1), (3, vI x3)] [] h := by
  unfold BX7_reckon_dyn_15 at E
  refine ea_iload_n (pc := 15) dX7_reckon_15 rfl 1 rfl ?_
  refine ea_bipush (pc := 16) dX7_reckon_16 (v := 12) rfl ?_
  refine ea_icmp_ge (pc := 18) (tgt := 105) dX7_reckon_18 rfl (fun c13 => ?_) (fun c13 => ?_)
  · have E := (if_pos c13).symm.trans E
    exact ea_vretO (pc := 105) dX7_reckon_105 rfl E
  · have E := (if_neg c13).symm.trans E
    refine ea_iconst (pc := 21) dX7_reckon_21 (v := 0) rfl ?_
    refine ea_istore (pc := 22) (lv' := [(1, vR r1), (3, vI x3), (4, vI 0)]) dX7_reckon_22 (Nat.le_of_ble_eq_true rfl) [1, 2, 0] rfl ?_
    exact (kJ24 (r1 : Option Nat) (x3 : Int32) (0 : Int32) h _ _ E)
theorem kBX7_reckon_dyn_15 {a0 : Nat} {J24 : Option Nat → Int32 → Int32 → ea_H → Option (Unit × ea_H)}  (cJ24 : ∀ (r1 : Option Nat) (x3 : Int32) (x4 : Int32) (h : ea_H), kp (ea_core h) (J24 r1 x3 x4 h)) {r1 : Option Nat} {x3 : Int32} {h : ea_H} : kp (ea_core h) (BX7_reckon_dyn_15 a0 J24 r1 x3 h) :=
  (kp_ite (kp_ret rfl) (kp_tw (cJ24 _ _ _ _) rfl))
theorem lBX7_reckon_dyn_15 {a0 : Nat} {J24 : Option Nat → Int32 → Int32 → ea_H → Option (Unit × ea_H)} {J24_ : Option Nat → Int32 → Int32 → ea_H → Option (Unit × ea_H)}  (mJ24 : ∀ (r1 : Option Nat) (x3 : Int32) (x4 : Int32) (h : ea_H), fle (J24 r1 x3 x4 h) (J24_ r1 x3 x4 h)) {r1 : Option Nat} {x3 : Int32} {h : ea_H} : fle (BX7_reckon_dyn_15 a0 J24 r1 x3 h) (BX7_reckon_dyn_15 a0 J24_ r1 x3 h) :=
  (fle_ite (fle_rfl _) (mJ24 _ _ _ _))
theorem nBX7_reckon_dyn_15 {a0 : Nat} {J24 : Option Nat → Int32 → Int32 → ea_H → Option (Unit × ea_H)} {J24_ : Nat → (Option Nat → Int32 → Int32 → ea_H → Option (Unit × ea_H))}  (mJ24 : ∀ (r1 : Option Nat) (x3 : Int32) (x4 : Int32) (h : ea_H), fct (J24 r1 x3 x4 h) (fun f => J24_ f r1 x3 x4 h)) {r1 : Option Nat} {x3 : Int32} {h : ea_H} : fct (BX7_reckon_dyn_15 a0 J24 r1 x3 h) (fun f => BX7_reckon_dyn_15 a0 (J24_ f) r1 x3 h) :=
  (fct_ite (fct_rfl _) (mJ24 _ _ _ _))
noncomputable def BX7_reckon_dyn_24 (a0 : Nat) (J15 : Option Nat → Int32 → ea_H → Option (Unit × ea_H)) (J34 : Option Nat → Int32 → Int32 → Int32 → ea_H → Option (Unit × ea_H)) (r1 : Option Nat) (x3 : Int32) (x4 : Int32) (h : ea_H) : Option (Unit × ea_H) :=
  (if (12 : Int32) ≤ x4 then (J15 (r1 : Option Nat) ((x3 + (1 : Int32)) : Int32) h) else (J34 (r1 : Option Nat) (x3 : Int32) (x4 : Int32) (0 : Int32) h))
theorem tBX7_reckon_dyn_24 {d : Nat} {a0 : Nat} {h0 : ea_H} (hd : 2 ≤ d) {J15 : Option Nat → Int32 → ea_H → Option (Unit × ea_H)} {J34 : Option Nat → Int32 → Int32 → Int32 → ea_H → Option (Unit × ea_H)}  (kJ15 : ∀ (r1 : Option Nat) (x3 : Int32) (h : ea_H) (r : Unit) (h' : ea_H), J15 r1 x3 h = some (r, h') → ea_W mX7_reckon d h0 none h' 15 [(1, vR r1), (3, vI x3)] [] h) (kJ34 : ∀ (r1 : Option Nat) (x3 : Int32) (x4 : Int32) (x5 : Int32) (h : ea_H) (r : Unit) (h' : ea_H), J34 r1 x3 x4 x5 h = some (r, h') → ea_W mX7_reckon d h0 none h' 34 [(1, vR r1), (3, vI x3), (4, vI x4), (5, vI x5)] [] h) {r1 : Option Nat} {x3 : Int32} {x4 : Int32} {h : ea_H} {r : Unit} {h' : ea_H} (E : BX7_reckon_dyn_24 a0 J15 J34 r1 x3 x4 h = some (r, h')) : ea_W mX7_reckon d h0 none h' 24 [(1, vR r1), (3, vI x3), (4, vI x4)] [] h := by
  unfold BX7_reckon_dyn_24 at E
  refine ea_iload (pc := 24) dX7_reckon_24 2 rfl ?_
  refine ea_bipush (pc := 26) dX7_reckon_26 (v := 12) rfl ?_
  refine ea_icmp_ge (pc := 28) (tgt := 99) dX7_reckon_28 rfl (fun c14 => ?_) (fun c14 => ?_)
  · have E := (if_pos c14).symm.trans E
    refine ea_iinc (pc := 99) (v := 1) (lv' := [(1, vR r1), (3, vI (x3 + (1 : Int32)))]) dX7_reckon_99 1 rfl rfl (Nat.le_of_ble_eq_true rfl) [1, 0] rfl ?_
    refine ea_goto (pc := 102) (tgt := 15) dX7_reckon_102 rfl ?_
    exact (kJ15 (r1 : Option Nat) ((x3 + (1 : Int32)) : Int32) h _ _ E)
  · have E := (if_neg c14).symm.trans E
    refine ea_iconst (pc := 31) dX7_reckon_31 (v := 0) rfl ?_
    refine ea_istore (pc := 32) (lv' := [(1, vR r1), (3, vI x3), (4, vI x4), (5, vI 0)]) dX7_reckon_32 (Nat.le_of_ble_eq_true rfl) [1, 2, 3, 0] rfl ?_
    exact (kJ34 (r1 : Option Nat) (x3 : Int32) (x4 : Int32) (0 : Int32) h _ _ E)
theorem kBX7_reckon_dyn_24 {a0 : Nat} {J15 : Option Nat → Int32 → ea_H → Option (Unit × ea_H)} {J34 : Option Nat → Int32 → Int32 → Int32 → ea_H → Option (Unit × ea_H)}  (cJ15 : ∀ (r1 : Option Nat) (x3 : Int32) (h : ea_H), kp (ea_core h) (J15 r1 x3 h)) (cJ34 : ∀ (r1 : Option Nat) (x3 : Int32) (x4 : Int32) (x5 : Int32) (h : ea_H), kp (ea_core h) (J34 r1 x3 x4 x5 h)) {r1 : Option Nat} {x3 : Int32} {x4 : Int32} {h : ea_H} : kp (ea_core h) (BX7_reckon_dyn_24 a0 J15 J34 r1 x3 x4 h) :=
  (kp_ite (kp_tw (cJ15 _ _ _) rfl) (kp_tw (cJ34 _ _ _ _ _) rfl))
theorem lBX7_reckon_dyn_24 {a0 : Nat} {J15 : Option Nat → Int32 → ea_H → Option (Unit × ea_H)} {J34 : Option Nat → Int32 → Int32 → Int32 → ea_H → Option (Unit × ea_H)} {J15_ : Option Nat → Int32 → ea_H → Option (Unit × ea_H)} {J34_ : Option Nat → Int32 → Int32 → Int32 → ea_H → Option (Unit × ea_H)}  (mJ15 : ∀ (r1 : Option Nat) (x3 : Int32) (h : ea_H), fle (J15 r1 x3 h) (J15_ r1 x3 h)) (mJ34 : ∀ (r1 : Option Nat) (x3 : Int32) (x4 : Int32) (x5 : Int32) (h : ea_H), fle (J34 r1 x3 x4 x5 h) (J34_ r1 x3 x4 x5 h)) {r1 : Option Nat} {x3 : Int32} {x4 : Int32} {h : ea_H} : fle (BX7_reckon_dyn_24 a0 J15 J34 r1 x3 x4 h) (BX7_reckon_dyn_24 a0 J15_ J34_ r1 x3 x4 h) :=
  (fle_ite (mJ15 _ _ _) (mJ34 _ _ _ _ _))
theorem nBX7_reckon_dyn_24 {a0 : Nat} {J15 : Option Nat → Int32 → ea_H → Option (Unit × ea_H)} {J34 : Option Nat → Int32 → Int32 → Int32 → ea_H → Option (Unit × ea_H)} {J15_ : Nat → (Option Nat → Int32 → ea_H → Option (Unit × ea_H))} {J34_ : Nat → (Option Nat → Int32 → Int32 → Int32 → ea_H → Option (Unit × ea_H))}  (mJ15 : ∀ (r1 : Option Nat) (x3 : Int32) (h : ea_H), fct (J15 r1 x3 h) (fun f => J15_ f r1 x3 h)) (mJ34 : ∀ (r1 : Option Nat) (x3 : Int32) (x4 : Int32) (x5 : Int32) (h : ea_H), fct (J34 r1 x3 x4 x5 h) (fun f => J34_ f r1 x3 x4 x5 h)) {r1 : Option Nat} {x3 : Int32} {x4 : Int32} {h : ea_H} : fct (BX7_reckon_dyn_24 a0 J15 J34 r1 x3 x4 h) (fun f => BX7_reckon_dyn_24 a0 (J15_ f) (J34_ f) r1 x3 x4 h) :=
  (fct_ite (mJ15 _ _ _) (mJ34 _ _ _ _ _))
noncomputable def BX7_reckon_dyn_34 (a0 : Nat) (J24 : Option Nat → Int32 → Int32 → ea_H → Option (Unit × ea_H)) (J34 : Option Nat → Int32 → Int32 → Int32 → ea_H → Option (Unit × ea_H)) (r1 : Option Nat) (x3 : Int32) (x4 : Int32) (x5 : Int32) (h : ea_H) : Option (Unit × ea_H) :=
  (if (12 : Int32) ≤ x5 then (J24 (r1 : Option Nat) (x3 : Int32) ((x4 + (1 : Int32)) : Int32) h) else (gd (r1 = some (Option.getD r1 0)) (gd (((Option.getD r1 0) < ea_n h ∧ ea_c h (Option.getD r1 0) = 20)) (gd (vp_in (((12 : Int32) * x4) + x3) (ea_l h (Option.getD r1 0))) (gd (r1 = some (Option.getD r1 0)) (gd (((Option.getD r1 0) < ea_n h ∧ ea_c h (Option.getD r1 0) = 20)) (gd (vp_in (((12 : Int32) * x3) + x5) (ea_l h (Option.getD r1 0))) (ea_let ((ea_i h (Option.getD r1 0) (Int32.toNatClampNeg (((12 : Int32) * x4) + x3))) + (ea_i h (Option.getD r1 0) (Int32.toNatClampNeg (((12 : Int32) * x3) + x5)))) fun (v21 : Int32) => (gd (r1 = some (Option.getD r1 0)) (gd (((Option.getD r1 0) < ea_n h ∧ ea_c h (Option.getD r1 0) = 20)) (gd (vp_in (((12 : Int32) * x4) + x5) (ea_l h (Option.getD r1 0))) (gd (r1 = some (Option.getD r1 0)) (gd (((Option.getD r1 0) < ea_n h ∧ ea_c h (Option.getD r1 0) = 20)) (gd (vp_in (((12 : Int32) * x4) + x5) (ea_l h (Option.getD r1 0))) (ea_let (ea_wi h (Option.getD r1 0) (Int32.toNatClampNeg (((12 : Int32) * x4) + x5)) (if v21 < (ea_i h (Option.getD r1 0) (Int32.toNatClampNeg (((12 : Int32) * x4) + x5))) then v21 else (ea_i h (Option.getD r1 0) (Int32.toNatClampNeg (((12 : Int32) * x4) + x5))))) fun H28 => (J34 (r1 : Option Nat) (x3 : Int32) (x4 : Int32) ((x5 + (1 : Int32)) : Int32) H28))))))))))))))))
theorem tBX7_reckon_dyn_34 {d : Nat} {a0 : Nat} {h0 : ea_H} (hd : 2 ≤ d) {J24 : Option Nat → Int32 → Int32 → ea_H → Option (Unit × ea_H)} {J34 : Option Nat → Int32 → Int32 → Int32 → ea_H → Option (Unit × ea_H)}  (kJ24 : ∀ (r1 : Option Nat) (x3 : Int32) (x4 : Int32) (h : ea_H) (r : Unit) (h' : ea_H), J24 r1 x3 x4 h = some (r, h') → ea_W mX7_reckon d h0 none h' 24 [(1, vR r1), (3, vI x3), (4, vI x4)] [] h) (kJ34 : ∀ (r1 : Option Nat) (x3 : Int32) (x4 : Int32) (x5 : Int32) (h : ea_H) (r : Unit) (h' : ea_H), J34 r1 x3 x4 x5 h = some (r, h') → ea_W mX7_reckon d h0 none h' 34 [(1, vR r1), (3, vI x3), (4, vI x4), (5, vI x5)] [] h) {r1 : Option Nat} {x3 : Int32} {x4 : Int32} {x5 : Int32} {h : ea_H} {r : Unit} {h' : ea_H} (E : BX7_reckon_dyn_34 a0 J24 J34 r1 x3 x4 x5 h = some (r, h')) : ea_W mX7_reckon d h0 none h' 34 [(1, vR r1), (3, vI x3), (4, vI x4), (5, vI x5)] [] h := by
  unfold BX7_reckon_dyn_34 at E
  refine ea_iload (pc := 34) dX7_reckon_34 3 rfl ?_
  refine ea_bipush (pc := 36) dX7_reckon_36 (v := 12) rfl ?_
  refine ea_icmp_ge (pc := 38) (tgt := 93) dX7_reckon_38 rfl (fun c29 => ?_) (fun c29 => ?_)
  · have E := (if_pos c29).symm.trans E
    refine ea_iinc (pc := 93) (v := 1) (lv' := [(1, vR r1), (3, vI x3), (4, vI (x4 + (1 : Int32)))]) dX7_reckon_93 2 rfl rfl (Nat.le_of_ble_eq_true rfl) [1, 2, 0] rfl ?_
    refine ea_goto (pc := 96) (tgt := 24) dX7_reckon_96 rfl ?_
    exact (kJ24 (r1 : Option Nat) (x3 : Int32) ((x4 + (1 : Int32)) : Int32) h _ _ E)
  · have E := (if_neg c29).symm.trans E
    obtain ⟨e15, E⟩ := gd_some E
    refine ea_aload_n (pc := 41) dX7_reckon_41 rfl 0 rfl ?_
    refine ea_bipush (pc := 42) dX7_reckon_42 (v := 12) rfl ?_
    refine ea_iload (pc := 44) dX7_reckon_44 2 rfl ?_
    refine ea_imul (pc := 46) dX7_reckon_46 ?_
    refine ea_iload_n (pc := 47) dX7_reckon_47 rfl 1 rfl ?_
    refine ea_iadd (pc := 48) dX7_reckon_48 ?_
    obtain ⟨f16, E⟩ := gd_some E
    obtain ⟨z17, E⟩ := gd_some E
    obtain ⟨e18, E⟩ := gd_some E
    refine ea_deref1 e15 ?_
    refine ea_iald (pc := 49) dX7_reckon_49 f16.1 f16.2 z17 ?_
    refine ea_aload_n (pc := 50) dX7_reckon_50 rfl 0 rfl ?_
    refine ea_bipush (pc := 51) dX7_reckon_51 (v := 12) rfl ?_
    refine ea_iload_n (pc := 53) dX7_reckon_53 rfl 1 rfl ?_
    refine ea_imul (pc := 54) dX7_reckon_54 ?_
    refine ea_iload (pc := 55) dX7_reckon_55 3 rfl ?_
    refine ea_iadd (pc := 57) dX7_reckon_57 ?_
    obtain ⟨f19, E⟩ := gd_some E
    obtain ⟨z20, E⟩ := gd_some E
    obtain ⟨v21, ev21, E⟩ := let_some E
    refine ea_deref1 e18 ?_
    refine ea_iald (pc := 58) dX7_reckon_58 f19.1 f19.2 z20 ?_
    refine ea_iadd (pc := 59) dX7_reckon_59 ?_
    obtain ⟨e22, E⟩ := gd_some E
    refine ea_istore (pc := 60) (lv' := [(1, vR r1), (3, vI x3), (4, vI x4), (5, vI x5), (6, vI v21)]) dX7_reckon_60 (Nat.le_of_ble_eq_true rfl) [1, 2, 3, 4, 0] (by rw [ev21]; rfl) ?_
    refine ea_aload_n (pc := 62) dX7_reckon_62 rfl 0 rfl ?_
    refine ea_bipush (pc := 63) dX7_reckon_63 (v := 12) rfl ?_
    refine ea_iload (pc := 65) dX7_reckon_65 2 rfl ?_
    refine ea_imul (pc := 67) dX7_reckon_67 ?_
    refine ea_iload (pc := 68) dX7_reckon_68 3 rfl ?_
    refine ea_iadd (pc := 70) dX7_reckon_70 ?_
    refine ea_aload_n (pc := 71) dX7_reckon_71 rfl 0 rfl ?_
    refine ea_bipush (pc := 72) dX7_reckon_72 (v := 12) rfl ?_
    refine ea_iload (pc := 74) dX7_reckon_74 2 rfl ?_
    refine ea_imul (pc := 76) dX7_reckon_76 ?_
    refine ea_iload (pc := 77) dX7_reckon_77 3 rfl ?_
    refine ea_iadd (pc := 79) dX7_reckon_79 ?_
    obtain ⟨f23, E⟩ := gd_some E
    obtain ⟨z24, E⟩ := gd_some E
    obtain ⟨e25, E⟩ := gd_some E
    refine ea_deref1 e22 ?_
    refine ea_iald (pc := 80) dX7_reckon_80 f23.1 f23.2 z24 ?_
    refine ea_iload (pc := 81) dX7_reckon_81 4 rfl ?_
    refine ea_mminI (pc := 83) dX7_reckon_83 ew_160 ew_161 ew_119 ew_162 (by omega) (Nat.le_of_ble_eq_true rfl) ?_
    obtain ⟨f26, E⟩ := gd_some E
    obtain ⟨z27, E⟩ := gd_some E
    obtain ⟨H28, eH28, E⟩ := let_some E
    refine ea_deref2 e25 ?_
    refine ea_iast (pc := 86) dX7_reckon_86 f26.1 f26.2 z27 ?_
    refine ea_nm eH28 ?_
    refine ea_iinc (pc := 87) (v := 1) (lv' := [(1, vR r1), (3, vI x3), (4, vI x4), (5, vI (x5 + (1 : Int32)))]) dX7_reckon_87 3 rfl rfl (Nat.le_of_ble_eq_true rfl) [1, 2, 3, 0] rfl ?_
    refine ea_goto (pc := 90) (tgt := 34) dX7_reckon_90 rfl ?_
    exact (kJ34 (r1 : Option Nat) (x3 : Int32) (x4 : Int32) ((x5 + (1 : Int32)) : Int32) H28 _ _ E)
theorem kBX7_reckon_dyn_34 {a0 : Nat} {J24 : Option Nat → Int32 → Int32 → ea_H → Option (Unit × ea_H)} {J34 : Option Nat → Int32 → Int32 → Int32 → ea_H → Option (Unit × ea_H)}  (cJ24 : ∀ (r1 : Option Nat) (x3 : Int32) (x4 : Int32) (h : ea_H), kp (ea_core h) (J24 r1 x3 x4 h)) (cJ34 : ∀ (r1 : Option Nat) (x3 : Int32) (x4 : Int32) (x5 : Int32) (h : ea_H), kp (ea_core h) (J34 r1 x3 x4 x5 h)) {r1 : Option Nat} {x3 : Int32} {x4 : Int32} {x5 : Int32} {h : ea_H} : kp (ea_core h) (BX7_reckon_dyn_34 a0 J24 J34 r1 x3 x4 x5 h) :=
  (kp_ite (kp_tw (cJ24 _ _ _ _) rfl) (kp_gd (kp_gd (kp_gd (kp_gd (kp_gd (kp_gd (kp_let (kp_gd (kp_gd (kp_gd (kp_gd (kp_gd (kp_gd (kp_let (kp_tw (cJ34 _ _ _ _ _) rfl))))))))))))))))
theorem lBX7_reckon_dyn_34 {a0 : Nat} {J24 : Option Nat → Int32 → Int32 → ea_H → Option (Unit × ea_H)} {J34 : Option Nat → Int32 → Int32 → Int32 → ea_H → Option (Unit × ea_H)} {J24_ : Option Nat → Int32 → Int32 → ea_H → Option (Unit × ea_H)} {J34_ : Option Nat → Int32 → Int32 → Int32 → ea_H → Option (Unit × ea_H)}  (mJ24 : ∀ (r1 : Option Nat) (x3 : Int32) (x4 : Int32) (h : ea_H), fle (J24 r1 x3 x4 h) (J24_ r1 x3 x4 h)) (mJ34 : ∀ (r1 : Option Nat) (x3 : Int32) (x4 : Int32) (x5 : Int32) (h : ea_H), fle (J34 r1 x3 x4 x5 h) (J34_ r1 x3 x4 x5 h)) {r1 : Option Nat} {x3 : Int32} {x4 : Int32} {x5 : Int32} {h : ea_H} : fle (BX7_reckon_dyn_34 a0 J24 J34 r1 x3 x4 x5 h) (BX7_reckon_dyn_34 a0 J24_ J34_ r1 x3 x4 x5 h) :=
  (fle_ite (mJ24 _ _ _ _) (fle_gd (fle_gd (fle_gd (fle_gd (fle_gd (fle_gd (fle_let fun _ => (fle_gd (fle_gd (fle_gd (fle_gd (fle_gd (fle_gd (fle_let fun _ => (mJ34 _ _ _ _ _))))))))))))))))
theorem nBX7_reckon_dyn_34 {a0 : Nat} {J24 : Option Nat → Int32 → Int32 → ea_H → Option (Unit × ea_H)} {J34 : Option Nat → Int32 → Int32 → Int32 → ea_H → Option (Unit × ea_H)} {J24_ : Nat → (Option Nat → Int32 → Int32 → ea_H → Option (Unit × ea_H))} {J34_ : Nat → (Option Nat → Int32 → Int32 → Int32 → ea_H → Option (Unit × ea_H))}  (mJ24 : ∀ (r1 : Option Nat) (x3 : Int32) (x4 : Int32) (h : ea_H), fct (J24 r1 x3 x4 h) (fun f => J24_ f r1 x3 x4 h)) (mJ34 : ∀ (r1 : Option Nat) (x3 : Int32) (x4 : Int32) (x5 : Int32) (h : ea_H), fct (J34 r1 x3 x4 x5 h) (fun f => J34_ f r1 x3 x4 x5 h)) {r1 : Option Nat} {x3 : Int32} {x4 : Int32} {x5 : Int32} {h : ea_H} : fct (BX7_reckon_dyn_34 a0 J24 J34 r1 x3 x4 x5 h) (fun f => BX7_reckon_dyn_34 a0 (J24_ f) (J34_ f) r1 x3 x4 x5 h) :=
  (fct_ite (mJ24 _ _ _ _) (fct_gd (fct_gd (fct_gd (fct_gd (fct_gd (fct_gd (fct_let fun _ => (fct_gd (fct_gd (fct_gd (fct_gd (fct_gd (fct_gd (fct_let fun _ => (mJ34 _ _ _ _ _))))))))))))))))
noncomputable def gX7_reckon_dyn (a0 : Nat) : Nat → (Option Nat → Int32 → ea_H → Option (Unit × ea_H)) × (Option Nat → Int32 → ea_H → Option (Unit × ea_H)) × (Option Nat → Int32 → Int32 → ea_H → Option (Unit × ea_H)) × (Option Nat → Int32 → Int32 → Int32 → ea_H → Option (Unit × ea_H))
  | 0 => (fun _ _ _ => none, fun _ _ _ => none, fun _ _ _ _ => none, fun _ _ _ _ _ => none)
  | f + 1 => (BX7_reckon_dyn_0 a0 (gX7_reckon_dyn a0 f).2.1, BX7_reckon_dyn_15 a0 (gX7_reckon_dyn a0 f).2.2.1, BX7_reckon_dyn_24 a0 (gX7_reckon_dyn a0 f).2.1 (gX7_reckon_dyn a0 f).2.2.2, BX7_reckon_dyn_34 a0 (gX7_reckon_dyn a0 f).2.2.1 (gX7_reckon_dyn a0 f).2.2.2)
theorem mgX7_reckon_dyn (a0 : Nat) : ∀ f : Nat, (∀ (r1 : Option Nat) (x2 : Int32) (h : ea_H), fle ((gX7_reckon_dyn a0 f).1 r1 x2 h) ((gX7_reckon_dyn a0 (f + 1)).1 r1 x2 h)) ∧ (∀ (r1 : Option Nat) (x3 : Int32) (h : ea_H), fle ((gX7_reckon_dyn a0 f).2.1 r1 x3 h) ((gX7_reckon_dyn a0 (f + 1)).2.1 r1 x3 h)) ∧ (∀ (r1 : Option Nat) (x3 : Int32) (x4 : Int32) (h : ea_H), fle ((gX7_reckon_dyn a0 f).2.2.1 r1 x3 x4 h) ((gX7_reckon_dyn a0 (f + 1)).2.2.1 r1 x3 x4 h)) ∧ (∀ (r1 : Option Nat) (x3 : Int32) (x4 : Int32) (x5 : Int32) (h : ea_H), fle ((gX7_reckon_dyn a0 f).2.2.2 r1 x3 x4 x5 h) ((gX7_reckon_dyn a0 (f + 1)).2.2.2 r1 x3 x4 x5 h)) := by
  intro f
  induction f with
  | zero => exact ⟨fun _ _ _ => fle_none _, fun _ _ _ => fle_none _, fun _ _ _ _ => fle_none _, fun _ _ _ _ _ => fle_none _⟩
  | succ f ih => exact ⟨fun _ _ _ => lBX7_reckon_dyn_0 (a0 := a0) ih.2.1, fun _ _ _ => lBX7_reckon_dyn_15 (a0 := a0) ih.2.2.1, fun _ _ _ _ => lBX7_reckon_dyn_24 (a0 := a0) ih.2.1 ih.2.2.2, fun _ _ _ _ _ => lBX7_reckon_dyn_34 (a0 := a0) ih.2.2.1 ih.2.2.2⟩
noncomputable def qX7_reckon_dyn_0 (a0 : Nat) (r1 : Option Nat) (x2 : Int32) (h : ea_H) : Option (Unit × ea_H) := flim fun f => (gX7_reckon_dyn a0 f).1 r1 x2 h
noncomputable def qX7_reckon_dyn_15 (a0 : Nat) (r1 : Option Nat) (x3 : Int32) (h : ea_H) : Option (Unit × ea_H) := flim fun f => (gX7_reckon_dyn a0 f).2.1 r1 x3 h
noncomputable def qX7_reckon_dyn_24 (a0 : Nat) (r1 : Option Nat) (x3 : Int32) (x4 : Int32) (h : ea_H) : Option (Unit × ea_H) := flim fun f => (gX7_reckon_dyn a0 f).2.2.1 r1 x3 x4 h
noncomputable def qX7_reckon_dyn_34 (a0 : Nat) (r1 : Option Nat) (x3 : Int32) (x4 : Int32) (x5 : Int32) (h : ea_H) : Option (Unit × ea_H) := flim fun f => (gX7_reckon_dyn a0 f).2.2.2 r1 x3 x4 x5 h
theorem fqX7_reckon_dyn_0 (a0 : Nat) (r1 : Option Nat) (x2 : Int32) (h : ea_H) : fct (qX7_reckon_dyn_0 a0 r1 x2 h) fun f => (gX7_reckon_dyn a0 f).1 r1 x2 h := flim_ct fun f => (mgX7_reckon_dyn a0 f).1 r1 x2 h
theorem fqX7_reckon_dyn_15 (a0 : Nat) (r1 : Option Nat) (x3 : Int32) (h : ea_H) : fct (qX7_reckon_dyn_15 a0 r1 x3 h) fun f => (gX7_reckon_dyn a0 f).2.1 r1 x3 h := flim_ct fun f => (mgX7_reckon_dyn a0 f).2.1 r1 x3 h
theorem fqX7_reckon_dyn_24 (a0 : Nat) (r1 : Option Nat) (x3 : Int32) (x4 : Int32) (h : ea_H) : fct (qX7_reckon_dyn_24 a0 r1 x3 x4 h) fun f => (gX7_reckon_dyn a0 f).2.2.1 r1 x3 x4 h := flim_ct fun f => (mgX7_reckon_dyn a0 f).2.2.1 r1 x3 x4 h
theorem fqX7_reckon_dyn_34 (a0 : Nat) (r1 : Option Nat) (x3 : Int32) (x4 : Int32) (x5 : Int32) (h : ea_H) : fct (qX7_reckon_dyn_34 a0 r1 x3 x4 x5 h) fun f => (gX7_reckon_dyn a0 f).2.2.2 r1 x3 x4 x5 h := flim_ct fun f => (mgX7_reckon_dyn a0 f).2.2.2 r1 x3 x4 x5 h
/-- how a block opens -/
theorem uqX7_reckon_dyn_0 {a0 : Nat} {r1 : Option Nat} {x2 : Int32} {h : ea_H} {P : Unit × ea_H → Prop} (H : sat (BX7_reckon_dyn_0 a0 (qX7_reckon_dyn_15 a0) r1 x2 h) P) : sat (qX7_reckon_dyn_0 a0 r1 x2 h) P := by
  obtain ⟨x, e, hp⟩ := H
  obtain ⟨n, hn⟩ := nBX7_reckon_dyn_0 (a0 := a0) (fqX7_reckon_dyn_15 a0) x e
  exact ⟨x, flim_at (fun f => (mgX7_reckon_dyn a0 f).1 r1 x2 h) (f := n + 1) (hn n (Nat.le_refl _)), hp⟩
/-- how a block opens -/
theorem uqX7_reckon_dyn_15 {a0 : Nat} {r1 : Option Nat} {x3 : Int32} {h : ea_H} {P : Unit × ea_H → Prop} (H : sat (BX7_reckon_dyn_15 a0 (qX7_reckon_dyn_24 a0) r1 x3 h) P) : sat (qX7_reckon_dyn_15 a0 r1 x3 h) P := by
  obtain ⟨x, e, hp⟩ := H
  obtain ⟨n, hn⟩ := nBX7_reckon_dyn_15 (a0 := a0) (fqX7_reckon_dyn_24 a0) x e
  exact ⟨x, flim_at (fun f => (mgX7_reckon_dyn a0 f).2.1 r1 x3 h) (f := n + 1) (hn n (Nat.le_refl _)), hp⟩
/-- how a block opens -/
theorem uqX7_reckon_dyn_24 {a0 : Nat} {r1 : Option Nat} {x3 : Int32} {x4 : Int32} {h : ea_H} {P : Unit × ea_H → Prop} (H : sat (BX7_reckon_dyn_24 a0 (qX7_reckon_dyn_15 a0) (qX7_reckon_dyn_34 a0) r1 x3 x4 h) P) : sat (qX7_reckon_dyn_24 a0 r1 x3 x4 h) P := by
  obtain ⟨x, e, hp⟩ := H
  obtain ⟨n, hn⟩ := nBX7_reckon_dyn_24 (a0 := a0) (fqX7_reckon_dyn_15 a0) (fqX7_reckon_dyn_34 a0) x e
  exact ⟨x, flim_at (fun f => (mgX7_reckon_dyn a0 f).2.2.1 r1 x3 x4 h) (f := n + 1) (hn n (Nat.le_refl _)), hp⟩
/-- how a block opens -/
theorem uqX7_reckon_dyn_34 {a0 : Nat} {r1 : Option Nat} {x3 : Int32} {x4 : Int32} {x5 : Int32} {h : ea_H} {P : Unit × ea_H → Prop} (H : sat (BX7_reckon_dyn_34 a0 (qX7_reckon_dyn_24 a0) (qX7_reckon_dyn_34 a0) r1 x3 x4 x5 h) P) : sat (qX7_reckon_dyn_34 a0 r1 x3 x4 x5 h) P := by
  obtain ⟨x, e, hp⟩ := H
  obtain ⟨n, hn⟩ := nBX7_reckon_dyn_34 (a0 := a0) (fqX7_reckon_dyn_24 a0) (fqX7_reckon_dyn_34 a0) x e
  exact ⟨x, flim_at (fun f => (mgX7_reckon_dyn a0 f).2.2.2 r1 x3 x4 x5 h) (f := n + 1) (hn n (Nat.le_refl _)), hp⟩
theorem kgX7_reckon_dyn (a0 : Nat) : ∀ f : Nat, (∀ (r1 : Option Nat) (x2 : Int32) (h : ea_H), kp (ea_core h) ((gX7_reckon_dyn a0 f).1 r1 x2 h)) ∧ (∀ (r1 : Option Nat) (x3 : Int32) (h : ea_H), kp (ea_core h) ((gX7_reckon_dyn a0 f).2.1 r1 x3 h)) ∧ (∀ (r1 : Option Nat) (x3 : Int32) (x4 : Int32) (h : ea_H), kp (ea_core h) ((gX7_reckon_dyn a0 f).2.2.1 r1 x3 x4 h)) ∧ (∀ (r1 : Option Nat) (x3 : Int32) (x4 : Int32) (x5 : Int32) (h : ea_H), kp (ea_core h) ((gX7_reckon_dyn a0 f).2.2.2 r1 x3 x4 x5 h)) := by
  intro f
  induction f with
  | zero => exact ⟨fun _ _ _ => kp_none _, fun _ _ _ => kp_none _, fun _ _ _ _ => kp_none _, fun _ _ _ _ _ => kp_none _⟩
  | succ f ih => exact ⟨fun _ _ _ => kBX7_reckon_dyn_0 (a0 := a0) ih.2.1, fun _ _ _ => kBX7_reckon_dyn_15 (a0 := a0) ih.2.2.1, fun _ _ _ _ => kBX7_reckon_dyn_24 (a0 := a0) ih.2.1 ih.2.2.2, fun _ _ _ _ _ => kBX7_reckon_dyn_34 (a0 := a0) ih.2.2.1 ih.2.2.2⟩
theorem tgX7_reckon_dyn {d : Nat} {a0 : Nat} {h0 : ea_H} (hd : 2 ≤ d) : ∀ f : Nat, (∀ (r1 : Option Nat) (x2 : Int32) (h : ea_H) (r : Unit) (h' : ea_H), (gX7_reckon_dyn a0 f).1 r1 x2 h = some (r, h') → ea_W mX7_reckon d h0 none h' 0 [(0, vR (some a0)), (1, vR r1), (2, vI x2)] [] h) ∧ (∀ (r1 : Option Nat) (x3 : Int32) (h : ea_H) (r : Unit) (h' : ea_H), (gX7_reckon_dyn a0 f).2.1 r1 x3 h = some (r, h') → ea_W mX7_reckon d h0 none h' 15 [(1, vR r1), (3, vI x3)] [] h) ∧ (∀ (r1 : Option Nat) (x3 : Int32) (x4 : Int32) (h : ea_H) (r : Unit) (h' : ea_H), (gX7_reckon_dyn a0 f).2.2.1 r1 x3 x4 h = some (r, h') → ea_W mX7_reckon d h0 none h' 24 [(1, vR r1), (3, vI x3), (4, vI x4)] [] h) ∧ (∀ (r1 : Option Nat) (x3 : Int32) (x4 : Int32) (x5 : Int32) (h : ea_H) (r : Unit) (h' : ea_H), (gX7_reckon_dyn a0 f).2.2.2 r1 x3 x4 x5 h = some (r, h') → ea_W mX7_reckon d h0 none h' 34 [(1, vR r1), (3, vI x3), (4, vI x4), (5, vI x5)] [] h) := by
  intro f
  induction f with
  | zero => exact ⟨fun _ _ _ _ _ E => no_some E, fun _ _ _ _ _ E => no_some E, fun _ _ _ _ _ _ E => no_some E, fun _ _ _ _ _ _ _ E => no_some E⟩
  | succ f ih => exact ⟨fun _ _ _ _ _ E => tBX7_reckon_dyn_0 (a0 := a0) hd ih.2.1 E, fun _ _ _ _ _ E => tBX7_reckon_dyn_15 (a0 := a0) hd ih.2.2.1 E, fun _ _ _ _ _ _ E => tBX7_reckon_dyn_24 (a0 := a0) hd ih.2.1 ih.2.2.2 E, fun _ _ _ _ _ _ _ E => tBX7_reckon_dyn_34 (a0 := a0) hd ih.2.2.1 ih.2.2.2 E⟩
noncomputable def qX7_reckon_dyn (a0 : Nat) (r1 : Option Nat) (x2 : Int32) (h : ea_H) : Option (Unit × ea_H) := qX7_reckon_dyn_0 a0 r1 x2 h
theorem sX7_reckon_dyn {d : Nat} {a0 : Nat} {r1 : Option Nat} {x2 : Int32} {h : ea_H} {r : Unit} {h' : ea_H} (hd : 2 ≤ d) (K : qX7_reckon_dyn a0 r1 x2 h = some (r, h')) : ea_Met mX7_reckon d [vR (some a0), vR r1, vI x2] h none h' := by
  unfold qX7_reckon_dyn at K
  obtain ⟨n, hn⟩ := fqX7_reckon_dyn_0 a0 r1 x2 h _ K
  have W := (tgX7_reckon_dyn (d := d) (h0 := h) hd n).1 r1 x2 h _ _ (hn n (Nat.le_refl _))
  exact ea_enter rfl (Nat.le_of_ble_eq_true rfl) W
theorem kpX7_reckon_dyn (a0 : Nat) (r1 : Option Nat) (x2 : Int32) (h : ea_H) : kp (ea_core h) (qX7_reckon_dyn a0 r1 x2 h) := fun x e => by
  obtain ⟨n, hn⟩ := fqX7_reckon_dyn_0 a0 r1 x2 h x e
  exact (kgX7_reckon_dyn a0 n).1 r1 x2 h x (hn n (Nat.le_refl _))
noncomputable def BX7_reckon_0 (J15 : Option Nat → Int32 → ea_H → Option (Unit × ea_H)) (r1 : Option Nat) (x2 : Int32) (h : ea_H) : Option (Unit × ea_H) :=
  (gd (r1 = some (Option.getD r1 0)) (gd (((Option.getD r1 0) < ea_n h ∧ ea_c h (Option.getD r1 0) = 20)) (gd ((¬ (0 : Int32) < 0)) (gd ((¬ (0 : Int32) < 0)) (gd ((¬ (144 : Int32) < 0)) (gd (((Int32.toNatClampNeg 0) + (Int32.toNatClampNeg 144) ≤ ea_l h 2)) (gd (((Int32.toNatClampNeg 0) + (Int32.toNatClampNeg 144) ≤ ea_l h (Option.getD r1 0))) (ea_let (ea_wa h (Option.getD r1 0) (va_cpy (ea_i h 2) (ea_i h (Option.getD r1 0)) (Int32.toNatClampNeg 0) (Int32.toNatClampNeg 0) (Int32.toNatClampNeg 144))) fun H9 => (J15 (r1 : Option Nat) (x2 : Int32) H9)))))))))
theorem tBX7_reckon_0 {d : Nat} {h0 : ea_H} (hd : 2 ≤ d) {J15 : Option Nat → Int32 → ea_H → Option (Unit × ea_H)}  (kJ15 : ∀ (r1 : Option Nat) (x3 : Int32) (h : ea_H) (r : Unit) (h' : ea_H), J15 r1 x3 h = some (r, h') → ShC h → ea_W mX7_reckon d h0 none h' 15 [(1, vR r1), (3, vI x3)] [] h) {r1 : Option Nat} {x2 : Int32} {h : ea_H} {r : Unit} {h' : ea_H} (E : BX7_reckon_0 J15 r1 x2 h = some (r, h')) (hs : ShC h) : ea_W mX7_reckon d h0 none h' 0 [(0, vR (some 1)), (1, vR r1), (2, vI x2)] [] h := by
  unfold BX7_reckon_0 at E
  obtain ⟨e1, E⟩ := gd_some E
  refine ea_aload_n (pc := 0) dX7_reckon_0 rfl 0 rfl ?_
  refine ea_getR (pc := 1) dX7_reckon_1 ec_7 (k := 1) (Nat.le_of_ble_eq_true rfl) rfl (Or.inl ew_165) (cShC_1 hs).1 (cShC_1 hs).2.1 (rShC_1_1 hs) ?_
  refine ea_iconst (pc := 4) dX7_reckon_4 (v := 0) rfl ?_
  refine ea_aload_n (pc := 5) dX7_reckon_5 rfl 1 rfl ?_
  refine ea_iconst (pc := 6) dX7_reckon_6 (v := 0) rfl ?_
  refine ea_sipush (pc := 7) dX7_reckon_7 (v := 144) rfl ?_
  obtain ⟨f2, E⟩ := gd_some E
  obtain ⟨z3, E⟩ := gd_some E
  obtain ⟨z4, E⟩ := gd_some E
  obtain ⟨z5, E⟩ := gd_some E
  obtain ⟨z6, E⟩ := gd_some E
  obtain ⟨z7, E⟩ := gd_some E
  obtain ⟨H9, eH9, E⟩ := let_some E
  refine ea_deref2 e1 ?_
  refine ea_copyX (pc := 10) (sp := 0) (dp := 0) (n := 144) 0 (fun _ => rfl) (Or.inl rfl) rfl dX7_reckon_10 ew_157 ew_159 ew_158 ew_118 ⟨(cShC_2 hs).1, (cShC_2 hs).2.1⟩ ⟨f2.1, f2.2⟩ z3 z4 z5 z6 z7 (fun _ _ => rfl) (by omega) (Nat.le_of_ble_eq_true rfl) ?_
  refine ea_nm eH9 ?_
  have hsH9 : ShC H9 := by rw [eH9]; exact hs
  refine ea_iload_n (pc := 13) dX7_reckon_13 rfl 2 rfl ?_
  refine ea_istore_n (pc := 14) (lv' := [(1, vR r1), (3, vI x2)]) dX7_reckon_14 rfl (Nat.le_of_ble_eq_true rfl) [2, 0] rfl ?_
  exact (kJ15 (r1 : Option Nat) (x2 : Int32) H9 _ _ E hsH9)
theorem kBX7_reckon_0 {J15 : Option Nat → Int32 → ea_H → Option (Unit × ea_H)}  (cJ15 : ∀ (r1 : Option Nat) (x3 : Int32) (h : ea_H), kp (ea_core h) (J15 r1 x3 h)) {r1 : Option Nat} {x2 : Int32} {h : ea_H} : kp (ea_core h) (BX7_reckon_0 J15 r1 x2 h) :=
  (kp_gd (kp_gd (kp_gd (kp_gd (kp_gd (kp_gd (kp_gd (kp_let (kp_tw (cJ15 _ _ _) rfl)))))))))
theorem lBX7_reckon_0 {J15 : Option Nat → Int32 → ea_H → Option (Unit × ea_H)} {J15_ : Option Nat → Int32 → ea_H → Option (Unit × ea_H)}  (mJ15 : ∀ (r1 : Option Nat) (x3 : Int32) (h : ea_H), fle (J15 r1 x3 h) (J15_ r1 x3 h)) {r1 : Option Nat} {x2 : Int32} {h : ea_H} : fle (BX7_reckon_0 J15 r1 x2 h) (BX7_reckon_0 J15_ r1 x2 h) :=
  (fle_gd (fle_gd (fle_gd (fle_gd (fle_gd (fle_gd (fle_gd (fle_let fun _ => (mJ15 _ _ _)))))))))
theorem nBX7_reckon_0 {J15 : Option Nat → Int32 → ea_H → Option (Unit × ea_H)} {J15_ : Nat → (Option Nat → Int32 → ea_H → Option (Unit × ea_H))}  (mJ15 : ∀ (r1 : Option Nat) (x3 : Int32) (h : ea_H), fct (J15 r1 x3 h) (fun f => J15_ f r1 x3 h)) {r1 : Option Nat} {x2 : Int32} {h : ea_H} : fct (BX7_reckon_0 J15 r1 x2 h) (fun f => BX7_reckon_0 (J15_ f) r1 x2 h) :=
  (fct_gd (fct_gd (fct_gd (fct_gd (fct_gd (fct_gd (fct_gd (fct_let fun _ => (mJ15 _ _ _)))))))))
noncomputable def BX7_reckon_15 (J24 : Option Nat → Int32 → Int32 → ea_H → Option (Unit × ea_H)) (r1 : Option Nat) (x3 : Int32) (h : ea_H) : Option (Unit × ea_H) :=
  (if (12 : Int32) ≤ x3 then (some ((), h)) else (J24 (r1 : Option Nat) (x3 : Int32) (0 : Int32) h))
theorem tBX7_reckon_15 {d : Nat} {h0 : ea_H} (hd : 2 ≤ d) {J24 : Option Nat → Int32 → Int32 → ea_H → Option (Unit × ea_H)}  (kJ24 : ∀ (r1 : Option Nat) (x3 : Int32) (x4 : Int32) (h : ea_H) (r : Unit) (h' : ea_H), J24 r1 x3 x4 h = some (r, h') → ShC h → ea_W mX7_reckon d h0 none h' 24 [(1, vR r1), (3, vI x3), (4, vI x4)] [] h) {r1 : Option Nat} {x3 : Int32} {h : ea_H} {r : Unit} {h' : ea_H} (E : BX7_reckon_15 J24 r1 x3 h = some (r, h')) (hs : ShC h) : ea_W mX7_reckon d h0 none h' 15 [(1, vR r1), (3, vI x3)] [] h := by
  unfold BX7_reckon_15 at E
  refine ea_iload_n (pc := 15) dX7_reckon_15 rfl 1 rfl ?_
  refine ea_bipush (pc := 16) dX7_reckon_16 (v := 12) rfl ?_
  refine ea_icmp_ge (pc := 18) (tgt := 105) dX7_reckon_18 rfl (fun c10 => ?_) (fun c10 => ?_)
  · have E := (if_pos c10).symm.trans E
    exact ea_vretO (pc := 105) dX7_reckon_105 rfl E
  · have E := (if_neg c10).symm.trans E
    refine ea_iconst (pc := 21) dX7_reckon_21 (v := 0) rfl ?_
    refine ea_istore (pc := 22) (lv' := [(1, vR r1), (3, vI x3), (4, vI 0)]) dX7_reckon_22 (Nat.le_of_ble_eq_true rfl) [1, 2, 0] rfl ?_
    exact (kJ24 (r1 : Option Nat) (x3 : Int32) (0 : Int32) h _ _ E hs)
theorem kBX7_reckon_15 {J24 : Option Nat → Int32 → Int32 → ea_H → Option (Unit × ea_H)}  (cJ24 : ∀ (r1 : Option Nat) (x3 : Int32) (x4 : Int32) (h : ea_H), kp (ea_core h) (J24 r1 x3 x4 h)) {r1 : Option Nat} {x3 : Int32} {h : ea_H} : kp (ea_core h) (BX7_reckon_15 J24 r1 x3 h) :=
  (kp_ite (kp_ret rfl) (kp_tw (cJ24 _ _ _ _) rfl))
theorem lBX7_reckon_15 {J24 : Option Nat → Int32 → Int32 → ea_H → Option (Unit × ea_H)} {J24_ : Option Nat → Int32 → Int32 → ea_H → Option (Unit × ea_H)}  (mJ24 : ∀ (r1 : Option Nat) (x3 : Int32) (x4 : Int32) (h : ea_H), fle (J24 r1 x3 x4 h) (J24_ r1 x3 x4 h)) {r1 : Option Nat} {x3 : Int32} {h : ea_H} : fle (BX7_reckon_15 J24 r1 x3 h) (BX7_reckon_15 J24_ r1 x3 h) :=
  (fle_ite (fle_rfl _) (mJ24 _ _ _ _))
theorem nBX7_reckon_15 {J24 : Option Nat → Int32 → Int32 → ea_H → Option (Unit × ea_H)} {J24_ : Nat → (Option Nat → Int32 → Int32 → ea_H → Option (Unit × ea_H))}  (mJ24 : ∀ (r1 : Option Nat) (x3 : Int32) (x4 : Int32) (h : ea_H), fct (J24 r1 x3 x4 h) (fun f => J24_ f r1 x3 x4 h)) {r1 : Option Nat} {x3 : Int32} {h : ea_H} : fct (BX7_reckon_15 J24 r1 x3 h) (fun f => BX7_reckon_15 (J24_ f) r1 x3 h) :=
  (fct_ite (fct_rfl _) (mJ24 _ _ _ _))
noncomputable def BX7_reckon_24 (J15 : Option Nat → Int32 → ea_H → Option (Unit × ea_H)) (J34 : Option Nat → Int32 → Int32 → Int32 → ea_H → Option (Unit × ea_H)) (r1 : Option Nat) (x3 : Int32) (x4 : Int32) (h : ea_H) : Option (Unit × ea_H) :=
  (if (12 : Int32) ≤ x4 then (J15 (r1 : Option Nat) ((x3 + (1 : Int32)) : Int32) h) else (J34 (r1 : Option Nat) (x3 : Int32) (x4 : Int32) (0 : Int32) h))
theorem tBX7_reckon_24 {d : Nat} {h0 : ea_H} (hd : 2 ≤ d) {J15 : Option Nat → Int32 → ea_H → Option (Unit × ea_H)} {J34 : Option Nat → Int32 → Int32 → Int32 → ea_H → Option (Unit × ea_H)}  (kJ15 : ∀ (r1 : Option Nat) (x3 : Int32) (h : ea_H) (r : Unit) (h' : ea_H), J15 r1 x3 h = some (r, h') → ShC h → ea_W mX7_reckon d h0 none h' 15 [(1, vR r1), (3, vI x3)] [] h) (kJ34 : ∀ (r1 : Option Nat) (x3 : Int32) (x4 : Int32) (x5 : Int32) (h : ea_H) (r : Unit) (h' : ea_H), J34 r1 x3 x4 x5 h = some (r, h') → ShC h → ea_W mX7_reckon d h0 none h' 34 [(1, vR r1), (3, vI x3), (4, vI x4), (5, vI x5)] [] h) {r1 : Option Nat} {x3 : Int32} {x4 : Int32} {h : ea_H} {r : Unit} {h' : ea_H} (E : BX7_reckon_24 J15 J34 r1 x3 x4 h = some (r, h')) (hs : ShC h) : ea_W mX7_reckon d h0 none h' 24 [(1, vR r1), (3, vI x3), (4, vI x4)] [] h := by
  unfold BX7_reckon_24 at E
  refine ea_iload (pc := 24) dX7_reckon_24 2 rfl ?_
  refine ea_bipush (pc := 26) dX7_reckon_26 (v := 12) rfl ?_
  refine ea_icmp_ge (pc := 28) (tgt := 99) dX7_reckon_28 rfl (fun c11 => ?_) (fun c11 => ?_)
  · have E := (if_pos c11).symm.trans E
    refine ea_iinc (pc := 99) (v := 1) (lv' := [(1, vR r1), (3, vI (x3 + (1 : Int32)))]) dX7_reckon_99 1 rfl rfl (Nat.le_of_ble_eq_true rfl) [1, 0] rfl ?_
    refine ea_goto (pc := 102) (tgt := 15) dX7_reckon_102 rfl ?_
    exact (kJ15 (r1 : Option Nat) ((x3 + (1 : Int32)) : Int32) h _ _ E hs)
  · have E := (if_neg c11).symm.trans E
    refine ea_iconst (pc := 31) dX7_reckon_31 (v := 0) rfl ?_
    refine ea_istore (pc := 32) (lv' := [(1, vR r1), (3, vI x3), (4, vI x4), (5, vI 0)]) dX7_reckon_32 (Nat.le_of_ble_eq_true rfl) [1, 2, 3, 0] rfl ?_
    exact (kJ34 (r1 : Option Nat) (x3 : Int32) (x4 : Int32) (0 : Int32) h _ _ E hs)
theorem kBX7_reckon_24 {J15 : Option Nat → Int32 → ea_H → Option (Unit × ea_H)} {J34 : Option Nat → Int32 → Int32 → Int32 → ea_H → Option (Unit × ea_H)}  (cJ15 : ∀ (r1 : Option Nat) (x3 : Int32) (h : ea_H), kp (ea_core h) (J15 r1 x3 h)) (cJ34 : ∀ (r1 : Option Nat) (x3 : Int32) (x4 : Int32) (x5 : Int32) (h : ea_H), kp (ea_core h) (J34 r1 x3 x4 x5 h)) {r1 : Option Nat} {x3 : Int32} {x4 : Int32} {h : ea_H} : kp (ea_core h) (BX7_reckon_24 J15 J34 r1 x3 x4 h) :=
  (kp_ite (kp_tw (cJ15 _ _ _) rfl) (kp_tw (cJ34 _ _ _ _ _) rfl))
theorem lBX7_reckon_24 {J15 : Option Nat → Int32 → ea_H → Option (Unit × ea_H)} {J34 : Option Nat → Int32 → Int32 → Int32 → ea_H → Option (Unit × ea_H)} {J15_ : Option Nat → Int32 → ea_H → Option (Unit × ea_H)} {J34_ : Option Nat → Int32 → Int32 → Int32 → ea_H → Option (Unit × ea_H)}  (mJ15 : ∀ (r1 : Option Nat) (x3 : Int32) (h : ea_H), fle (J15 r1 x3 h) (J15_ r1 x3 h)) (mJ34 : ∀ (r1 : Option Nat) (x3 : Int32) (x4 : Int32) (x5 : Int32) (h : ea_H), fle (J34 r1 x3 x4 x5 h) (J34_ r1 x3 x4 x5 h)) {r1 : Option Nat} {x3 : Int32} {x4 : Int32} {h : ea_H} : fle (BX7_reckon_24 J15 J34 r1 x3 x4 h) (BX7_reckon_24 J15_ J34_ r1 x3 x4 h) :=
  (fle_ite (mJ15 _ _ _) (mJ34 _ _ _ _ _))
theorem nBX7_reckon_24 {J15 : Option Nat → Int32 → ea_H → Option (Unit × ea_H)} {J34 : Option Nat → Int32 → Int32 → Int32 → ea_H → Option (Unit × ea_H)} {J15_ : Nat → (Option Nat → Int32 → ea_H → Option (Unit × ea_H))} {J34_ : Nat → (Option Nat → Int32 → Int32 → Int32 → ea_H → Option (Unit × ea_H))}  (mJ15 : ∀ (r1 : Option Nat) (x3 : Int32) (h : ea_H), fct (J15 r1 x3 h) (fun f => J15_ f r1 x3 h)) (mJ34 : ∀ (r1 : Option Nat) (x3 : Int32) (x4 : Int32) (x5 : Int32) (h : ea_H), fct (J34 r1 x3 x4 x5 h) (fun f => J34_ f r1 x3 x4 x5 h)) {r1 : Option Nat} {x3 : Int32} {x4 : Int32} {h : ea_H} : fct (BX7_reckon_24 J15 J34 r1 x3 x4 h) (fun f => BX7_reckon_24 (J15_ f) (J34_ f) r1 x3 x4 h) :=
  (fct_ite (mJ15 _ _ _) (mJ34 _ _ _ _ _))
noncomputable def BX7_reckon_34 (J24 : Option Nat → Int32 → Int32 → ea_H → Option (Unit × ea_H)) (J34 : Option Nat → Int32 → Int32 → Int32 → ea_H → Option (Unit × ea_H)) (r1 : Option Nat) (x3 : Int32) (x4 : Int32) (x5 : Int32) (h : ea_H) : Option (Unit × ea_H) :=
  (if (12 : Int32) ≤ x5 then (J24 (r1 : Option Nat) (x3 : Int32) ((x4 + (1 : Int32)) : Int32) h) else (gd (r1 = some (Option.getD r1 0)) (gd (((Option.getD r1 0) < ea_n h ∧ ea_c h (Option.getD r1 0) = 20)) (gd (vp_in (((12 : Int32) * x4) + x3) (ea_l h (Option.getD r1 0))) (gd (r1 = some (Option.getD r1 0)) (gd (((Option.getD r1 0) < ea_n h ∧ ea_c h (Option.getD r1 0) = 20)) (gd (vp_in (((12 : Int32) * x3) + x5) (ea_l h (Option.getD r1 0))) (ea_let ((ea_i h (Option.getD r1 0) (Int32.toNatClampNeg (((12 : Int32) * x4) + x3))) + (ea_i h (Option.getD r1 0) (Int32.toNatClampNeg (((12 : Int32) * x3) + x5)))) fun (v18 : Int32) => (gd (r1 = some (Option.getD r1 0)) (gd (((Option.getD r1 0) < ea_n h ∧ ea_c h (Option.getD r1 0) = 20)) (gd (vp_in (((12 : Int32) * x4) + x5) (ea_l h (Option.getD r1 0))) (gd (r1 = some (Option.getD r1 0)) (gd (((Option.getD r1 0) < ea_n h ∧ ea_c h (Option.getD r1 0) = 20)) (gd (vp_in (((12 : Int32) * x4) + x5) (ea_l h (Option.getD r1 0))) (ea_let (ea_wi h (Option.getD r1 0) (Int32.toNatClampNeg (((12 : Int32) * x4) + x5)) (if v18 < (ea_i h (Option.getD r1 0) (Int32.toNatClampNeg (((12 : Int32) * x4) + x5))) then v18 else (ea_i h (Option.getD r1 0) (Int32.toNatClampNeg (((12 : Int32) * x4) + x5))))) fun H25 => (J34 (r1 : Option Nat) (x3 : Int32) (x4 : Int32) ((x5 + (1 : Int32)) : Int32) H25))))))))))))))))
theorem tBX7_reckon_34 {d : Nat} {h0 : ea_H} (hd : 2 ≤ d) {J24 : Option Nat → Int32 → Int32 → ea_H → Option (Unit × ea_H)} {J34 : Option Nat → Int32 → Int32 → Int32 → ea_H → Option (Unit × ea_H)}  (kJ24 : ∀ (r1 : Option Nat) (x3 : Int32) (x4 : Int32) (h : ea_H) (r : Unit) (h' : ea_H), J24 r1 x3 x4 h = some (r, h') → ShC h → ea_W mX7_reckon d h0 none h' 24 [(1, vR r1), (3, vI x3), (4, vI x4)] [] h) (kJ34 : ∀ (r1 : Option Nat) (x3 : Int32) (x4 : Int32) (x5 : Int32) (h : ea_H) (r : Unit) (h' : ea_H), J34 r1 x3 x4 x5 h = some (r, h') → ShC h → ea_W mX7_reckon d h0 none h' 34 [(1, vR r1), (3, vI x3), (4, vI x4), (5, vI x5)] [] h) {r1 : Option Nat} {x3 : Int32} {x4 : Int32} {x5 : Int32} {h : ea_H} {r : Unit} {h' : ea_H} (E : BX7_reckon_34 J24 J34 r1 x3 x4 x5 h = some (r, h')) (hs : ShC h) : ea_W mX7_reckon d h0 none h' 34 [(1, vR r1), (3, vI x3), (4, vI x4), (5, vI x5)] [] h := by
  unfold BX7_reckon_34 at E
  refine ea_iload (pc := 34) dX7_reckon_34 3 rfl ?_
  refine ea_bipush (pc := 36) dX7_reckon_36 (v := 12) rfl ?_
  refine ea_icmp_ge (pc := 38) (tgt := 93) dX7_reckon_38 rfl (fun c26 => ?_) (fun c26 => ?_)
  · have E := (if_pos c26).symm.trans E
    refine ea_iinc (pc := 93) (v := 1) (lv' := [(1, vR r1), (3, vI x3), (4, vI (x4 + (1 : Int32)))]) dX7_reckon_93 2 rfl rfl (Nat.le_of_ble_eq_true rfl) [1, 2, 0] rfl ?_
    refine ea_goto (pc := 96) (tgt := 24) dX7_reckon_96 rfl ?_
    exact (kJ24 (r1 : Option Nat) (x3 : Int32) ((x4 + (1 : Int32)) : Int32) h _ _ E hs)
  · have E := (if_neg c26).symm.trans E
    obtain ⟨e12, E⟩ := gd_some E
    refine ea_aload_n (pc := 41) dX7_reckon_41 rfl 0 rfl ?_
    refine ea_bipush (pc := 42) dX7_reckon_42 (v := 12) rfl ?_
    refine ea_iload (pc := 44) dX7_reckon_44 2 rfl ?_
    refine ea_imul (pc := 46) dX7_reckon_46 ?_
    refine ea_iload_n (pc := 47) dX7_reckon_47 rfl 1 rfl ?_
    refine ea_iadd (pc := 48) dX7_reckon_48 ?_
    obtain ⟨f13, E⟩ := gd_some E
    obtain ⟨z14, E⟩ := gd_some E
    obtain ⟨e15, E⟩ := gd_some E
    refine ea_deref1 e12 ?_
    refine ea_iald (pc := 49) dX7_reckon_49 f13.1 f13.2 z14 ?_
    refine ea_aload_n (pc := 50) dX7_reckon_50 rfl 0 rfl ?_
    refine ea_bipush (pc := 51) dX7_reckon_51 (v := 12) rfl ?_
    refine ea_iload_n (pc := 53) dX7_reckon_53 rfl 1 rfl ?_
    refine ea_imul (pc := 54) dX7_reckon_54 ?_
    refine ea_iload (pc := 55) dX7_reckon_55 3 rfl ?_
    refine ea_iadd (pc := 57) dX7_reckon_57 ?_
    obtain ⟨f16, E⟩ := gd_some E
    obtain ⟨z17, E⟩ := gd_some E
    obtain ⟨v18, ev18, E⟩ := let_some E
    refine ea_deref1 e15 ?_
    refine ea_iald (pc := 58) dX7_reckon_58 f16.1 f16.2 z17 ?_
    refine ea_iadd (pc := 59) dX7_reckon_59 ?_
    obtain ⟨e19, E⟩ := gd_some E
    refine ea_istore (pc := 60) (lv' := [(1, vR r1), (3, vI x3), (4, vI x4), (5, vI x5), (6, vI v18)]) dX7_reckon_60 (Nat.le_of_ble_eq_true rfl) [1, 2, 3, 4, 0] (by rw [ev18]; rfl) ?_
    refine ea_aload_n (pc := 62) dX7_reckon_62 rfl 0 rfl ?_
    refine ea_bipush (pc := 63) dX7_reckon_63 (v := 12) rfl ?_
    refine ea_iload (pc := 65) dX7_reckon_65 2 rfl ?_
    refine ea_imul (pc := 67) dX7_reckon_67 ?_
    refine ea_iload (pc := 68) dX7_reckon_68 3 rfl ?_
    refine ea_iadd (pc := 70) dX7_reckon_70 ?_
    refine ea_aload_n (pc := 71) dX7_reckon_71 rfl 0 rfl ?_
    refine ea_bipush (pc := 72) dX7_reckon_72 (v := 12) rfl ?_
    refine ea_iload (pc := 74) dX7_reckon_74 2 rfl ?_
    refine ea_imul (pc := 76) dX7_reckon_76 ?_
    refine ea_iload (pc := 77) dX7_reckon_77 3 rfl ?_
    refine ea_iadd (pc := 79) dX7_reckon_79 ?_
    obtain ⟨f20, E⟩ := gd_some E
    obtain ⟨z21, E⟩ := gd_some E
    obtain ⟨e22, E⟩ := gd_some E
    refine ea_deref1 e19 ?_
    refine ea_iald (pc := 80) dX7_reckon_80 f20.1 f20.2 z21 ?_
    refine ea_iload (pc := 81) dX7_reckon_81 4 rfl ?_
    refine ea_mminI (pc := 83) dX7_reckon_83 ew_160 ew_161 ew_119 ew_162 (by omega) (Nat.le_of_ble_eq_true rfl) ?_
    obtain ⟨f23, E⟩ := gd_some E
    obtain ⟨z24, E⟩ := gd_some E
    obtain ⟨H25, eH25, E⟩ := let_some E
    refine ea_deref2 e22 ?_
    refine ea_iast (pc := 86) dX7_reckon_86 f23.1 f23.2 z24 ?_
    refine ea_nm eH25 ?_
    have hsH25 : ShC H25 := by rw [eH25]; exact hs
    refine ea_iinc (pc := 87) (v := 1) (lv' := [(1, vR r1), (3, vI x3), (4, vI x4), (5, vI (x5 + (1 : Int32)))]) dX7_reckon_87 3 rfl rfl (Nat.le_of_ble_eq_true rfl) [1, 2, 3, 0] rfl ?_
    refine ea_goto (pc := 90) (tgt := 34) dX7_reckon_90 rfl ?_
    exact (kJ34 (r1 : Option Nat) (x3 : Int32) (x4 : Int32) ((x5 + (1 : Int32)) : Int32) H25 _ _ E hsH25)
theorem kBX7_reckon_34 {J24 : Option Nat → Int32 → Int32 → ea_H → Option (Unit × ea_H)} {J34 : Option Nat → Int32 → Int32 → Int32 → ea_H → Option (Unit × ea_H)}  (cJ24 : ∀ (r1 : Option Nat) (x3 : Int32) (x4 : Int32) (h : ea_H), kp (ea_core h) (J24 r1 x3 x4 h)) (cJ34 : ∀ (r1 : Option Nat) (x3 : Int32) (x4 : Int32) (x5 : Int32) (h : ea_H), kp (ea_core h) (J34 r1 x3 x4 x5 h)) {r1 : Option Nat} {x3 : Int32} {x4 : Int32} {x5 : Int32} {h : ea_H} : kp (ea_core h) (BX7_reckon_34 J24 J34 r1 x3 x4 x5 h) :=
  (kp_ite (kp_tw (cJ24 _ _ _ _) rfl) (kp_gd (kp_gd (kp_gd (kp_gd (kp_gd (kp_gd (kp_let (kp_gd (kp_gd (kp_gd (kp_gd (kp_gd (kp_gd (kp_let (kp_tw (cJ34 _ _ _ _ _) rfl))))))))))))))))
theorem lBX7_reckon_34 {J24 : Option Nat → Int32 → Int32 → ea_H → Option (Unit × ea_H)} {J34 : Option Nat → Int32 → Int32 → Int32 → ea_H → Option (Unit × ea_H)} {J24_ : Option Nat → Int32 → Int32 → ea_H → Option (Unit × ea_H)} {J34_ : Option Nat → Int32 → Int32 → Int32 → ea_H → Option (Unit × ea_H)}  (mJ24 : ∀ (r1 : Option Nat) (x3 : Int32) (x4 : Int32) (h : ea_H), fle (J24 r1 x3 x4 h) (J24_ r1 x3 x4 h)) (mJ34 : ∀ (r1 : Option Nat) (x3 : Int32) (x4 : Int32) (x5 : Int32) (h : ea_H), fle (J34 r1 x3 x4 x5 h) (J34_ r1 x3 x4 x5 h)) {r1 : Option Nat} {x3 : Int32} {x4 : Int32} {x5 : Int32} {h : ea_H} : fle (BX7_reckon_34 J24 J34 r1 x3 x4 x5 h) (BX7_reckon_34 J24_ J34_ r1 x3 x4 x5 h) :=
  (fle_ite (mJ24 _ _ _ _) (fle_gd (fle_gd (fle_gd (fle_gd (fle_gd (fle_gd (fle_let fun _ => (fle_gd (fle_gd (fle_gd (fle_gd (fle_gd (fle_gd (fle_let fun _ => (mJ34 _ _ _ _ _))))))))))))))))
theorem nBX7_reckon_34 {J24 : Option Nat → Int32 → Int32 → ea_H → Option (Unit × ea_H)} {J34 : Option Nat → Int32 → Int32 → Int32 → ea_H → Option (Unit × ea_H)} {J24_ : Nat → (Option Nat → Int32 → Int32 → ea_H → Option (Unit × ea_H))} {J34_ : Nat → (Option Nat → Int32 → Int32 → Int32 → ea_H → Option (Unit × ea_H))}  (mJ24 : ∀ (r1 : Option Nat) (x3 : Int32) (x4 : Int32) (h : ea_H), fct (J24 r1 x3 x4 h) (fun f => J24_ f r1 x3 x4 h)) (mJ34 : ∀ (r1 : Option Nat) (x3 : Int32) (x4 : Int32) (x5 : Int32) (h : ea_H), fct (J34 r1 x3 x4 x5 h) (fun f => J34_ f r1 x3 x4 x5 h)) {r1 : Option Nat} {x3 : Int32} {x4 : Int32} {x5 : Int32} {h : ea_H} : fct (BX7_reckon_34 J24 J34 r1 x3 x4 x5 h) (fun f => BX7_reckon_34 (J24_ f) (J34_ f) r1 x3 x4 x5 h) :=
  (fct_ite (mJ24 _ _ _ _) (fct_gd (fct_gd (fct_gd (fct_gd (fct_gd (fct_gd (fct_let fun _ => (fct_gd (fct_gd (fct_gd (fct_gd (fct_gd (fct_gd (fct_let fun _ => (mJ34 _ _ _ _ _))))))))))))))))
noncomputable def gX7_reckon : Nat → (Option Nat → Int32 → ea_H → Option (Unit × ea_H)) × (Option Nat → Int32 → ea_H → Option (Unit × ea_H)) × (Option Nat → Int32 → Int32 → ea_H → Option (Unit × ea_H)) × (Option Nat → Int32 → Int32 → Int32 → ea_H → Option (Unit × ea_H))
  | 0 => (fun _ _ _ => none, fun _ _ _ => none, fun _ _ _ _ => none, fun _ _ _ _ _ => none)
  | f + 1 => (BX7_reckon_0 (gX7_reckon f).2.1, BX7_reckon_15 (gX7_reckon f).2.2.1, BX7_reckon_24 (gX7_reckon f).2.1 (gX7_reckon f).2.2.2, BX7_reckon_34 (gX7_reckon f).2.2.1 (gX7_reckon f).2.2.2)
theorem mgX7_reckon : ∀ f : Nat, (∀ (r1 : Option Nat) (x2 : Int32) (h : ea_H), fle ((gX7_reckon f).1 r1 x2 h) ((gX7_reckon (f + 1)).1 r1 x2 h)) ∧ (∀ (r1 : Option Nat) (x3 : Int32) (h : ea_H), fle ((gX7_reckon f).2.1 r1 x3 h) ((gX7_reckon (f + 1)).2.1 r1 x3 h)) ∧ (∀ (r1 : Option Nat) (x3 : Int32) (x4 : Int32) (h : ea_H), fle ((gX7_reckon f).2.2.1 r1 x3 x4 h) ((gX7_reckon (f + 1)).2.2.1 r1 x3 x4 h)) ∧ (∀ (r1 : Option Nat) (x3 : Int32) (x4 : Int32) (x5 : Int32) (h : ea_H), fle ((gX7_reckon f).2.2.2 r1 x3 x4 x5 h) ((gX7_reckon (f + 1)).2.2.2 r1 x3 x4 x5 h)) := by
  intro f
  induction f with
  | zero => exact ⟨fun _ _ _ => fle_none _, fun _ _ _ => fle_none _, fun _ _ _ _ => fle_none _, fun _ _ _ _ _ => fle_none _⟩
  | succ f ih => exact ⟨fun _ _ _ => lBX7_reckon_0 ih.2.1, fun _ _ _ => lBX7_reckon_15 ih.2.2.1, fun _ _ _ _ => lBX7_reckon_24 ih.2.1 ih.2.2.2, fun _ _ _ _ _ => lBX7_reckon_34 ih.2.2.1 ih.2.2.2⟩
noncomputable def qX7_reckon_0 (r1 : Option Nat) (x2 : Int32) (h : ea_H) : Option (Unit × ea_H) := flim fun f => (gX7_reckon f).1 r1 x2 h
noncomputable def qX7_reckon_15 (r1 : Option Nat) (x3 : Int32) (h : ea_H) : Option (Unit × ea_H) := flim fun f => (gX7_reckon f).2.1 r1 x3 h
noncomputable def qX7_reckon_24 (r1 : Option Nat) (x3 : Int32) (x4 : Int32) (h : ea_H) : Option (Unit × ea_H) := flim fun f => (gX7_reckon f).2.2.1 r1 x3 x4 h
noncomputable def qX7_reckon_34 (r1 : Option Nat) (x3 : Int32) (x4 : Int32) (x5 : Int32) (h : ea_H) : Option (Unit × ea_H) := flim fun f => (gX7_reckon f).2.2.2 r1 x3 x4 x5 h
theorem fqX7_reckon_0 (r1 : Option Nat) (x2 : Int32) (h : ea_H) : fct (qX7_reckon_0 r1 x2 h) fun f => (gX7_reckon f).1 r1 x2 h := flim_ct fun f => (mgX7_reckon f).1 r1 x2 h
theorem fqX7_reckon_15 (r1 : Option Nat) (x3 : Int32) (h : ea_H) : fct (qX7_reckon_15 r1 x3 h) fun f => (gX7_reckon f).2.1 r1 x3 h := flim_ct fun f => (mgX7_reckon f).2.1 r1 x3 h
theorem fqX7_reckon_24 (r1 : Option Nat) (x3 : Int32) (x4 : Int32) (h : ea_H) : fct (qX7_reckon_24 r1 x3 x4 h) fun f => (gX7_reckon f).2.2.1 r1 x3 x4 h := flim_ct fun f => (mgX7_reckon f).2.2.1 r1 x3 x4 h
theorem fqX7_reckon_34 (r1 : Option Nat) (x3 : Int32) (x4 : Int32) (x5 : Int32) (h : ea_H) : fct (qX7_reckon_34 r1 x3 x4 x5 h) fun f => (gX7_reckon f).2.2.2 r1 x3 x4 x5 h := flim_ct fun f => (mgX7_reckon f).2.2.2 r1 x3 x4 x5 h
/-- how a block opens -/
theorem uqX7_reckon_0 {r1 : Option Nat} {x2 : Int32} {h : ea_H} {P : Unit × ea_H → Prop} (H : sat (BX7_reckon_0 qX7_reckon_15 r1 x2 h) P) : sat (qX7_reckon_0 r1 x2 h) P := by
  obtain ⟨x, e, hp⟩ := H
  obtain ⟨n, hn⟩ := nBX7_reckon_0 fqX7_reckon_15 x e
  exact ⟨x, flim_at (fun f => (mgX7_reckon f).1 r1 x2 h) (f := n + 1) (hn n (Nat.le_refl _)), hp⟩
/-- how a block opens -/
theorem uqX7_reckon_15 {r1 : Option Nat} {x3 : Int32} {h : ea_H} {P : Unit × ea_H → Prop} (H : sat (BX7_reckon_15 qX7_reckon_24 r1 x3 h) P) : sat (qX7_reckon_15 r1 x3 h) P := by
  obtain ⟨x, e, hp⟩ := H
  obtain ⟨n, hn⟩ := nBX7_reckon_15 fqX7_reckon_24 x e
  exact ⟨x, flim_at (fun f => (mgX7_reckon f).2.1 r1 x3 h) (f := n + 1) (hn n (Nat.le_refl _)), hp⟩
/-- how a block opens -/
theorem uqX7_reckon_24 {r1 : Option Nat} {x3 : Int32} {x4 : Int32} {h : ea_H} {P : Unit × ea_H → Prop} (H : sat (BX7_reckon_24 qX7_reckon_15 qX7_reckon_34 r1 x3 x4 h) P) : sat (qX7_reckon_24 r1 x3 x4 h) P := by
  obtain ⟨x, e, hp⟩ := H
  obtain ⟨n, hn⟩ := nBX7_reckon_24 fqX7_reckon_15 fqX7_reckon_34 x e
  exact ⟨x, flim_at (fun f => (mgX7_reckon f).2.2.1 r1 x3 x4 h) (f := n + 1) (hn n (Nat.le_refl _)), hp⟩
/-- how a block opens -/
theorem uqX7_reckon_34 {r1 : Option Nat} {x3 : Int32} {x4 : Int32} {x5 : Int32} {h : ea_H} {P : Unit × ea_H → Prop} (H : sat (BX7_reckon_34 qX7_reckon_24 qX7_reckon_34 r1 x3 x4 x5 h) P) : sat (qX7_reckon_34 r1 x3 x4 x5 h) P := by
  obtain ⟨x, e, hp⟩ := H
  obtain ⟨n, hn⟩ := nBX7_reckon_34 fqX7_reckon_24 fqX7_reckon_34 x e
  exact ⟨x, flim_at (fun f => (mgX7_reckon f).2.2.2 r1 x3 x4 x5 h) (f := n + 1) (hn n (Nat.le_refl _)), hp⟩
theorem kgX7_reckon : ∀ f : Nat, (∀ (r1 : Option Nat) (x2 : Int32) (h : ea_H), kp (ea_core h) ((gX7_reckon f).1 r1 x2 h)) ∧ (∀ (r1 : Option Nat) (x3 : Int32) (h : ea_H), kp (ea_core h) ((gX7_reckon f).2.1 r1 x3 h)) ∧ (∀ (r1 : Option Nat) (x3 : Int32) (x4 : Int32) (h : ea_H), kp (ea_core h) ((gX7_reckon f).2.2.1 r1 x3 x4 h)) ∧ (∀ (r1 : Option Nat) (x3 : Int32) (x4 : Int32) (x5 : Int32) (h : ea_H), kp (ea_core h) ((gX7_reckon f).2.2.2 r1 x3 x4 x5 h)) := by
  intro f
  induction f with
  | zero => exact ⟨fun _ _ _ => kp_none _, fun _ _ _ => kp_none _, fun _ _ _ _ => kp_none _, fun _ _ _ _ _ => kp_none _⟩
  | succ f ih => exact ⟨fun _ _ _ => kBX7_reckon_0 ih.2.1, fun _ _ _ => kBX7_reckon_15 ih.2.2.1, fun _ _ _ _ => kBX7_reckon_24 ih.2.1 ih.2.2.2, fun _ _ _ _ _ => kBX7_reckon_34 ih.2.2.1 ih.2.2.2⟩
theorem tgX7_reckon {d : Nat} {h0 : ea_H} (hd : 2 ≤ d) : ∀ f : Nat, (∀ (r1 : Option Nat) (x2 : Int32) (h : ea_H) (r : Unit) (h' : ea_H), (gX7_reckon f).1 r1 x2 h = some (r, h') → ShC h → ea_W mX7_reckon d h0 none h' 0 [(0, vR (some 1)), (1, vR r1), (2, vI x2)] [] h) ∧ (∀ (r1 : Option Nat) (x3 : Int32) (h : ea_H) (r : Unit) (h' : ea_H), (gX7_reckon f).2.1 r1 x3 h = some (r, h') → ShC h → ea_W mX7_reckon d h0 none h' 15 [(1, vR r1), (3, vI x3)] [] h) ∧ (∀ (r1 : Option Nat) (x3 : Int32) (x4 : Int32) (h : ea_H) (r : Unit) (h' : ea_H), (gX7_reckon f).2.2.1 r1 x3 x4 h = some (r, h') → ShC h → ea_W mX7_reckon d h0 none h' 24 [(1, vR r1), (3, vI x3), (4, vI x4)] [] h) ∧ (∀ (r1 : Option Nat) (x3 : Int32) (x4 : Int32) (x5 : Int32) (h : ea_H) (r : Unit) (h' : ea_H), (gX7_reckon f).2.2.2 r1 x3 x4 x5 h = some (r, h') → ShC h → ea_W mX7_reckon d h0 none h' 34 [(1, vR r1), (3, vI x3), (4, vI x4), (5, vI x5)] [] h) := by
  intro f
  induction f with
  | zero => exact ⟨fun _ _ _ _ _ E => no_some E, fun _ _ _ _ _ E => no_some E, fun _ _ _ _ _ _ E => no_some E, fun _ _ _ _ _ _ _ E => no_some E⟩
  | succ f ih => exact ⟨fun _ _ _ _ _ E hs => tBX7_reckon_0 hd ih.2.1 E hs, fun _ _ _ _ _ E hs => tBX7_reckon_15 hd ih.2.2.1 E hs, fun _ _ _ _ _ _ E hs => tBX7_reckon_24 hd ih.2.1 ih.2.2.2 E hs, fun _ _ _ _ _ _ _ E hs => tBX7_reckon_34 hd ih.2.2.1 ih.2.2.2 E hs⟩
noncomputable def qX7_reckon (r1 : Option Nat) (x2 : Int32) (h : ea_H) : Option (Unit × ea_H) := qX7_reckon_0 r1 x2 h
theorem sX7_reckon {d : Nat} {r1 : Option Nat} {x2 : Int32} {h : ea_H} {r : Unit} {h' : ea_H} (hd : 2 ≤ d) (hs : ShC h) (K : qX7_reckon r1 x2 h = some (r, h')) : ea_Met mX7_reckon d [vR (some 1), vR r1, vI x2] h none h' := by
  unfold qX7_reckon at K
  obtain ⟨n, hn⟩ := fqX7_reckon_0 r1 x2 h _ K
  have W := (tgX7_reckon (d := d) (h0 := h) hd n).1 r1 x2 h _ _ (hn n (Nat.le_refl _)) hs
  exact ea_enter rfl (Nat.le_of_ble_eq_true rfl) W
theorem kpX7_reckon (r1 : Option Nat) (x2 : Int32) (h : ea_H) : kp (ea_core h) (qX7_reckon r1 x2 h) := fun x e => by
  obtain ⟨n, hn⟩ := fqX7_reckon_0 r1 x2 h x e
  exact (kgX7_reckon n).1 r1 x2 h x (hn n (Nat.le_refl _))
noncomputable def BX8_init_0 (a0 : Nat) (J42 : Int32 → ea_H → Option (Unit × ea_H)) (h : ea_H) : Option (Unit × ea_H) :=
  (ea_let (ea_new h 6 0 10) fun H1 => (Option.bind (qX6_init (ea_n h) H1) fun w2 => (gd ((a0 < ea_n w2.2 ∧ ea_c w2.2 a0 = 8)) (ea_let (ea_wr w2.2 a0 0 (some (ea_n h))) fun H4 => (ea_let (ea_new H4 25 6 6) fun H5 => (gd ((a0 < ea_n H5 ∧ ea_c H5 a0 = 8)) (ea_let (ea_wr H5 a0 2 (some (ea_n H4))) fun H7 => (ea_let (ea_new H7 20 7 7) fun H8 => (gd ((a0 < ea_n H8 ∧ ea_c H8 a0 = 8)) (ea_let (ea_wr H8 a0 3 (some (ea_n H7))) fun H10 => (ea_let (ea_new H10 20 64 64) fun H11 => (gd ((a0 < ea_n H11 ∧ ea_c H11 a0 = 8)) (ea_let (ea_wr H11 a0 4 (some (ea_n H10))) fun H13 => (J42 (0 : Int32) H13))))))))))))))
theorem tBX8_init_0 {d : Nat} {a0 : Nat} {h0 : ea_H} (hd : 3 ≤ d) {J42 : Int32 → ea_H → Option (Unit × ea_H)}  (kJ42 : ∀ (x1 : Int32) (h : ea_H) (r : Unit) (h' : ea_H), J42 x1 h = some (r, h') → ea_W mX8_init d h0 none h' 42 [(0, vR (some a0)), (1, vI x1)] [] h) {h : ea_H} {r : Unit} {h' : ea_H} (E : BX8_init_0 a0 J42 h = some (r, h')) : ea_W mX8_init d h0 none h' 0 [(0, vR (some a0))] [] h := by
  unfold BX8_init_0 at E
  obtain ⟨H1, eH1, E⟩ := let_some E
  refine ea_aload_n (pc := 0) dX8_init_0 rfl 0 rfl ?_
  refine ea_objInit (pc := 1) dX8_init_1 ew_287 ew_141 ew_142 (by omega) (Nat.le_of_ble_eq_true rfl) ?_
  refine ea_aload_n (pc := 4) dX8_init_4 rfl 0 rfl ?_
  refine ea_newO (pc := 5) dX8_init_5 ec_6 ew_288 ew_289 ew_124 ?_
  refine ea_nm eH1 ?_
  obtain ⟨w2, Ew2, E⟩ := bd_some E
  refine ea_dup (pc := 8) dX8_init_8 rfl ?_
  refine ea_callIN (pc := 9) (d' := d - 1) (As := []) (st := [vR (some (ea_n h)), vR (some a0)]) dX8_init_9 kX6_init (sX6_init (d := d - 1) (by omega) Ew2) (by omega) rfl (Nat.le_of_ble_eq_true rfl) ew_290 ew_291 rfl rfl ?_
  obtain ⟨f3, E⟩ := gd_some E
  obtain ⟨H4, eH4, E⟩ := let_some E
  refine ea_putR (pc := 12) dX8_init_12 ec_8 (k := 0) (Nat.le_of_ble_eq_true rfl) rfl (Or.inr ⟨rfl, rfl, rfl, ew_396⟩) f3.1 f3.2 ?_
  refine ea_nm eH4 ?_
  obtain ⟨H5, eH5, E⟩ := let_some E
  refine ea_aload_n (pc := 15) dX8_init_15 rfl 0 rfl ?_
  refine ea_bipush (pc := 16) dX8_init_16 (v := 6) rfl ?_
  refine ea_newR25 (pc := 18) (N := 6) dX8_init_18 ew_328 ew_329 (by decide) rfl (Nat.le_of_ble_eq_true rfl) ?_
  refine ea_nm eH5 ?_
  obtain ⟨f6, E⟩ := gd_some E
  obtain ⟨H7, eH7, E⟩ := let_some E
  refine ea_putR (pc := 21) dX8_init_21 ec_8 (k := 2) (Nat.le_of_ble_eq_true rfl) rfl (Or.inr ⟨rfl, rfl, rfl, ew_400⟩) f6.1 f6.2 ?_
  refine ea_nm eH7 ?_
  obtain ⟨H8, eH8, E⟩ := let_some E
  refine ea_aload_n (pc := 24) dX8_init_24 rfl 0 rfl ?_
  refine ea_bipush (pc := 25) dX8_init_25 (v := 7) rfl ?_
  refine ea_newI (pc := 27) (N := 7) dX8_init_27 ew_177 (by decide) rfl (Nat.le_of_ble_eq_true rfl) ?_
  refine ea_nm eH8 ?_
  obtain ⟨f9, E⟩ := gd_some E
  obtain ⟨H10, eH10, E⟩ := let_some E
  refine ea_putR (pc := 29) dX8_init_29 ec_8 (k := 3) (Nat.le_of_ble_eq_true rfl) rfl (Or.inr ⟨rfl, rfl, rfl, ew_401⟩) f9.1 f9.2 ?_
  refine ea_nm eH10 ?_
  obtain ⟨H11, eH11, E⟩ := let_some E
  refine ea_aload_n (pc := 32) dX8_init_32 rfl 0 rfl ?_
  refine ea_bipush (pc := 33) dX8_init_33 (v := 64) rfl ?_
  refine ea_newI (pc := 35) (N := 64) dX8_init_35 ew_177 (by decide) rfl (Nat.le_of_ble_eq_true rfl) ?_
  refine ea_nm eH11 ?_
  obtain ⟨f12, E⟩ := gd_some E
  obtain ⟨H13, eH13, E⟩ := let_some E
  refine ea_putR (pc := 37) dX8_init_37 ec_8 (k := 4) (Nat.le_of_ble_eq_true rfl) rfl (Or.inr ⟨rfl, rfl, rfl, ew_402⟩) f12.1 f12.2 ?_
  refine ea_nm eH13 ?_
  refine ea_iconst (pc := 40) dX8_init_40 (v := 0) rfl ?_
  refine ea_istore_n (pc := 41) (lv' := [(0, vR (some a0)), (1, vI 0)]) dX8_init_41 rfl (Nat.le_of_ble_eq_true rfl) [1, 0] rfl ?_
  exact (kJ42 (0 : Int32) H13 _ _ E)
theorem lBX8_init_0 {a0 : Nat} {J42 : Int32 → ea_H → Option (Unit × ea_H)} {J42_ : Int32 → ea_H → Option (Unit × ea_H)}  (mJ42 : ∀ (x1 : Int32) (h : ea_H), fle (J42 x1 h) (J42_ x1 h)) {h : ea_H} : fle (BX8_init_0 a0 J42 h) (BX8_init_0 a0 J42_ h) :=
  (fle_let fun _ => (fle_bind (fle_rfl _) fun _ => (fle_gd (fle_let fun _ => (fle_let fun _ => (fle_gd (fle_let fun _ => (fle_let fun _ => (fle_gd (fle_let fun _ => (fle_let fun _ => (fle_gd (fle_let fun _ => (mJ42 _ _))))))))))))))
theorem nBX8_init_0 {a0 : Nat} {J42 : Int32 → ea_H → Option (Unit × ea_H)} {J42_ : Nat → (Int32 → ea_H → Option (Unit × ea_H))}  (mJ42 : ∀ (x1 : Int32) (h : ea_H), fct (J42 x1 h) (fun f => J42_ f x1 h)) {h : ea_H} : fct (BX8_init_0 a0 J42 h) (fun f => BX8_init_0 a0 (J42_ f) h) :=
  (fct_let fun _ => (fct_bind (fct_rfl _) fun _ => (fct_gd (fct_let fun _ => (fct_let fun _ => (fct_gd (fct_let fun _ => (fct_let fun _ => (fct_gd (fct_let fun _ => (fct_let fun _ => (fct_gd (fct_let fun _ => (mJ42 _ _))))))))))))))
noncomputable def BX8_init_42 (a0 : Nat) (J42 : Int32 → ea_H → Option (Unit × ea_H)) (x1 : Int32) (h : ea_H) : Option (Unit × ea_H) :=
  (if (6 : Int32) ≤ x1 then (some ((), h)) else (gd ((a0 < ea_n h ∧ ea_c h a0 = 8)) (ea_let (ea_new h 0 0 11) fun H15 => (Option.bind (qX0_init (ea_n h) H15) fun w16 => (gd ((ea_r h a0 2) = some (Option.getD (ea_r h a0 2) 0)) (gd (((Option.getD (ea_r h a0 2) 0) < ea_n w16.2 ∧ ea_c w16.2 (Option.getD (ea_r h a0 2) 0) = 25)) (gd (vp_in x1 (ea_l w16.2 (Option.getD (ea_r h a0 2) 0))) (gd (((ea_n h) < ea_n w16.2 ∧ ea_c w16.2 (ea_n h) = 0)) (ea_let (ea_wr w16.2 (Option.getD (ea_r h a0 2) 0) (Int32.toNatClampNeg x1) (some (ea_n h))) fun H21 => (J42 ((x1 + (1 : Int32)) : Int32) H21))))))))))
theorem tBX8_init_42 {d : Nat} {a0 : Nat} {h0 : ea_H} (hd : 3 ≤ d) {J42 : Int32 → ea_H → Option (Unit × ea_H)}  (kJ42 : ∀ (x1 : Int32) (h : ea_H) (r : Unit) (h' : ea_H), J42 x1 h = some (r, h') → ea_W mX8_init d h0 none h' 42 [(0, vR (some a0)), (1, vI x1)] [] h) {x1 : Int32} {h : ea_H} {r : Unit} {h' : ea_H} (E : BX8_init_42 a0 J42 x1 h = some (r, h')) : ea_W mX8_init d h0 none h' 42 [(0, vR (some a0)), (1, vI x1)] [] h := by
  unfold BX8_init_42 at E
  refine ea_iload_n (pc := 42) dX8_init_42 rfl 1 rfl ?_
  refine ea_bipush (pc := 43) dX8_init_43 (v := 6) rfl ?_
  refine ea_icmp_ge (pc := 45) (tgt := 67) dX8_init_45 rfl (fun c22 => ?_) (fun c22 => ?_)
  · have E := (if_pos c22).symm.trans E
    exact ea_vretO (pc := 67) dX8_init_67 rfl E
  · have E := (if_neg c22).symm.trans E
    obtain ⟨f14, E⟩ := gd_some E
    refine ea_aload_n (pc := 48) dX8_init_48 rfl 0 rfl ?_
    obtain ⟨H15, eH15, E⟩ := let_some E
    refine ea_getR (pc := 49) dX8_init_49 ec_8 (k := 2) (Nat.le_of_ble_eq_true rfl) rfl (Or.inl ew_400) f14.1 f14.2 rfl ?_
    refine ea_iload_n (pc := 52) dX8_init_52 rfl 1 rfl ?_
    refine ea_newO (pc := 53) dX8_init_53 ec_0 ew_328 ew_330 ew_125 ?_
    refine ea_nm eH15 ?_
    obtain ⟨w16, Ew16, E⟩ := bd_some E
    refine ea_dup (pc := 56) dX8_init_56 rfl ?_
    refine ea_callIN (pc := 57) (d' := d - 1) (As := []) (st := [vR (some (ea_n h)), vI x1, vR (ea_r h a0 2)]) dX8_init_57 kX0_init (sX0_init (d := d - 1) (by omega) Ew16) (by omega) rfl (Nat.le_of_ble_eq_true rfl) ew_331 ew_332 rfl rfl ?_
    obtain ⟨e17, E⟩ := gd_some E
    obtain ⟨f18, E⟩ := gd_some E
    obtain ⟨z19, E⟩ := gd_some E
    obtain ⟨f20, E⟩ := gd_some E
    obtain ⟨H21, eH21, E⟩ := let_some E
    refine ea_deref2 e17 ?_
    refine ea_aast25 (pc := 60) dX8_init_60 f18.1 f18.2 z19 f20.1 f20.2 ?_
    refine ea_nm eH21 ?_
    refine ea_iinc (pc := 61) (v := 1) (lv' := [(0, vR (some a0)), (1, vI (x1 + (1 : Int32)))]) dX8_init_61 1 rfl rfl (Nat.le_of_ble_eq_true rfl) [1, 0] rfl ?_
    refine ea_goto (pc := 64) (tgt := 42) dX8_init_64 rfl ?_
    exact (kJ42 ((x1 + (1 : Int32)) : Int32) H21 _ _ E)
theorem lBX8_init_42 {a0 : Nat} {J42 : Int32 → ea_H → Option (Unit × ea_H)} {J42_ : Int32 → ea_H → Option (Unit × ea_H)}  (mJ42 : ∀ (x1 : Int32) (h : ea_H), fle (J42 x1 h) (J42_ x1 h)) {x1 : Int32} {h : ea_H} : fle (BX8_init_42 a0 J42 x1 h) (BX8_init_42 a0 J42_ x1 h) :=
  (fle_ite (fle_rfl _) (fle_gd (fle_let fun _ => (fle_bind (fle_rfl _) fun _ => (fle_gd (fle_gd (fle_gd (fle_gd (fle_let fun _ => (mJ42 _ _))))))))))
theorem nBX8_init_42 {a0 : Nat} {J42 : Int32 → ea_H → Option (Unit × ea_H)} {J42_ : Nat → (Int32 → ea_H → Option (Unit × ea_H))}  (mJ42 : ∀ (x1 : Int32) (h : ea_H), fct (J42 x1 h) (fun f => J42_ f x1 h)) {x1 : Int32} {h : ea_H} : fct (BX8_init_42 a0 J42 x1 h) (fun f => BX8_init_42 a0 (J42_ f) x1 h) :=
  (fct_ite (fct_rfl _) (fct_gd (fct_let fun _ => (fct_bind (fct_rfl _) fun _ => (fct_gd (fct_gd (fct_gd (fct_gd (fct_let fun _ => (mJ42 _ _))))))))))
noncomputable def gX8_init (a0 : Nat) : Nat → (ea_H → Option (Unit × ea_H)) × (Int32 → ea_H → Option (Unit × ea_H))
  | 0 => (fun _ => none, fun _ _ => none)
  | f + 1 => (BX8_init_0 a0 (gX8_init a0 f).2, BX8_init_42 a0 (gX8_init a0 f).2)
theorem mgX8_init (a0 : Nat) : ∀ f : Nat, (∀ (h : ea_H), fle ((gX8_init a0 f).1 h) ((gX8_init a0 (f + 1)).1 h)) ∧ (∀ (x1 : Int32) (h : ea_H), fle ((gX8_init a0 f).2 x1 h) ((gX8_init a0 (f + 1)).2 x1 h)) := by
  intro f
  induction f with
  | zero => exact ⟨fun _ => fle_none _, fun _ _ => fle_none _⟩
  | succ f ih => exact ⟨fun _ => lBX8_init_0 (a0 := a0) ih.2, fun _ _ => lBX8_init_42 (a0 := a0) ih.2⟩
noncomputable def qX8_init_0 (a0 : Nat) (h : ea_H) : Option (Unit × ea_H) := flim fun f => (gX8_init a0 f).1 h
noncomputable def qX8_init_42 (a0 : Nat) (x1 : Int32) (h : ea_H) : Option (Unit × ea_H) := flim fun f => (gX8_init a0 f).2 x1 h
theorem fqX8_init_0 (a0 : Nat) (h : ea_H) : fct (qX8_init_0 a0 h) fun f => (gX8_init a0 f).1 h := flim_ct fun f => (mgX8_init a0 f).1 h
theorem fqX8_init_42 (a0 : Nat) (x1 : Int32) (h : ea_H) : fct (qX8_init_42 a0 x1 h) fun f => (gX8_init a0 f).2 x1 h := flim_ct fun f => (mgX8_init a0 f).2 x1 h
/-- how a block opens -/
theorem uqX8_init_0 {a0 : Nat} {h : ea_H} {P : Unit × ea_H → Prop} (H : sat (BX8_init_0 a0 (qX8_init_42 a0) h) P) : sat (qX8_init_0 a0 h) P := by
  obtain ⟨x, e, hp⟩ := H
  obtain ⟨n, hn⟩ := nBX8_init_0 (a0 := a0) (fqX8_init_42 a0) x e
  exact ⟨x, flim_at (fun f => (mgX8_init a0 f).1 h) (f := n + 1) (hn n (Nat.le_refl _)), hp⟩
/-- how a block opens -/
theorem uqX8_init_42 {a0 : Nat} {x1 : Int32} {h : ea_H} {P : Unit × ea_H → Prop} (H : sat (BX8_init_42 a0 (qX8_init_42 a0) x1 h) P) : sat (qX8_init_42 a0 x1 h) P := by
  obtain ⟨x, e, hp⟩ := H
  obtain ⟨n, hn⟩ := nBX8_init_42 (a0 := a0) (fqX8_init_42 a0) x e
  exact ⟨x, flim_at (fun f => (mgX8_init a0 f).2 x1 h) (f := n + 1) (hn n (Nat.le_refl _)), hp⟩
theorem tgX8_init {d : Nat} {a0 : Nat} {h0 : ea_H} (hd : 3 ≤ d) : ∀ f : Nat, (∀ (h : ea_H) (r : Unit) (h' : ea_H), (gX8_init a0 f).1 h = some (r, h') → ea_W mX8_init d h0 none h' 0 [(0, vR (some a0))] [] h) ∧ (∀ (x1 : Int32) (h : ea_H) (r : Unit) (h' : ea_H), (gX8_init a0 f).2 x1 h = some (r, h') → ea_W mX8_init d h0 none h' 42 [(0, vR (some a0)), (1, vI x1)] [] h) := by
  intro f
  induction f with
  | zero => exact ⟨fun _ _ _ E => no_some E, fun _ _ _ _ E => no_some E⟩
  | succ f ih => exact ⟨fun _ _ _ E => tBX8_init_0 (a0 := a0) hd ih.2 E, fun _ _ _ _ E => tBX8_init_42 (a0 := a0) hd ih.2 E⟩
noncomputable def qX8_init (a0 : Nat) (h : ea_H) : Option (Unit × ea_H) := qX8_init_0 a0  h
theorem sX8_init {d : Nat} {a0 : Nat} {h : ea_H} {r : Unit} {h' : ea_H} (hd : 3 ≤ d) (K : qX8_init a0 h = some (r, h')) : ea_Met mX8_init d [vR (some a0)] h none h' := by
  unfold qX8_init at K
  obtain ⟨n, hn⟩ := fqX8_init_0 a0  h _ K
  have W := (tgX8_init (d := d) (h0 := h) hd n).1  h _ _ (hn n (Nat.le_refl _))
  exact ea_enter rfl (Nat.le_of_ble_eq_true rfl) W
noncomputable def BX8_mayBegin_0 (J25 : Int32 → Int32 → ea_H → Option (Int32 × ea_H)) (x1 : Int32) (h : ea_H) : Option (Int32 × ea_H) :=
  (if (ea_i h 23 1) ≤ (0 : Int32) then (J25 (x1 : Int32) (0 : Int32) h) else (gd (vp_in ((ea_i h 23 1) - (1 : Int32)) 6) (gd ((ea_r h 28 (Int32.toNatClampNeg ((ea_i h 23 1) - (1 : Int32)))) = some (Option.getD (ea_r h 28 (Int32.toNatClampNeg ((ea_i h 23 1) - (1 : Int32)))) 0)) (gd (((Option.getD (ea_r h 28 (Int32.toNatClampNeg ((ea_i h 23 1) - (1 : Int32)))) 0) < ea_n h ∧ ea_c h (Option.getD (ea_r h 28 (Int32.toNatClampNeg ((ea_i h 23 1) - (1 : Int32)))) 0) = 0)) (J25 (x1 : Int32) ((ea_i h (Option.getD (ea_r h 28 (Int32.toNatClampNeg ((ea_i h 23 1) - (1 : Int32)))) 0) 0) : Int32) h)))))
theorem tBX8_mayBegin_0 {d : Nat} {h0 : ea_H} (hd : 1 ≤ d) {J25 : Int32 → Int32 → ea_H → Option (Int32 × ea_H)}  (kJ25 : ∀ (x1 : Int32) (sx0 : Int32) (h : ea_H) (r : Int32) (h' : ea_H), J25 x1 sx0 h = some (r, h') → ShC h → ea_W mX8_mayBegin d h0 (some (vI r)) h' 25 [(0, vR (some 23)), (1, vI x1)] [vI sx0] h) {x1 : Int32} {h : ea_H} {r : Int32} {h' : ea_H} (E : BX8_mayBegin_0 J25 x1 h = some (r, h')) (hs : ShC h) : ea_W mX8_mayBegin d h0 (some (vI r)) h' 0 [(0, vR (some 23)), (1, vI x1)] [] h := by
  unfold BX8_mayBegin_0 at E
  refine ea_aload_n (pc := 0) dX8_mayBegin_0 rfl 0 rfl ?_
  refine ea_getI (pc := 1) dX8_mayBegin_1 ec_8 (k := 1) (Nat.le_of_ble_eq_true rfl) rfl (Or.inl ew_398) (cShC_23 hs).1 (cShC_23 hs).2.1 ?_
  refine ea_if_le (pc := 4) (tgt := 24) dX8_mayBegin_4 rfl (fun c4 => ?_) (fun c4 => ?_)
  · have E := (if_pos c4).symm.trans E
    refine ea_iconst (pc := 24) dX8_mayBegin_24 (v := 0) rfl ?_
    exact (kJ25 (x1 : Int32) (0 : Int32) h _ _ E hs)
  · have E := (if_neg c4).symm.trans E
    obtain ⟨z1, E⟩ := gd_some E
    refine ea_aload_n (pc := 7) dX8_mayBegin_7 rfl 0 rfl ?_
    refine ea_getR (pc := 8) dX8_mayBegin_8 ec_8 (k := 2) (Nat.le_of_ble_eq_true rfl) rfl (Or.inl ew_400) (cShC_23 hs).1 (cShC_23 hs).2.1 (rShC_23_2 hs) ?_
    refine ea_aload_n (pc := 11) dX8_mayBegin_11 rfl 0 rfl ?_
    refine ea_getI (pc := 12) dX8_mayBegin_12 ec_8 (k := 1) (Nat.le_of_ble_eq_true rfl) rfl (Or.inl ew_398) (cShC_23 hs).1 (cShC_23 hs).2.1 ?_
    refine ea_iconst (pc := 15) dX8_mayBegin_15 (v := 1) rfl ?_
    refine ea_isub (pc := 16) dX8_mayBegin_16 ?_
    obtain ⟨e2, E⟩ := gd_some E
    refine ea_aald25 (pc := 17) dX8_mayBegin_17 (cShC_28 hs).1 (cShC_28 hs).2.1 (ea_vpl (cShC_28 hs).2.2 z1) rfl ?_
    obtain ⟨f3, E⟩ := gd_some E
    refine ea_deref0 e2 ?_
    refine ea_getI (pc := 18) dX8_mayBegin_18 ec_0 (k := 0) (Nat.le_of_ble_eq_true rfl) rfl (Or.inl ew_336) f3.1 f3.2 ?_
    refine ea_goto (pc := 21) (tgt := 25) dX8_mayBegin_21 rfl ?_
    exact (kJ25 (x1 : Int32) ((ea_i h (Option.getD (ea_r h 28 (Int32.toNatClampNeg ((ea_i h 23 1) - (1 : Int32)))) 0) 0) : Int32) h _ _ E hs)
theorem kBX8_mayBegin_0 {J25 : Int32 → Int32 → ea_H → Option (Int32 × ea_H)}  (cJ25 : ∀ (x1 : Int32) (sx0 : Int32) (h : ea_H), kp (ea_core h) (J25 x1 sx0 h)) {x1 : Int32} {h : ea_H} : kp (ea_core h) (BX8_mayBegin_0 J25 x1 h) :=
  (kp_ite (kp_tw (cJ25 _ _ _) rfl) (kp_gd (kp_gd (kp_gd (kp_tw (cJ25 _ _ _) rfl)))))
theorem lBX8_mayBegin_0 {J25 : Int32 → Int32 → ea_H → Option (Int32 × ea_H)} {J25_ : Int32 → Int32 → ea_H → Option (Int32 × ea_H)}  (mJ25 : ∀ (x1 : Int32) (sx0 : Int32) (h : ea_H), fle (J25 x1 sx0 h) (J25_ x1 sx0 h)) {x1 : Int32} {h : ea_H} : fle (BX8_mayBegin_0 J25 x1 h) (BX8_mayBegin_0 J25_ x1 h) :=
  (fle_ite (mJ25 _ _ _) (fle_gd (fle_gd (fle_gd (mJ25 _ _ _)))))
theorem nBX8_mayBegin_0 {J25 : Int32 → Int32 → ea_H → Option (Int32 × ea_H)} {J25_ : Nat → (Int32 → Int32 → ea_H → Option (Int32 × ea_H))}  (mJ25 : ∀ (x1 : Int32) (sx0 : Int32) (h : ea_H), fct (J25 x1 sx0 h) (fun f => J25_ f x1 sx0 h)) {x1 : Int32} {h : ea_H} : fct (BX8_mayBegin_0 J25 x1 h) (fun f => BX8_mayBegin_0 (J25_ f) x1 h) :=
  (fct_ite (mJ25 _ _ _) (fct_gd (fct_gd (fct_gd (mJ25 _ _ _)))))
noncomputable def BX8_mayBegin_25 (x1 : Int32) (sx0 : Int32) (h : ea_H) : Option (Int32 × ea_H) :=
  (if (6 : Int32) ≤ (ea_i h 23 1) then (some ((0 : Int32), h)) else (if x1 < sx0 then (some ((0 : Int32), h)) else (if (7 : Int32) ≤ x1 then (some ((0 : Int32), h)) else (some ((1 : Int32), h)))))
theorem tBX8_mayBegin_25 {d : Nat} {h0 : ea_H} (hd : 1 ≤ d)  {x1 : Int32} {sx0 : Int32} {h : ea_H} {r : Int32} {h' : ea_H} (E : BX8_mayBegin_25 x1 sx0 h = some (r, h')) (hs : ShC h) : ea_W mX8_mayBegin d h0 (some (vI r)) h' 25 [(0, vR (some 23)), (1, vI x1)] [vI sx0] h := by
  unfold BX8_mayBegin_25 at E
  refine ea_istore_n (pc := 25) (lv' := [(0, vR (some 23)), (1, vI x1), (2, vI sx0)]) dX8_mayBegin_25 rfl (Nat.le_of_ble_eq_true rfl) [1, 2, 0] rfl ?_
  refine ea_aload_n (pc := 26) dX8_mayBegin_26 rfl 0 rfl ?_
  refine ea_getI (pc := 27) dX8_mayBegin_27 ec_8 (k := 1) (Nat.le_of_ble_eq_true rfl) rfl (Or.inl ew_398) (cShC_23 hs).1 (cShC_23 hs).2.1 ?_
  refine ea_bipush (pc := 30) dX8_mayBegin_30 (v := 6) rfl ?_
  refine ea_icmp_ge (pc := 32) (tgt := 50) dX8_mayBegin_32 rfl (fun c7 => ?_) (fun c7 => ?_)
  · have E := (if_pos c7).symm.trans E
    refine ea_iconst (pc := 50) dX8_mayBegin_50 (v := 0) rfl ?_
    exact ea_iretO (pc := 51) dX8_mayBegin_51 rfl (ea_bn (Or.inl rfl)) E
  · have E := (if_neg c7).symm.trans E
    refine ea_iload_n (pc := 35) dX8_mayBegin_35 rfl 1 rfl ?_
    refine ea_iload_n (pc := 36) dX8_mayBegin_36 rfl 2 rfl ?_
    refine ea_icmp_lt (pc := 37) (tgt := 50) dX8_mayBegin_37 rfl (fun c6 => ?_) (fun c6 => ?_)
    · have E := (if_pos c6).symm.trans E
      refine ea_iconst (pc := 50) dX8_mayBegin_50 (v := 0) rfl ?_
      exact ea_iretO (pc := 51) dX8_mayBegin_51 rfl (ea_bn (Or.inl rfl)) E
    · have E := (if_neg c6).symm.trans E
      refine ea_iload_n (pc := 40) dX8_mayBegin_40 rfl 1 rfl ?_
      refine ea_bipush (pc := 41) dX8_mayBegin_41 (v := 7) rfl ?_
      refine ea_icmp_ge (pc := 43) (tgt := 50) dX8_mayBegin_43 rfl (fun c5 => ?_) (fun c5 => ?_)
      · have E := (if_pos c5).symm.trans E
        refine ea_iconst (pc := 50) dX8_mayBegin_50 (v := 0) rfl ?_
        exact ea_iretO (pc := 51) dX8_mayBegin_51 rfl (ea_bn (Or.inl rfl)) E
      · have E := (if_neg c5).symm.trans E
        refine ea_iconst (pc := 46) dX8_mayBegin_46 (v := 1) rfl ?_
        refine ea_goto (pc := 47) (tgt := 51) dX8_mayBegin_47 rfl ?_
        exact ea_iretO (pc := 51) dX8_mayBegin_51 rfl (ea_bn (Or.inr rfl)) E
theorem kBX8_mayBegin_25  {x1 : Int32} {sx0 : Int32} {h : ea_H} : kp (ea_core h) (BX8_mayBegin_25 x1 sx0 h) :=
  (kp_ite (kp_ret rfl) (kp_ite (kp_ret rfl) (kp_ite (kp_ret rfl) (kp_ret rfl))))
theorem lBX8_mayBegin_25  {x1 : Int32} {sx0 : Int32} {h : ea_H} : fle (BX8_mayBegin_25 x1 sx0 h) (BX8_mayBegin_25 x1 sx0 h) :=
  (fle_rfl _)
theorem nBX8_mayBegin_25  {x1 : Int32} {sx0 : Int32} {h : ea_H} : fct (BX8_mayBegin_25 x1 sx0 h) (fun f => BX8_mayBegin_25 x1 sx0 h) :=
  (fct_rfl _)
noncomputable def gX8_mayBegin : Nat → (Int32 → ea_H → Option (Int32 × ea_H)) × (Int32 → Int32 → ea_H → Option (Int32 × ea_H))
  | 0 => (fun _ _ => none, fun _ _ _ => none)
  | f + 1 => (BX8_mayBegin_0 (gX8_mayBegin f).2, BX8_mayBegin_25)
theorem mgX8_mayBegin : ∀ f : Nat, (∀ (x1 : Int32) (h : ea_H), fle ((gX8_mayBegin f).1 x1 h) ((gX8_mayBegin (f + 1)).1 x1 h)) ∧ (∀ (x1 : Int32) (sx0 : Int32) (h : ea_H), fle ((gX8_mayBegin f).2 x1 sx0 h) ((gX8_mayBegin (f + 1)).2 x1 sx0 h)) := by
  intro f
  induction f with
  | zero => exact ⟨fun _ _ => fle_none _, fun _ _ _ => fle_none _⟩
  | succ f ih => exact ⟨fun _ _ => lBX8_mayBegin_0 ih.2, fun _ _ _ => lBX8_mayBegin_25⟩
noncomputable def qX8_mayBegin_0 (x1 : Int32) (h : ea_H) : Option (Int32 × ea_H) := flim fun f => (gX8_mayBegin f).1 x1 h
noncomputable def qX8_mayBegin_25 (x1 : Int32) (sx0 : Int32) (h : ea_H) : Option (Int32 × ea_H) := flim fun f => (gX8_mayBegin f).2 x1 sx0 h
theorem fqX8_mayBegin_0 (x1 : Int32) (h : ea_H) : fct (qX8_mayBegin_0 x1 h) fun f => (gX8_mayBegin f).1 x1 h := flim_ct fun f => (mgX8_mayBegin f).1 x1 h
theorem fqX8_mayBegin_25 (x1 : Int32) (sx0 : Int32) (h : ea_H) : fct (qX8_mayBegin_25 x1 sx0 h) fun f => (gX8_mayBegin f).2 x1 sx0 h := flim_ct fun f => (mgX8_mayBegin f).2 x1 sx0 h
/-- how a block opens -/
theorem uqX8_mayBegin_0 {x1 : Int32} {h : ea_H} {P : Int32 × ea_H → Prop} (H : sat (BX8_mayBegin_0 qX8_mayBegin_25 x1 h) P) : sat (qX8_mayBegin_0 x1 h) P := by
  obtain ⟨x, e, hp⟩ := H
  obtain ⟨n, hn⟩ := nBX8_mayBegin_0 fqX8_mayBegin_25 x e
  exact ⟨x, flim_at (fun f => (mgX8_mayBegin f).1 x1 h) (f := n + 1) (hn n (Nat.le_refl _)), hp⟩
/-- how a block opens -/
theorem uqX8_mayBegin_25 {x1 : Int32} {sx0 : Int32} {h : ea_H} {P : Int32 × ea_H → Prop} (H : sat (BX8_mayBegin_25 x1 sx0 h) P) : sat (qX8_mayBegin_25 x1 sx0 h) P := by
  obtain ⟨x, e, hp⟩ := H
  obtain ⟨n, hn⟩ := nBX8_mayBegin_25 x e
  exact ⟨x, flim_at (fun f => (mgX8_mayBegin f).2 x1 sx0 h) (f := n + 1) (hn n (Nat.le_refl _)), hp⟩
theorem kgX8_mayBegin : ∀ f : Nat, (∀ (x1 : Int32) (h : ea_H), kp (ea_core h) ((gX8_mayBegin f).1 x1 h)) ∧ (∀ (x1 : Int32) (sx0 : Int32) (h : ea_H), kp (ea_core h) ((gX8_mayBegin f).2 x1 sx0 h)) := by
  intro f
  induction f with
  | zero => exact ⟨fun _ _ => kp_none _, fun _ _ _ => kp_none _⟩
  | succ f ih => exact ⟨fun _ _ => kBX8_mayBegin_0 ih.2, fun _ _ _ => kBX8_mayBegin_25⟩
theorem tgX8_mayBegin {d : Nat} {h0 : ea_H} (hd : 1 ≤ d) : ∀ f : Nat, (∀ (x1 : Int32) (h : ea_H) (r : Int32) (h' : ea_H), (gX8_mayBegin f).1 x1 h = some (r, h') → ShC h → ea_W mX8_mayBegin d h0 (some (vI r)) h' 0 [(0, vR (some 23)), (1, vI x1)] [] h) ∧ (∀ (x1 : Int32) (sx0 : Int32) (h : ea_H) (r : Int32) (h' : ea_H), (gX8_mayBegin f).2 x1 sx0 h = some (r, h') → ShC h → ea_W mX8_mayBegin d h0 (some (vI r)) h' 25 [(0, vR (some 23)), (1, vI x1)] [vI sx0] h) := by
  intro f
  induction f with
  | zero => exact ⟨fun _ _ _ _ E => no_some E, fun _ _ _ _ _ E => no_some E⟩
  | succ f ih => exact ⟨fun _ _ _ _ E hs => tBX8_mayBegin_0 hd ih.2 E hs, fun _ _ _ _ _ E hs => tBX8_mayBegin_25 hd E hs⟩
noncomputable def qX8_mayBegin (x1 : Int32) (h : ea_H) : Option (Int32 × ea_H) := qX8_mayBegin_0 x1 h
theorem sX8_mayBegin {d : Nat} {x1 : Int32} {h : ea_H} {r : Int32} {h' : ea_H} (hd : 1 ≤ d) (hs : ShC h) (K : qX8_mayBegin x1 h = some (r, h')) : ea_Met mX8_mayBegin d [vR (some 23), vI x1] h (some (vI r)) h' := by
  unfold qX8_mayBegin at K
  obtain ⟨n, hn⟩ := fqX8_mayBegin_0 x1 h _ K
  have W := (tgX8_mayBegin (d := d) (h0 := h) hd n).1 x1 h _ _ (hn n (Nat.le_refl _)) hs
  exact ea_enter rfl (Nat.le_of_ble_eq_true rfl) W
theorem kpX8_mayBegin (x1 : Int32) (h : ea_H) : kp (ea_core h) (qX8_mayBegin x1 h) := fun x e => by
  obtain ⟨n, hn⟩ := fqX8_mayBegin_0 x1 h x e
  exact (kgX8_mayBegin n).1 x1 h x (hn n (Nat.le_refl _))
noncomputable def BX8_next_0 (x1 : Int32) (h : ea_H) : Option (Option Nat × ea_H) :=
  (gd (vp_in (ea_i h 23 1) 6) (gd ((ea_r h 28 (Int32.toNatClampNeg (ea_i h 23 1))) = some (Option.getD (ea_r h 28 (Int32.toNatClampNeg (ea_i h 23 1))) 0)) (gd (((Option.getD (ea_r h 28 (Int32.toNatClampNeg (ea_i h 23 1))) 0) < ea_n h ∧ ea_c h (Option.getD (ea_r h 28 (Int32.toNatClampNeg (ea_i h 23 1))) 0) = 0)) (Option.bind (qX0_begin (Option.getD (ea_r h 28 (Int32.toNatClampNeg (ea_i h 23 1))) 0) (x1 : Int32) h) fun w2 => (gd (vp_in (ea_i w2.2 23 1) 6) (some ((ea_r w2.2 28 (Int32.toNatClampNeg (ea_i w2.2 23 1))), w2.2)))))))
theorem tBX8_next_0 {d : Nat} {h0 : ea_H} (hd : 2 ≤ d)  {x1 : Int32} {h : ea_H} {r : Option Nat} {h' : ea_H} (E : BX8_next_0 x1 h = some (r, h')) (hs : ShC h) : ea_W mX8_next d h0 (some (vR r)) h' 0 [(0, vR (some 23)), (1, vI x1)] [] h := by
  unfold BX8_next_0 at E
  obtain ⟨z1, E⟩ := gd_some E
  refine ea_aload_n (pc := 0) dX8_next_0 rfl 0 rfl ?_
  refine ea_getR (pc := 1) dX8_next_1 ec_8 (k := 2) (Nat.le_of_ble_eq_true rfl) rfl (Or.inl ew_400) (cShC_23 hs).1 (cShC_23 hs).2.1 (rShC_23_2 hs) ?_
  refine ea_aload_n (pc := 4) dX8_next_4 rfl 0 rfl ?_
  refine ea_getI (pc := 5) dX8_next_5 ec_8 (k := 1) (Nat.le_of_ble_eq_true rfl) rfl (Or.inl ew_398) (cShC_23 hs).1 (cShC_23 hs).2.1 ?_
  obtain ⟨e3, E⟩ := gd_some E
  refine ea_aald25 (pc := 8) dX8_next_8 (cShC_28 hs).1 (cShC_28 hs).2.1 (ea_vpl (cShC_28 hs).2.2 z1) rfl ?_
  refine ea_iload_n (pc := 9) dX8_next_9 rfl 1 rfl ?_
  obtain ⟨f4, E⟩ := gd_some E
  obtain ⟨w2, Ew2, E⟩ := bd_some E
  have hsw2 : ShC w2.2 := ShC_core ((kpX0_begin _ _ _) _ Ew2) hs
  refine ea_deref1 e3 ?_
  refine ea_callV (pc := 10) (d' := d - 1) (As := [vI x1]) (st := []) dX8_next_10 kX0_begin (sX0_begin (d := d - 1) (by omega) Ew2) (by omega) rfl (Nat.le_of_ble_eq_true rfl) ew_948 ew_949 ew_950 (ci := 0) rfl (by decide) f4.1 f4.2 ?_
  obtain ⟨z5, E⟩ := gd_some E
  refine ea_aload_n (pc := 13) dX8_next_13 rfl 0 rfl ?_
  refine ea_getR (pc := 14) dX8_next_14 ec_8 (k := 2) (Nat.le_of_ble_eq_true rfl) rfl (Or.inl ew_400) (cShC_23 hsw2).1 (cShC_23 hsw2).2.1 (rShC_23_2 hsw2) ?_
  refine ea_aload_n (pc := 17) dX8_next_17 rfl 0 rfl ?_
  refine ea_getI (pc := 18) dX8_next_18 ec_8 (k := 1) (Nat.le_of_ble_eq_true rfl) rfl (Or.inl ew_398) (cShC_23 hsw2).1 (cShC_23 hsw2).2.1 ?_
  refine ea_aald25 (pc := 21) dX8_next_21 (cShC_28 hsw2).1 (cShC_28 hsw2).2.1 (ea_vpl (cShC_28 hsw2).2.2 z5) rfl ?_
  exact ea_aretO (pc := 22) dX8_next_22 rfl (Or.inl ⟨_, rfl⟩) E
theorem kBX8_next_0  {x1 : Int32} {h : ea_H} : kp (ea_core h) (BX8_next_0 x1 h) :=
  (kp_gd (kp_gd (kp_gd (kp_bind (kp_tw (kpX0_begin _ _ _) rfl) fun w2 hcw2 => (kp_gd (kp_ret hcw2))))))
noncomputable def qX8_next (x1 : Int32) (h : ea_H) : Option (Option Nat × ea_H) := BX8_next_0 x1 h
theorem sX8_next {d : Nat} {x1 : Int32} {h : ea_H} {r : Option Nat} {h' : ea_H} (hd : 2 ≤ d) (hs : ShC h) (K : qX8_next x1 h = some (r, h')) : ea_Met mX8_next d [vR (some 23), vI x1] h (some (vR r)) h' := by
  unfold qX8_next at K
  have W := tBX8_next_0 hd (h0 := h) K hs
  exact ea_enter rfl (Nat.le_of_ble_eq_true rfl) W
theorem kpX8_next (x1 : Int32) (h : ea_H) : kp (ea_core h) (qX8_next x1 h) := kBX8_next_0
noncomputable def BX8_add_0 (h : ea_H) : Option (Int32 × ea_H) :=
  (ea_let (ea_wi h 23 1 ((ea_i h 23 1) + (1 : Int32))) fun H1 => (some (((ea_i H1 23 1) - (1 : Int32)), H1)))
theorem tBX8_add_0 {d : Nat} {h0 : ea_H} (hd : 1 ≤ d)  {h : ea_H} {r : Int32} {h' : ea_H} (E : BX8_add_0 h = some (r, h')) (hs : ShC h) : ea_W mX8_add d h0 (some (vI r)) h' 0 [(0, vR (some 23))] [] h := by
  unfold BX8_add_0 at E
  obtain ⟨H1, eH1, E⟩ := let_some E
  refine ea_aload_n (pc := 0) dX8_add_0 rfl 0 rfl ?_
  refine ea_dup (pc := 1) dX8_add_1 rfl ?_
  refine ea_getI (pc := 2) dX8_add_2 ec_8 (k := 1) (Nat.le_of_ble_eq_true rfl) rfl (Or.inl ew_398) (cShC_23 hs).1 (cShC_23 hs).2.1 ?_
  refine ea_iconst (pc := 5) dX8_add_5 (v := 1) rfl ?_
  refine ea_iadd (pc := 6) dX8_add_6 ?_
  refine ea_putI (pc := 7) dX8_add_7 ec_8 (k := 1) (Nat.le_of_ble_eq_true rfl) rfl (Or.inl ⟨rfl, Or.inl ew_398⟩) rfl rfl (cShC_23 hs).1 (cShC_23 hs).2.1 ?_
  refine ea_nm eH1 ?_
  have hsH1 : ShC H1 := by rw [eH1]; exact hs
  refine ea_aload_n (pc := 10) dX8_add_10 rfl 0 rfl ?_
  refine ea_getI (pc := 11) dX8_add_11 ec_8 (k := 1) (Nat.le_of_ble_eq_true rfl) rfl (Or.inl ew_398) (cShC_23 hsH1).1 (cShC_23 hsH1).2.1 ?_
  refine ea_iconst (pc := 14) dX8_add_14 (v := 1) rfl ?_
  refine ea_isub (pc := 15) dX8_add_15 ?_
  exact ea_iretO (pc := 16) dX8_add_16 rfl rfl E
theorem kBX8_add_0  {h : ea_H} : kp (ea_core h) (BX8_add_0 h) :=
  (kp_let (kp_ret rfl))
noncomputable def qX8_add (h : ea_H) : Option (Int32 × ea_H) := BX8_add_0 h
theorem sX8_add {d : Nat} {h : ea_H} {r : Int32} {h' : ea_H} (hd : 1 ≤ d) (hs : ShC h) (K : qX8_add h = some (r, h')) : ea_Met mX8_add d [vR (some 23)] h (some (vI r)) h' := by
  unfold qX8_add at K
  have W := tBX8_add_0 hd (h0 := h) K hs
  exact ea_enter rfl (Nat.le_of_ble_eq_true rfl) W
theorem kpX8_add (h : ea_H) : kp (ea_core h) (qX8_add h) := kBX8_add_0
noncomputable def BX8_actOf_0 (x1 : Int32) (h : ea_H) : Option (Option Nat × ea_H) :=
  (if x1 < (0 : Int32) then (some (none, h)) else (if (ea_i h 23 1) ≤ x1 then (some (none, h)) else (gd (vp_in x1 6) (some ((ea_r h 28 (Int32.toNatClampNeg x1)), h)))))
theorem tBX8_actOf_0 {d : Nat} {h0 : ea_H} (hd : 1 ≤ d)  {x1 : Int32} {h : ea_H} {r : Option Nat} {h' : ea_H} (E : BX8_actOf_0 x1 h = some (r, h')) (hs : ShC h) : ea_W mX8_actOf d h0 (some (vR r)) h' 0 [(0, vR (some 23)), (1, vI x1)] [] h := by
  unfold BX8_actOf_0 at E
  refine ea_iload_n (pc := 0) dX8_actOf_0 rfl 1 rfl ?_
  refine ea_if_lt (pc := 1) (tgt := 21) dX8_actOf_1 rfl (fun c3 => ?_) (fun c3 => ?_)
  · have E := (if_pos c3).symm.trans E
    refine ea_null (pc := 21) dX8_actOf_21 ?_
    exact ea_aretO (pc := 22) dX8_actOf_22 rfl (Or.inl ⟨_, rfl⟩) E
  · have E := (if_neg c3).symm.trans E
    refine ea_iload_n (pc := 4) dX8_actOf_4 rfl 1 rfl ?_
    refine ea_aload_n (pc := 5) dX8_actOf_5 rfl 0 rfl ?_
    refine ea_getI (pc := 6) dX8_actOf_6 ec_8 (k := 1) (Nat.le_of_ble_eq_true rfl) rfl (Or.inl ew_398) (cShC_23 hs).1 (cShC_23 hs).2.1 ?_
    refine ea_icmp_ge (pc := 9) (tgt := 21) dX8_actOf_9 rfl (fun c2 => ?_) (fun c2 => ?_)
    · have E := (if_pos c2).symm.trans E
      refine ea_null (pc := 21) dX8_actOf_21 ?_
      exact ea_aretO (pc := 22) dX8_actOf_22 rfl (Or.inl ⟨_, rfl⟩) E
    · have E := (if_neg c2).symm.trans E
      obtain ⟨z1, E⟩ := gd_some E
      refine ea_aload_n (pc := 12) dX8_actOf_12 rfl 0 rfl ?_
      refine ea_getR (pc := 13) dX8_actOf_13 ec_8 (k := 2) (Nat.le_of_ble_eq_true rfl) rfl (Or.inl ew_400) (cShC_23 hs).1 (cShC_23 hs).2.1 (rShC_23_2 hs) ?_
      refine ea_iload_n (pc := 16) dX8_actOf_16 rfl 1 rfl ?_
      refine ea_aald25 (pc := 17) dX8_actOf_17 (cShC_28 hs).1 (cShC_28 hs).2.1 (ea_vpl (cShC_28 hs).2.2 z1) rfl ?_
      refine ea_goto (pc := 18) (tgt := 22) dX8_actOf_18 rfl ?_
      exact ea_aretO (pc := 22) dX8_actOf_22 rfl (Or.inl ⟨_, rfl⟩) E
theorem kBX8_actOf_0  {x1 : Int32} {h : ea_H} : kp (ea_core h) (BX8_actOf_0 x1 h) :=
  (kp_ite (kp_ret rfl) (kp_ite (kp_ret rfl) (kp_gd (kp_ret rfl))))
noncomputable def qX8_actOf (x1 : Int32) (h : ea_H) : Option (Option Nat × ea_H) := BX8_actOf_0 x1 h
theorem sX8_actOf {d : Nat} {x1 : Int32} {h : ea_H} {r : Option Nat} {h' : ea_H} (hd : 1 ≤ d) (hs : ShC h) (K : qX8_actOf x1 h = some (r, h')) : ea_Met mX8_actOf d [vR (some 23), vI x1] h (some (vR r)) h' := by
  unfold qX8_actOf at K
  have W := tBX8_actOf_0 hd (h0 := h) K hs
  exact ea_enter rfl (Nat.le_of_ble_eq_true rfl) W
theorem kpX8_actOf (x1 : Int32) (h : ea_H) : kp (ea_core h) (qX8_actOf x1 h) := kBX8_actOf_0
noncomputable def BX8_numberOn_0 (J4 : Int32 → Int32 → Int32 → ea_H → Option (Int32 × ea_H)) (x1 : Int32) (h : ea_H) : Option (Int32 × ea_H) :=
  (J4 (x1 : Int32) ((-1) : Int32) (0 : Int32) h)
theorem tBX8_numberOn_0 {d : Nat} {h0 : ea_H} (hd : 1 ≤ d) {J4 : Int32 → Int32 → Int32 → ea_H → Option (Int32 × ea_H)}  (kJ4 : ∀ (x1 : Int32) (x2 : Int32) (x3 : Int32) (h : ea_H) (r : Int32) (h' : ea_H), J4 x1 x2 x3 h = some (r, h') → ShC h → ea_W mX8_numberOn d h0 (some (vI r)) h' 4 [(0, vR (some 23)), (1, vI x1), (2, vI x2), (3, vI x3)] [] h) {x1 : Int32} {h : ea_H} {r : Int32} {h' : ea_H} (E : BX8_numberOn_0 J4 x1 h = some (r, h')) (hs : ShC h) : ea_W mX8_numberOn d h0 (some (vI r)) h' 0 [(0, vR (some 23)), (1, vI x1)] [] h := by
  unfold BX8_numberOn_0 at E
  refine ea_iconst (pc := 0) dX8_numberOn_0 (v := (-1)) rfl ?_
  refine ea_istore_n (pc := 1) (lv' := [(0, vR (some 23)), (1, vI x1), (2, vI (-1))]) dX8_numberOn_1 rfl (Nat.le_of_ble_eq_true rfl) [1, 2, 0] rfl ?_
  refine ea_iconst (pc := 2) dX8_numberOn_2 (v := 0) rfl ?_
  refine ea_istore_n (pc := 3) (lv' := [(0, vR (some 23)), (1, vI x1), (2, vI (-1)), (3, vI 0)]) dX8_numberOn_3 rfl (Nat.le_of_ble_eq_true rfl) [1, 2, 3, 0] rfl ?_
  exact (kJ4 (x1 : Int32) ((-1) : Int32) (0 : Int32) h _ _ E hs)
theorem kBX8_numberOn_0 {J4 : Int32 → Int32 → Int32 → ea_H → Option (Int32 × ea_H)}  (cJ4 : ∀ (x1 : Int32) (x2 : Int32) (x3 : Int32) (h : ea_H), kp (ea_core h) (J4 x1 x2 x3 h)) {x1 : Int32} {h : ea_H} : kp (ea_core h) (BX8_numberOn_0 J4 x1 h) :=
  (kp_tw (cJ4 _ _ _ _) rfl)
theorem lBX8_numberOn_0 {J4 : Int32 → Int32 → Int32 → ea_H → Option (Int32 × ea_H)} {J4_ : Int32 → Int32 → Int32 → ea_H → Option (Int32 × ea_H)}  (mJ4 : ∀ (x1 : Int32) (x2 : Int32) (x3 : Int32) (h : ea_H), fle (J4 x1 x2 x3 h) (J4_ x1 x2 x3 h)) {x1 : Int32} {h : ea_H} : fle (BX8_numberOn_0 J4 x1 h) (BX8_numberOn_0 J4_ x1 h) :=
  (mJ4 _ _ _ _)
theorem nBX8_numberOn_0 {J4 : Int32 → Int32 → Int32 → ea_H → Option (Int32 × ea_H)} {J4_ : Nat → (Int32 → Int32 → Int32 → ea_H → Option (Int32 × ea_H))}  (mJ4 : ∀ (x1 : Int32) (x2 : Int32) (x3 : Int32) (h : ea_H), fct (J4 x1 x2 x3 h) (fun f => J4_ f x1 x2 x3 h)) {x1 : Int32} {h : ea_H} : fct (BX8_numberOn_0 J4 x1 h) (fun f => BX8_numberOn_0 (J4_ f) x1 h) :=
  (mJ4 _ _ _ _)
noncomputable def BX8_numberOn_4 (J4 : Int32 → Int32 → Int32 → ea_H → Option (Int32 × ea_H)) (x1 : Int32) (x2 : Int32) (x3 : Int32) (h : ea_H) : Option (Int32 × ea_H) :=
  (if (ea_i h 23 1) ≤ x3 then (some (x2, h)) else (gd (vp_in x3 6) (gd ((ea_r h 28 (Int32.toNatClampNeg x3)) = some (Option.getD (ea_r h 28 (Int32.toNatClampNeg x3)) 0)) (gd (((Option.getD (ea_r h 28 (Int32.toNatClampNeg x3)) 0) < ea_n h ∧ ea_c h (Option.getD (ea_r h 28 (Int32.toNatClampNeg x3)) 0) = 0)) (if x1 < (ea_i h (Option.getD (ea_r h 28 (Int32.toNatClampNeg x3)) 0) 0) then (J4 (x1 : Int32) (x2 : Int32) ((x3 + (1 : Int32)) : Int32) h) else (J4 (x1 : Int32) (x3 : Int32) ((x3 + (1 : Int32)) : Int32) h))))))
theorem tBX8_numberOn_4 {d : Nat} {h0 : ea_H} (hd : 1 ≤ d) {J4 : Int32 → Int32 → Int32 → ea_H → Option (Int32 × ea_H)}  (kJ4 : ∀ (x1 : Int32) (x2 : Int32) (x3 : Int32) (h : ea_H) (r : Int32) (h' : ea_H), J4 x1 x2 x3 h = some (r, h') → ShC h → ea_W mX8_numberOn d h0 (some (vI r)) h' 4 [(0, vR (some 23)), (1, vI x1), (2, vI x2), (3, vI x3)] [] h) {x1 : Int32} {x2 : Int32} {x3 : Int32} {h : ea_H} {r : Int32} {h' : ea_H} (E : BX8_numberOn_4 J4 x1 x2 x3 h = some (r, h')) (hs : ShC h) : ea_W mX8_numberOn d h0 (some (vI r)) h' 4 [(0, vR (some 23)), (1, vI x1), (2, vI x2), (3, vI x3)] [] h := by
  unfold BX8_numberOn_4 at E
  refine ea_iload_n (pc := 4) dX8_numberOn_4 rfl 3 rfl ?_
  refine ea_aload_n (pc := 5) dX8_numberOn_5 rfl 0 rfl ?_
  refine ea_getI (pc := 6) dX8_numberOn_6 ec_8 (k := 1) (Nat.le_of_ble_eq_true rfl) rfl (Or.inl ew_398) (cShC_23 hs).1 (cShC_23 hs).2.1 ?_
  refine ea_icmp_ge (pc := 9) (tgt := 33) dX8_numberOn_9 rfl (fun c5 => ?_) (fun c5 => ?_)
  · have E := (if_pos c5).symm.trans E
    refine ea_iload_n (pc := 33) dX8_numberOn_33 rfl 2 rfl ?_
    exact ea_iretO (pc := 34) dX8_numberOn_34 rfl rfl E
  · have E := (if_neg c5).symm.trans E
    obtain ⟨z1, E⟩ := gd_some E
    refine ea_aload_n (pc := 12) dX8_numberOn_12 rfl 0 rfl ?_
    refine ea_getR (pc := 13) dX8_numberOn_13 ec_8 (k := 2) (Nat.le_of_ble_eq_true rfl) rfl (Or.inl ew_400) (cShC_23 hs).1 (cShC_23 hs).2.1 (rShC_23_2 hs) ?_
    refine ea_iload_n (pc := 16) dX8_numberOn_16 rfl 3 rfl ?_
    obtain ⟨e2, E⟩ := gd_some E
    refine ea_aald25 (pc := 17) dX8_numberOn_17 (cShC_28 hs).1 (cShC_28 hs).2.1 (ea_vpl (cShC_28 hs).2.2 z1) rfl ?_
    obtain ⟨f3, E⟩ := gd_some E
    refine ea_deref0 e2 ?_
    refine ea_getI (pc := 18) dX8_numberOn_18 ec_0 (k := 0) (Nat.le_of_ble_eq_true rfl) rfl (Or.inl ew_336) f3.1 f3.2 ?_
    refine ea_iload_n (pc := 21) dX8_numberOn_21 rfl 1 rfl ?_
    refine ea_icmp_gt (pc := 22) (tgt := 27) dX8_numberOn_22 rfl (fun c4 => ?_) (fun c4 => ?_)
    · have E := (if_pos c4).symm.trans E
      refine ea_iinc (pc := 27) (v := 1) (lv' := [(0, vR (some 23)), (1, vI x1), (2, vI x2), (3, vI (x3 + (1 : Int32)))]) dX8_numberOn_27 3 rfl rfl (Nat.le_of_ble_eq_true rfl) [1, 2, 3, 0] rfl ?_
      refine ea_goto (pc := 30) (tgt := 4) dX8_numberOn_30 rfl ?_
      exact (kJ4 (x1 : Int32) (x2 : Int32) ((x3 + (1 : Int32)) : Int32) h _ _ E hs)
    · have E := (if_neg c4).symm.trans E
      refine ea_iload_n (pc := 25) dX8_numberOn_25 rfl 3 rfl ?_
      refine ea_istore_n (pc := 26) (lv' := [(0, vR (some 23)), (1, vI x1), (2, vI x3), (3, vI x3)]) dX8_numberOn_26 rfl (Nat.le_of_ble_eq_true rfl) [1, 2, 0, 3] rfl ?_
      refine ea_iinc (pc := 27) (v := 1) (lv' := [(0, vR (some 23)), (1, vI x1), (2, vI x3), (3, vI (x3 + (1 : Int32)))]) dX8_numberOn_27 3 rfl rfl (Nat.le_of_ble_eq_true rfl) [1, 2, 3, 0] rfl ?_
      refine ea_goto (pc := 30) (tgt := 4) dX8_numberOn_30 rfl ?_
      exact (kJ4 (x1 : Int32) (x3 : Int32) ((x3 + (1 : Int32)) : Int32) h _ _ E hs)
theorem kBX8_numberOn_4 {J4 : Int32 → Int32 → Int32 → ea_H → Option (Int32 × ea_H)}  (cJ4 : ∀ (x1 : Int32) (x2 : Int32) (x3 : Int32) (h : ea_H), kp (ea_core h) (J4 x1 x2 x3 h)) {x1 : Int32} {x2 : Int32} {x3 : Int32} {h : ea_H} : kp (ea_core h) (BX8_numberOn_4 J4 x1 x2 x3 h) :=
  (kp_ite (kp_ret rfl) (kp_gd (kp_gd (kp_gd (kp_ite (kp_tw (cJ4 _ _ _ _) rfl) (kp_tw (cJ4 _ _ _ _) rfl))))))
theorem lBX8_numberOn_4 {J4 : Int32 → Int32 → Int32 → ea_H → Option (Int32 × ea_H)} {J4_ : Int32 → Int32 → Int32 → ea_H → Option (Int32 × ea_H)}  (mJ4 : ∀ (x1 : Int32) (x2 : Int32) (x3 : Int32) (h : ea_H), fle (J4 x1 x2 x3 h) (J4_ x1 x2 x3 h)) {x1 : Int32} {x2 : Int32} {x3 : Int32} {h : ea_H} : fle (BX8_numberOn_4 J4 x1 x2 x3 h) (BX8_numberOn_4 J4_ x1 x2 x3 h) :=
  (fle_ite (fle_rfl _) (fle_gd (fle_gd (fle_gd (fle_ite (mJ4 _ _ _ _) (mJ4 _ _ _ _))))))
theorem nBX8_numberOn_4 {J4 : Int32 → Int32 → Int32 → ea_H → Option (Int32 × ea_H)} {J4_ : Nat → (Int32 → Int32 → Int32 → ea_H → Option (Int32 × ea_H))}  (mJ4 : ∀ (x1 : Int32) (x2 : Int32) (x3 : Int32) (h : ea_H), fct (J4 x1 x2 x3 h) (fun f => J4_ f x1 x2 x3 h)) {x1 : Int32} {x2 : Int32} {x3 : Int32} {h : ea_H} : fct (BX8_numberOn_4 J4 x1 x2 x3 h) (fun f => BX8_numberOn_4 (J4_ f) x1 x2 x3 h) :=
  (fct_ite (fct_rfl _) (fct_gd (fct_gd (fct_gd (fct_ite (mJ4 _ _ _ _) (mJ4 _ _ _ _))))))
noncomputable def gX8_numberOn : Nat → (Int32 → ea_H → Option (Int32 × ea_H)) × (Int32 → Int32 → Int32 → ea_H → Option (Int32 × ea_H))
  | 0 => (fun _ _ => none, fun _ _ _ _ => none)
  | f + 1 => (BX8_numberOn_0 (gX8_numberOn f).2, BX8_numberOn_4 (gX8_numberOn f).2)
theorem mgX8_numberOn : ∀ f : Nat, (∀ (x1 : Int32) (h : ea_H), fle ((gX8_numberOn f).1 x1 h) ((gX8_numberOn (f + 1)).1 x1 h)) ∧ (∀ (x1 : Int32) (x2 : Int32) (x3 : Int32) (h : ea_H), fle ((gX8_numberOn f).2 x1 x2 x3 h) ((gX8_numberOn (f + 1)).2 x1 x2 x3 h)) := by
  intro f
  induction f with
  | zero => exact ⟨fun _ _ => fle_none _, fun _ _ _ _ => fle_none _⟩
  | succ f ih => exact ⟨fun _ _ => lBX8_numberOn_0 ih.2, fun _ _ _ _ => lBX8_numberOn_4 ih.2⟩
noncomputable def qX8_numberOn_0 (x1 : Int32) (h : ea_H) : Option (Int32 × ea_H) := flim fun f => (gX8_numberOn f).1 x1 h
noncomputable def qX8_numberOn_4 (x1 : Int32) (x2 : Int32) (x3 : Int32) (h : ea_H) : Option (Int32 × ea_H) := flim fun f => (gX8_numberOn f).2 x1 x2 x3 h
theorem fqX8_numberOn_0 (x1 : Int32) (h : ea_H) : fct (qX8_numberOn_0 x1 h) fun f => (gX8_numberOn f).1 x1 h := flim_ct fun f => (mgX8_numberOn f).1 x1 h
theorem fqX8_numberOn_4 (x1 : Int32) (x2 : Int32) (x3 : Int32) (h : ea_H) : fct (qX8_numberOn_4 x1 x2 x3 h) fun f => (gX8_numberOn f).2 x1 x2 x3 h := flim_ct fun f => (mgX8_numberOn f).2 x1 x2 x3 h
/-- how a block opens -/
theorem uqX8_numberOn_0 {x1 : Int32} {h : ea_H} {P : Int32 × ea_H → Prop} (H : sat (BX8_numberOn_0 qX8_numberOn_4 x1 h) P) : sat (qX8_numberOn_0 x1 h) P := by
  obtain ⟨x, e, hp⟩ := H
  obtain ⟨n, hn⟩ := nBX8_numberOn_0 fqX8_numberOn_4 x e
  exact ⟨x, flim_at (fun f => (mgX8_numberOn f).1 x1 h) (f := n + 1) (hn n (Nat.le_refl _)), hp⟩
/-- how a block opens -/
theorem uqX8_numberOn_4 {x1 : Int32} {x2 : Int32} {x3 : Int32} {h : ea_H} {P : Int32 × ea_H → Prop} (H : sat (BX8_numberOn_4 qX8_numberOn_4 x1 x2 x3 h) P) : sat (qX8_numberOn_4 x1 x2 x3 h) P := by
  obtain ⟨x, e, hp⟩ := H
  obtain ⟨n, hn⟩ := nBX8_numberOn_4 fqX8_numberOn_4 x e
  exact ⟨x, flim_at (fun f => (mgX8_numberOn f).2 x1 x2 x3 h) (f := n + 1) (hn n (Nat.le_refl _)), hp⟩
theorem kgX8_numberOn : ∀ f : Nat, (∀ (x1 : Int32) (h : ea_H), kp (ea_core h) ((gX8_numberOn f).1 x1 h)) ∧ (∀ (x1 : Int32) (x2 : Int32) (x3 : Int32) (h : ea_H), kp (ea_core h) ((gX8_numberOn f).2 x1 x2 x3 h)) := by
  intro f
  induction f with
  | zero => exact ⟨fun _ _ => kp_none _, fun _ _ _ _ => kp_none _⟩
  | succ f ih => exact ⟨fun _ _ => kBX8_numberOn_0 ih.2, fun _ _ _ _ => kBX8_numberOn_4 ih.2⟩
theorem tgX8_numberOn {d : Nat} {h0 : ea_H} (hd : 1 ≤ d) : ∀ f : Nat, (∀ (x1 : Int32) (h : ea_H) (r : Int32) (h' : ea_H), (gX8_numberOn f).1 x1 h = some (r, h') → ShC h → ea_W mX8_numberOn d h0 (some (vI r)) h' 0 [(0, vR (some 23)), (1, vI x1)] [] h) ∧ (∀ (x1 : Int32) (x2 : Int32) (x3 : Int32) (h : ea_H) (r : Int32) (h' : ea_H), (gX8_numberOn f).2 x1 x2 x3 h = some (r, h') → ShC h → ea_W mX8_numberOn d h0 (some (vI r)) h' 4 [(0, vR (some 23)), (1, vI x1), (2, vI x2), (3, vI x3)] [] h) := by
  intro f
  induction f with
  | zero => exact ⟨fun _ _ _ _ E => no_some E, fun _ _ _ _ _ _ E => no_some E⟩
  | succ f ih => exact ⟨fun _ _ _ _ E hs => tBX8_numberOn_0 hd ih.2 E hs, fun _ _ _ _ _ _ E hs => tBX8_numberOn_4 hd ih.2 E hs⟩
noncomputable def qX8_numberOn (x1 : Int32) (h : ea_H) : Option (Int32 × ea_H) := qX8_numberOn_0 x1 h
theorem sX8_numberOn {d : Nat} {x1 : Int32} {h : ea_H} {r : Int32} {h' : ea_H} (hd : 1 ≤ d) (hs : ShC h) (K : qX8_numberOn x1 h = some (r, h')) : ea_Met mX8_numberOn d [vR (some 23), vI x1] h (some (vI r)) h' := by
  unfold qX8_numberOn at K
  obtain ⟨n, hn⟩ := fqX8_numberOn_0 x1 h _ K
  have W := (tgX8_numberOn (d := d) (h0 := h) hd n).1 x1 h _ _ (hn n (Nat.le_refl _)) hs
  exact ea_enter rfl (Nat.le_of_ble_eq_true rfl) W
theorem kpX8_numberOn (x1 : Int32) (h : ea_H) : kp (ea_core h) (qX8_numberOn x1 h) := fun x e => by
  obtain ⟨n, hn⟩ := fqX8_numberOn_0 x1 h x e
  exact (kgX8_numberOn n).1 x1 h x (hn n (Nat.le_refl _))
noncomputable def BX8_isFree_0 (r0 : Option Nat) (r1 : Option Nat) (h : ea_H) : Option (Int32 × ea_H) :=
  (gd (r1 = some (Option.getD r1 0)) (gd (((Option.getD r1 0) < ea_n h ∧ ea_c h (Option.getD r1 0) = 5)) (if (ea_i h (Option.getD r1 0) 0) = (2 : Int32) then (gd (r1 = some (Option.getD r1 0)) (gd (((Option.getD r1 0) < ea_n h ∧ ea_c h (Option.getD r1 0) = 5)) (gd (r0 = some (Option.getD r0 0)) (gd (((Option.getD r0 0) < ea_n h ∧ ea_c h (Option.getD r0 0) = 0)) (if (ea_i h (Option.getD r0 0) 4) ≤ (ea_i h (Option.getD r1 0) 9) then (some ((0 : Int32), h)) else (some ((1 : Int32), h))))))) else (some ((0 : Int32), h)))))
theorem tBX8_isFree_0 {d : Nat} {h0 : ea_H} (hd : 1 ≤ d)  {r0 : Option Nat} {r1 : Option Nat} {h : ea_H} {r : Int32} {h' : ea_H} (E : BX8_isFree_0 r0 r1 h = some (r, h')) : ea_W mX8_isFree d h0 (some (vI r)) h' 0 [(0, vR r0), (1, vR r1)] [] h := by
  unfold BX8_isFree_0 at E
  obtain ⟨e1, E⟩ := gd_some E
  refine ea_aload_n (pc := 0) dX8_isFree_0 rfl 1 rfl ?_
  obtain ⟨f2, E⟩ := gd_some E
  refine ea_deref0 e1 ?_
  refine ea_getI (pc := 1) dX8_isFree_1 ec_5 (k := 0) (Nat.le_of_ble_eq_true rfl) rfl (Or.inl ew_505) f2.1 f2.2 ?_
  refine ea_iconst (pc := 4) dX8_isFree_4 (v := 2) rfl ?_
  refine ea_icmp_ne (pc := 5) (tgt := 23) dX8_isFree_5 rfl (fun c8 => ?_) (fun c8 => ?_)
  · have E := (if_neg c8).symm.trans E
    refine ea_iconst (pc := 23) dX8_isFree_23 (v := 0) rfl ?_
    exact ea_iretO (pc := 24) dX8_isFree_24 rfl (ea_bn (Or.inl rfl)) E
  · have E := (if_pos c8).symm.trans E
    obtain ⟨e3, E⟩ := gd_some E
    refine ea_aload_n (pc := 8) dX8_isFree_8 rfl 1 rfl ?_
    obtain ⟨f4, E⟩ := gd_some E
    obtain ⟨e5, E⟩ := gd_some E
    refine ea_deref0 e3 ?_
    refine ea_getI (pc := 9) dX8_isFree_9 ec_5 (k := 9) (Nat.le_of_ble_eq_true rfl) rfl (Or.inl ew_529) f4.1 f4.2 ?_
    refine ea_aload_n (pc := 12) dX8_isFree_12 rfl 0 rfl ?_
    obtain ⟨f6, E⟩ := gd_some E
    refine ea_deref0 e5 ?_
    refine ea_getI (pc := 13) dX8_isFree_13 ec_0 (k := 4) (Nat.le_of_ble_eq_true rfl) rfl (Or.inl ew_350) f6.1 f6.2 ?_
    refine ea_icmp_ge (pc := 16) (tgt := 23) dX8_isFree_16 rfl (fun c7 => ?_) (fun c7 => ?_)
    · have E := (if_pos c7).symm.trans E
      refine ea_iconst (pc := 23) dX8_isFree_23 (v := 0) rfl ?_
      exact ea_iretO (pc := 24) dX8_isFree_24 rfl (ea_bn (Or.inl rfl)) E
    · have E := (if_neg c7).symm.trans E
      refine ea_iconst (pc := 19) dX8_isFree_19 (v := 1) rfl ?_
      refine ea_goto (pc := 20) (tgt := 24) dX8_isFree_20 rfl ?_
      exact ea_iretO (pc := 24) dX8_isFree_24 rfl (ea_bn (Or.inr rfl)) E
theorem kBX8_isFree_0  {r0 : Option Nat} {r1 : Option Nat} {h : ea_H} : kp (ea_core h) (BX8_isFree_0 r0 r1 h) :=
  (kp_gd (kp_gd (kp_ite (kp_gd (kp_gd (kp_gd (kp_gd (kp_ite (kp_ret rfl) (kp_ret rfl)))))) (kp_ret rfl))))
noncomputable def qX8_isFree (r0 : Option Nat) (r1 : Option Nat) (h : ea_H) : Option (Int32 × ea_H) := BX8_isFree_0 r0 r1 h
theorem sX8_isFree {d : Nat} {r0 : Option Nat} {r1 : Option Nat} {h : ea_H} {r : Int32} {h' : ea_H} (hd : 1 ≤ d) (K : qX8_isFree r0 r1 h = some (r, h')) : ea_Met mX8_isFree d [vR r0, vR r1] h (some (vI r)) h' := by
  unfold qX8_isFree at K
  have W := tBX8_isFree_0 hd (h0 := h) K
  exact ea_enter rfl (Nat.le_of_ble_eq_true rfl) W
theorem kpX8_isFree (r0 : Option Nat) (r1 : Option Nat) (h : ea_H) : kp (ea_core h) (qX8_isFree r0 r1 h) := kBX8_isFree_0
noncomputable def BX8_ask_0 (r1 : Option Nat) (h : ea_H) : Option (Unit × ea_H) :=
  (gd (r1 = some (Option.getD r1 0)) (gd (((Option.getD r1 0) < ea_n h ∧ ea_c h (Option.getD r1 0) = 5)) (gd (vp_in 0 7) (ea_let (ea_wi h 29 (Int32.toNatClampNeg 0) (ea_i h (Option.getD r1 0) 7)) fun H4 => (gd (r1 = some (Option.getD r1 0)) (gd (((Option.getD r1 0) < ea_n H4 ∧ ea_c H4 (Option.getD r1 0) = 5)) (gd (vp_in 1 7) (ea_let (ea_wi H4 29 (Int32.toNatClampNeg 1) (ea_i H4 (Option.getD r1 0) 3)) fun H8 => (gd (r1 = some (Option.getD r1 0)) (gd (((Option.getD r1 0) < ea_n H8 ∧ ea_c H8 (Option.getD r1 0) = 5)) (gd (vp_in 2 7) (ea_let (ea_wi H8 29 (Int32.toNatClampNeg 2) (ea_i H8 (Option.getD r1 0) 4)) fun H12 => (gd (r1 = some (Option.getD r1 0)) (gd (((Option.getD r1 0) < ea_n H12 ∧ ea_c H12 (Option.getD r1 0) = 5)) (gd (vp_in 3 7) (ea_let (ea_wi H12 29 (Int32.toNatClampNeg 3) (((ea_i H12 (Option.getD r1 0) 6) - (ea_i H12 (Option.getD r1 0) 6) / (1440 : Int32) * (1440 : Int32)) / (60 : Int32))) fun H16 => (gd (r1 = some (Option.getD r1 0)) (gd (((Option.getD r1 0) < ea_n H16 ∧ ea_c H16 (Option.getD r1 0) = 5)) (Option.bind (qX5_dayOf (Option.getD r1 0) H16) fun w17 => (gd (vp_in 4 7) (ea_let (ea_wi w17.2 29 (Int32.toNatClampNeg 4) w17.1) fun H21 => (gd (r1 = some (Option.getD r1 0)) (gd (((Option.getD r1 0) < ea_n H21 ∧ ea_c H21 (Option.getD r1 0) = 5)) (gd (vp_in 5 7) (ea_let (ea_wi H21 29 (Int32.toNatClampNeg 5) (ea_i H21 (Option.getD r1 0) 0)) fun H25 => (gd (r1 = some (Option.getD r1 0)) (gd (((Option.getD r1 0) < ea_n H25 ∧ ea_c H25 (Option.getD r1 0) = 5)) (if (ea_i H25 (Option.getD r1 0) 8) = (0 : Int32) then (gd (vp_in 6 7) (ea_let (ea_wi H25 29 (Int32.toNatClampNeg 6) 0) fun H29 => (some ((), H29)))) else (gd (vp_in 6 7) (ea_let (ea_wi H25 29 (Int32.toNatClampNeg 6) 1) fun H31 => (some ((), H31))))))))))))))))))))))))))))))))
theorem tBX8_ask_0 {d : Nat} {h0 : ea_H} (hd : 2 ≤ d)  {r1 : Option Nat} {h : ea_H} {r : Unit} {h' : ea_H} (E : BX8_ask_0 r1 h = some (r, h')) (hs : ShC h) : ea_W mX8_ask d h0 none h' 0 [(0, vR (some 23)), (1, vR r1)] [] h := by
  unfold BX8_ask_0 at E
  obtain ⟨e1, E⟩ := gd_some E
  refine ea_aload_n (pc := 0) dX8_ask_0 rfl 0 rfl ?_
  refine ea_getR (pc := 1) dX8_ask_1 ec_8 (k := 3) (Nat.le_of_ble_eq_true rfl) rfl (Or.inl ew_401) (cShC_23 hs).1 (cShC_23 hs).2.1 (rShC_23_3 hs) ?_
  refine ea_iconst (pc := 4) dX8_ask_4 (v := 0) rfl ?_
  refine ea_aload_n (pc := 5) dX8_ask_5 rfl 1 rfl ?_
  obtain ⟨f2, E⟩ := gd_some E
  obtain ⟨z3, E⟩ := gd_some E
  refine ea_deref0 e1 ?_
  refine ea_getI (pc := 6) dX8_ask_6 ec_5 (k := 7) (Nat.le_of_ble_eq_true rfl) rfl (Or.inl ew_525) f2.1 f2.2 ?_
  obtain ⟨H4, eH4, E⟩ := let_some E
  refine ea_iast (pc := 9) dX8_ask_9 (cShC_29 hs).1 (cShC_29 hs).2.1 (ea_vpl (cShC_29 hs).2.2 z3) ?_
  refine ea_nm eH4 ?_
  have hsH4 : ShC H4 := by rw [eH4]; exact hs
  obtain ⟨e5, E⟩ := gd_some E
  refine ea_aload_n (pc := 10) dX8_ask_10 rfl 0 rfl ?_
  refine ea_getR (pc := 11) dX8_ask_11 ec_8 (k := 3) (Nat.le_of_ble_eq_true rfl) rfl (Or.inl ew_401) (cShC_23 hsH4).1 (cShC_23 hsH4).2.1 (rShC_23_3 hsH4) ?_
  refine ea_iconst (pc := 14) dX8_ask_14 (v := 1) rfl ?_
  refine ea_aload_n (pc := 15) dX8_ask_15 rfl 1 rfl ?_
  obtain ⟨f6, E⟩ := gd_some E
  obtain ⟨z7, E⟩ := gd_some E
  refine ea_deref0 e5 ?_
  refine ea_getI (pc := 16) dX8_ask_16 ec_5 (k := 3) (Nat.le_of_ble_eq_true rfl) rfl (Or.inl ew_514) f6.1 f6.2 ?_
  obtain ⟨H8, eH8, E⟩ := let_some E
  refine ea_iast (pc := 19) dX8_ask_19 (cShC_29 hsH4).1 (cShC_29 hsH4).2.1 (ea_vpl (cShC_29 hsH4).2.2 z7) ?_
  refine ea_nm eH8 ?_
  have hsH8 : ShC H8 := by rw [eH8]; exact hsH4
  obtain ⟨e9, E⟩ := gd_some E
  refine ea_aload_n (pc := 20) dX8_ask_20 rfl 0 rfl ?_
  refine ea_getR (pc := 21) dX8_ask_21 ec_8 (k := 3) (Nat.le_of_ble_eq_true rfl) rfl (Or.inl ew_401) (cShC_23 hsH8).1 (cShC_23 hsH8).2.1 (rShC_23_3 hsH8) ?_
  refine ea_iconst (pc := 24) dX8_ask_24 (v := 2) rfl ?_
  refine ea_aload_n (pc := 25) dX8_ask_25 rfl 1 rfl ?_
  obtain ⟨f10, E⟩ := gd_some E
  obtain ⟨z11, E⟩ := gd_some E
  refine ea_deref0 e9 ?_
  refine ea_getI (pc := 26) dX8_ask_26 ec_5 (k := 4) (Nat.le_of_ble_eq_true rfl) rfl (Or.inl ew_517) f10.1 f10.2 ?_
  obtain ⟨H12, eH12, E⟩ := let_some E
  refine ea_iast (pc := 29) dX8_ask_29 (cShC_29 hsH8).1 (cShC_29 hsH8).2.1 (ea_vpl (cShC_29 hsH8).2.2 z11) ?_
  refine ea_nm eH12 ?_
  have hsH12 : ShC H12 := by rw [eH12]; exact hsH8
  obtain ⟨e13, E⟩ := gd_some E
  refine ea_aload_n (pc := 30) dX8_ask_30 rfl 0 rfl ?_
  refine ea_getR (pc := 31) dX8_ask_31 ec_8 (k := 3) (Nat.le_of_ble_eq_true rfl) rfl (Or.inl ew_401) (cShC_23 hsH12).1 (cShC_23 hsH12).2.1 (rShC_23_3 hsH12) ?_
  refine ea_iconst (pc := 34) dX8_ask_34 (v := 3) rfl ?_
  refine ea_aload_n (pc := 35) dX8_ask_35 rfl 1 rfl ?_
  obtain ⟨f14, E⟩ := gd_some E
  obtain ⟨z15, E⟩ := gd_some E
  refine ea_deref0 e13 ?_
  refine ea_getI (pc := 36) dX8_ask_36 ec_5 (k := 6) (Nat.le_of_ble_eq_true rfl) rfl (Or.inl ew_523) f14.1 f14.2 ?_
  refine ea_sipush (pc := 39) dX8_ask_39 (v := 1440) rfl ?_
  refine ea_irem (pc := 42) dX8_ask_42 (by decide) ?_
  refine ea_bipush (pc := 43) dX8_ask_43 (v := 60) rfl ?_
  refine ea_idiv (pc := 45) dX8_ask_45 (by decide) ?_
  obtain ⟨H16, eH16, E⟩ := let_some E
  refine ea_iast (pc := 46) dX8_ask_46 (cShC_29 hsH12).1 (cShC_29 hsH12).2.1 (ea_vpl (cShC_29 hsH12).2.2 z15) ?_
  refine ea_nm eH16 ?_
  have hsH16 : ShC H16 := by rw [eH16]; exact hsH12
  obtain ⟨e18, E⟩ := gd_some E
  refine ea_aload_n (pc := 47) dX8_ask_47 rfl 0 rfl ?_
  refine ea_getR (pc := 48) dX8_ask_48 ec_8 (k := 3) (Nat.le_of_ble_eq_true rfl) rfl (Or.inl ew_401) (cShC_23 hsH16).1 (cShC_23 hsH16).2.1 (rShC_23_3 hsH16) ?_
  refine ea_iconst (pc := 51) dX8_ask_51 (v := 4) rfl ?_
  refine ea_aload_n (pc := 52) dX8_ask_52 rfl 1 rfl ?_
  obtain ⟨f19, E⟩ := gd_some E
  obtain ⟨w17, Ew17, E⟩ := bd_some E
  have hsw17 : ShC w17.2 := ShC_core ((kpX5_dayOf _ _) _ Ew17) hsH16
  refine ea_deref0 e18 ?_
  refine ea_callV (pc := 53) (d' := d - 1) (As := []) (st := [vI 4, vR (some 29)]) dX8_ask_53 kX5_dayOf (sX5_dayOf (d := d - 1) (by omega) Ew17) (by omega) rfl (Nat.le_of_ble_eq_true rfl) ew_1090 ew_1083 ew_1084 (ci := 5) rfl (by decide) f19.1 f19.2 ?_
  obtain ⟨z20, E⟩ := gd_some E
  obtain ⟨H21, eH21, E⟩ := let_some E
  refine ea_iast (pc := 56) dX8_ask_56 (cShC_29 hsw17).1 (cShC_29 hsw17).2.1 (ea_vpl (cShC_29 hsw17).2.2 z20) ?_
  refine ea_nm eH21 ?_
  have hsH21 : ShC H21 := by rw [eH21]; exact hsw17
  obtain ⟨e22, E⟩ := gd_some E
  refine ea_aload_n (pc := 57) dX8_ask_57 rfl 0 rfl ?_
  refine ea_getR (pc := 58) dX8_ask_58 ec_8 (k := 3) (Nat.le_of_ble_eq_true rfl) rfl (Or.inl ew_401) (cShC_23 hsH21).1 (cShC_23 hsH21).2.1 (rShC_23_3 hsH21) ?_
  refine ea_iconst (pc := 61) dX8_ask_61 (v := 5) rfl ?_
  refine ea_aload_n (pc := 62) dX8_ask_62 rfl 1 rfl ?_
  obtain ⟨f23, E⟩ := gd_some E
  obtain ⟨z24, E⟩ := gd_some E
  refine ea_deref0 e22 ?_
  refine ea_getI (pc := 63) dX8_ask_63 ec_5 (k := 0) (Nat.le_of_ble_eq_true rfl) rfl (Or.inl ew_505) f23.1 f23.2 ?_
  obtain ⟨H25, eH25, E⟩ := let_some E
  refine ea_iast (pc := 66) dX8_ask_66 (cShC_29 hsH21).1 (cShC_29 hsH21).2.1 (ea_vpl (cShC_29 hsH21).2.2 z24) ?_
  refine ea_nm eH25 ?_
  have hsH25 : ShC H25 := by rw [eH25]; exact hsH21
  obtain ⟨e26, E⟩ := gd_some E
  refine ea_aload_n (pc := 67) dX8_ask_67 rfl 0 rfl ?_
  refine ea_getR (pc := 68) dX8_ask_68 ec_8 (k := 3) (Nat.le_of_ble_eq_true rfl) rfl (Or.inl ew_401) (cShC_23 hsH25).1 (cShC_23 hsH25).2.1 (rShC_23_3 hsH25) ?_
  refine ea_bipush (pc := 71) dX8_ask_71 (v := 6) rfl ?_
  refine ea_aload_n (pc := 73) dX8_ask_73 rfl 1 rfl ?_
  obtain ⟨f27, E⟩ := gd_some E
  refine ea_deref0 e26 ?_
  refine ea_getI (pc := 74) dX8_ask_74 ec_5 (k := 8) (Nat.le_of_ble_eq_true rfl) rfl (Or.inl ew_527) f27.1 f27.2 ?_
  refine ea_if_eq (pc := 77) (tgt := 84) dX8_ask_77 rfl (fun c32 => ?_) (fun c32 => ?_)
  · have E := (if_pos c32).symm.trans E
    obtain ⟨z28, E⟩ := gd_some E
    refine ea_iconst (pc := 84) dX8_ask_84 (v := 0) rfl ?_
    obtain ⟨H29, eH29, E⟩ := let_some E
    refine ea_iast (pc := 85) dX8_ask_85 (cShC_29 hsH25).1 (cShC_29 hsH25).2.1 (ea_vpl (cShC_29 hsH25).2.2 z28) ?_
    refine ea_nm eH29 ?_
    have hsH29 : ShC H29 := by rw [eH29]; exact hsH25
    exact ea_vretO (pc := 86) dX8_ask_86 rfl E
  · have E := (if_neg c32).symm.trans E
    obtain ⟨z30, E⟩ := gd_some E
    refine ea_iconst (pc := 80) dX8_ask_80 (v := 1) rfl ?_
    refine ea_goto (pc := 81) (tgt := 85) dX8_ask_81 rfl ?_
    obtain ⟨H31, eH31, E⟩ := let_some E
    refine ea_iast (pc := 85) dX8_ask_85 (cShC_29 hsH25).1 (cShC_29 hsH25).2.1 (ea_vpl (cShC_29 hsH25).2.2 z30) ?_
    refine ea_nm eH31 ?_
    have hsH31 : ShC H31 := by rw [eH31]; exact hsH25
    exact ea_vretO (pc := 86) dX8_ask_86 rfl E
theorem kBX8_ask_0  {r1 : Option Nat} {h : ea_H} : kp (ea_core h) (BX8_ask_0 r1 h) :=
  (kp_gd (kp_gd (kp_gd (kp_let (kp_gd (kp_gd (kp_gd (kp_let (kp_gd (kp_gd (kp_gd (kp_let (kp_gd (kp_gd (kp_gd (kp_let (kp_gd (kp_gd (kp_bind (kp_tw (kpX5_dayOf _ _) rfl) fun w17 hcw17 => (kp_gd (kp_let (kp_gd (kp_gd (kp_gd (kp_let (kp_gd (kp_gd (kp_ite (kp_gd (kp_let (kp_ret hcw17))) (kp_gd (kp_let (kp_ret hcw17)))))))))))))))))))))))))))))))
noncomputable def qX8_ask (r1 : Option Nat) (h : ea_H) : Option (Unit × ea_H) := BX8_ask_0 r1 h
theorem sX8_ask {d : Nat} {r1 : Option Nat} {h : ea_H} {r : Unit} {h' : ea_H} (hd : 2 ≤ d) (hs : ShC h) (K : qX8_ask r1 h = some (r, h')) : ea_Met mX8_ask d [vR (some 23), vR r1] h none h' := by
  unfold qX8_ask at K
  have W := tBX8_ask_0 hd (h0 := h) K hs
  exact ea_enter rfl (Nat.le_of_ble_eq_true rfl) W
theorem kpX8_ask (r1 : Option Nat) (h : ea_H) : kp (ea_core h) (qX8_ask r1 h) := kBX8_ask_0
noncomputable def BX8_joined_0 (x0 : Int32) (x1 : Int32) (x2 : Int32) (h : ea_H) : Option (Int32 × ea_H) :=
  (if Int32.toInt x0 = -19 then (some ((x1 ||| x2), h)) else (if Int32.toInt x0 = -18 then (some ((x1 &&& x2), h)) else (if Int32.toInt x0 = -17 then (some ((0 : Int32), h)) else (if Int32.toInt x0 = -16 then (if x1 ≤ x2 then (some ((0 : Int32), h)) else (some ((1 : Int32), h))) else (if Int32.toInt x0 = -15 then (if x1 = x2 then (some ((1 : Int32), h)) else (some ((0 : Int32), h))) else (if Int32.toInt x0 = -14 then (if x2 ≤ x1 then (some ((0 : Int32), h)) else (some ((1 : Int32), h))) else (if Int32.toInt x0 = -13 then (if x2 = (0 : Int32) then (some ((0 : Int32), h)) else (gd ((¬ x2 = 0)) (some ((x1 / x2), h)))) else (if Int32.toInt x0 = -12 then (some ((x1 * x2), h)) else (if Int32.toInt x0 = -11 then (some ((x1 - x2), h)) else (if Int32.toInt x0 = -10 then (some ((x1 + x2), h)) else (some ((0 : Int32), h))))))))))))
theorem tBX8_joined_0 {d : Nat} {h0 : ea_H} (hd : 1 ≤ d)  {x0 : Int32} {x1 : Int32} {x2 : Int32} {h : ea_H} {r : Int32} {h' : ea_H} (E : BX8_joined_0 x0 x1 x2 h = some (r, h')) : ea_W mX8_joined d h0 (some (vI r)) h' 0 [(0, vI x0), (1, vI x1), (2, vI x2)] [] h := by
  unfold BX8_joined_0 at E
  refine ea_iload_n (pc := 0) dX8_joined_0 rfl 0 rfl ?_
  by_cases q1_0 : Int32.toInt x0 = -19
  · have E := (if_pos q1_0).symm.trans E
    refine ea_tswIn (pc := 1) (tgt := 117) dX8_joined_1 (by rw [q1_0]; decide) (by rw [q1_0]; decide) (by rw [q1_0]; rfl) rfl ?_
    refine ea_iload_n (pc := 117) dX8_joined_117 rfl 1 rfl ?_
    refine ea_iload_n (pc := 118) dX8_joined_118 rfl 2 rfl ?_
    refine ea_ior (pc := 119) dX8_joined_119 ?_
    exact ea_iretO (pc := 120) dX8_joined_120 rfl rfl E
  have E := (if_neg q1_0).symm.trans E
  by_cases q1_1 : Int32.toInt x0 = -18
  · have E := (if_pos q1_1).symm.trans E
    refine ea_tswIn (pc := 1) (tgt := 113) dX8_joined_1 (by rw [q1_1]; decide) (by rw [q1_1]; decide) (by rw [q1_1]; rfl) rfl ?_
    refine ea_iload_n (pc := 113) dX8_joined_113 rfl 1 rfl ?_
    refine ea_iload_n (pc := 114) dX8_joined_114 rfl 2 rfl ?_
    refine ea_iand (pc := 115) dX8_joined_115 ?_
    exact ea_iretO (pc := 116) dX8_joined_116 rfl rfl E
  have E := (if_neg q1_1).symm.trans E
  by_cases q1_2 : Int32.toInt x0 = -17
  · have E := (if_pos q1_2).symm.trans E
    refine ea_tswIn (pc := 1) (tgt := 121) dX8_joined_1 (by rw [q1_2]; decide) (by rw [q1_2]; decide) (by rw [q1_2]; rfl) rfl ?_
    refine ea_iconst (pc := 121) dX8_joined_121 (v := 0) rfl ?_
    exact ea_iretO (pc := 122) dX8_joined_122 rfl rfl E
  have E := (if_neg q1_2).symm.trans E
  by_cases q1_3 : Int32.toInt x0 = -16
  · have E := (if_pos q1_3).symm.trans E
    refine ea_tswIn (pc := 1) (tgt := 102) dX8_joined_1 (by rw [q1_3]; decide) (by rw [q1_3]; decide) (by rw [q1_3]; rfl) rfl ?_
    refine ea_iload_n (pc := 102) dX8_joined_102 rfl 1 rfl ?_
    refine ea_iload_n (pc := 103) dX8_joined_103 rfl 2 rfl ?_
    refine ea_icmp_le (pc := 104) (tgt := 111) dX8_joined_104 rfl (fun c5 => ?_) (fun c5 => ?_)
    · have E := (if_pos c5).symm.trans E
      refine ea_iconst (pc := 111) dX8_joined_111 (v := 0) rfl ?_
      exact ea_iretO (pc := 112) dX8_joined_112 rfl rfl E
    · have E := (if_neg c5).symm.trans E
      refine ea_iconst (pc := 107) dX8_joined_107 (v := 1) rfl ?_
      refine ea_goto (pc := 108) (tgt := 112) dX8_joined_108 rfl ?_
      exact ea_iretO (pc := 112) dX8_joined_112 rfl rfl E
  have E := (if_neg q1_3).symm.trans E
  by_cases q1_4 : Int32.toInt x0 = -15
  · have E := (if_pos q1_4).symm.trans E
    refine ea_tswIn (pc := 1) (tgt := 91) dX8_joined_1 (by rw [q1_4]; decide) (by rw [q1_4]; decide) (by rw [q1_4]; rfl) rfl ?_
    refine ea_iload_n (pc := 91) dX8_joined_91 rfl 1 rfl ?_
    refine ea_iload_n (pc := 92) dX8_joined_92 rfl 2 rfl ?_
    refine ea_icmp_ne (pc := 93) (tgt := 100) dX8_joined_93 rfl (fun c4 => ?_) (fun c4 => ?_)
    · have E := (if_neg c4).symm.trans E
      refine ea_iconst (pc := 100) dX8_joined_100 (v := 0) rfl ?_
      exact ea_iretO (pc := 101) dX8_joined_101 rfl rfl E
    · have E := (if_pos c4).symm.trans E
      refine ea_iconst (pc := 96) dX8_joined_96 (v := 1) rfl ?_
      refine ea_goto (pc := 97) (tgt := 101) dX8_joined_97 rfl ?_
      exact ea_iretO (pc := 101) dX8_joined_101 rfl rfl E
  have E := (if_neg q1_4).symm.trans E
  by_cases q1_5 : Int32.toInt x0 = -14
  · have E := (if_pos q1_5).symm.trans E
    refine ea_tswIn (pc := 1) (tgt := 80) dX8_joined_1 (by rw [q1_5]; decide) (by rw [q1_5]; decide) (by rw [q1_5]; rfl) rfl ?_
    refine ea_iload_n (pc := 80) dX8_joined_80 rfl 1 rfl ?_
    refine ea_iload_n (pc := 81) dX8_joined_81 rfl 2 rfl ?_
    refine ea_icmp_ge (pc := 82) (tgt := 89) dX8_joined_82 rfl (fun c3 => ?_) (fun c3 => ?_)
    · have E := (if_pos c3).symm.trans E
      refine ea_iconst (pc := 89) dX8_joined_89 (v := 0) rfl ?_
      exact ea_iretO (pc := 90) dX8_joined_90 rfl rfl E
    · have E := (if_neg c3).symm.trans E
      refine ea_iconst (pc := 85) dX8_joined_85 (v := 1) rfl ?_
      refine ea_goto (pc := 86) (tgt := 90) dX8_joined_86 rfl ?_
      exact ea_iretO (pc := 90) dX8_joined_90 rfl rfl E
  have E := (if_neg q1_5).symm.trans E
  by_cases q1_6 : Int32.toInt x0 = -13
  · have E := (if_pos q1_6).symm.trans E
    refine ea_tswIn (pc := 1) (tgt := 68) dX8_joined_1 (by rw [q1_6]; decide) (by rw [q1_6]; decide) (by rw [q1_6]; rfl) rfl ?_
    refine ea_iload_n (pc := 68) dX8_joined_68 rfl 2 rfl ?_
    refine ea_if_ne (pc := 69) (tgt := 76) dX8_joined_69 rfl (fun c2 => ?_) (fun c2 => ?_)
    · have E := (if_neg c2).symm.trans E
      obtain ⟨z1, E⟩ := gd_some E
      refine ea_iload_n (pc := 76) dX8_joined_76 rfl 1 rfl ?_
      refine ea_iload_n (pc := 77) dX8_joined_77 rfl 2 rfl ?_
      refine ea_idiv (pc := 78) dX8_joined_78 z1 ?_
      exact ea_iretO (pc := 79) dX8_joined_79 rfl rfl E
    · have E := (if_pos c2).symm.trans E
      refine ea_iconst (pc := 72) dX8_joined_72 (v := 0) rfl ?_
      refine ea_goto (pc := 73) (tgt := 79) dX8_joined_73 rfl ?_
      exact ea_iretO (pc := 79) dX8_joined_79 rfl rfl E
  have E := (if_neg q1_6).symm.trans E
  by_cases q1_7 : Int32.toInt x0 = -12
  · have E := (if_pos q1_7).symm.trans E
    refine ea_tswIn (pc := 1) (tgt := 64) dX8_joined_1 (by rw [q1_7]; decide) (by rw [q1_7]; decide) (by rw [q1_7]; rfl) rfl ?_
    refine ea_iload_n (pc := 64) dX8_joined_64 rfl 1 rfl ?_
    refine ea_iload_n (pc := 65) dX8_joined_65 rfl 2 rfl ?_
    refine ea_imul (pc := 66) dX8_joined_66 ?_
    exact ea_iretO (pc := 67) dX8_joined_67 rfl rfl E
  have E := (if_neg q1_7).symm.trans E
  by_cases q1_8 : Int32.toInt x0 = -11
  · have E := (if_pos q1_8).symm.trans E
    refine ea_tswIn (pc := 1) (tgt := 60) dX8_joined_1 (by rw [q1_8]; decide) (by rw [q1_8]; decide) (by rw [q1_8]; rfl) rfl ?_
    refine ea_iload_n (pc := 60) dX8_joined_60 rfl 1 rfl ?_
    refine ea_iload_n (pc := 61) dX8_joined_61 rfl 2 rfl ?_
    refine ea_isub (pc := 62) dX8_joined_62 ?_
    exact ea_iretO (pc := 63) dX8_joined_63 rfl rfl E
  have E := (if_neg q1_8).symm.trans E
  by_cases q1_9 : Int32.toInt x0 = -10
  · have E := (if_pos q1_9).symm.trans E
    refine ea_tswIn (pc := 1) (tgt := 56) dX8_joined_1 (by rw [q1_9]; decide) (by rw [q1_9]; decide) (by rw [q1_9]; rfl) rfl ?_
    refine ea_iload_n (pc := 56) dX8_joined_56 rfl 1 rfl ?_
    refine ea_iload_n (pc := 57) dX8_joined_57 rfl 2 rfl ?_
    refine ea_iadd (pc := 58) dX8_joined_58 ?_
    exact ea_iretO (pc := 59) dX8_joined_59 rfl rfl E
  have E := (if_neg q1_9).symm.trans E
  refine ea_tswOut (pc := 1) (tgt := 121) dX8_joined_1 (ea_sw_m19_m10 q1_0 q1_1 q1_2 q1_3 q1_4 q1_5 q1_6 q1_7 q1_8 q1_9) rfl ?_
  refine ea_iconst (pc := 121) dX8_joined_121 (v := 0) rfl ?_
  exact ea_iretO (pc := 122) dX8_joined_122 rfl rfl E
theorem kBX8_joined_0  {x0 : Int32} {x1 : Int32} {x2 : Int32} {h : ea_H} : kp (ea_core h) (BX8_joined_0 x0 x1 x2 h) :=
  (kp_ite (kp_ret rfl) (kp_ite (kp_ret rfl) (kp_ite (kp_ret rfl) (kp_ite (kp_ite (kp_ret rfl) (kp_ret rfl)) (kp_ite (kp_ite (kp_ret rfl) (kp_ret rfl)) (kp_ite (kp_ite (kp_ret rfl) (kp_ret rfl)) (kp_ite (kp_ite (kp_ret rfl) (kp_gd (kp_ret rfl))) (kp_ite (kp_ret rfl) (kp_ite (kp_ret rfl) (kp_ite (kp_ret rfl) (kp_ret rfl)))))))))))
noncomputable def qX8_joined (x0 : Int32) (x1 : Int32) (x2 : Int32) (h : ea_H) : Option (Int32 × ea_H) := BX8_joined_0 x0 x1 x2 h
theorem sX8_joined {d : Nat} {x0 : Int32} {x1 : Int32} {x2 : Int32} {h : ea_H} {r : Int32} {h' : ea_H} (hd : 1 ≤ d) (K : qX8_joined x0 x1 x2 h = some (r, h')) : ea_Met mX8_joined d [vI x0, vI x1, vI x2] h (some (vI r)) h' := by
  unfold qX8_joined at K
  have W := tBX8_joined_0 hd (h0 := h) K
  exact ea_enter rfl (Nat.le_of_ble_eq_true rfl) W
theorem kpX8_joined (x0 : Int32) (x1 : Int32) (x2 : Int32) (h : ea_H) : kp (ea_core h) (qX8_joined x0 x1 x2 h) := kBX8_joined_0
noncomputable def BX9_init_0 (a0 : Nat) (h : ea_H) : Option (Unit × ea_H) :=
  (ea_let (ea_new h 20 10 10) fun H1 => (gd ((a0 < ea_n H1 ∧ ea_c H1 a0 = 9)) (ea_let (ea_wr H1 a0 1 (some (ea_n h))) fun H3 => (ea_let (ea_new H3 20 80 80) fun H4 => (gd ((a0 < ea_n H4 ∧ ea_c H4 a0 = 9)) (ea_let (ea_wr H4 a0 2 (some (ea_n H3))) fun H6 => (ea_let (ea_new H6 20 80 80) fun H7 => (gd ((a0 < ea_n H7 ∧ ea_c H7 a0 = 9)) (ea_let (ea_wr H7 a0 3 (some (ea_n H6))) fun H9 => (ea_let (ea_new H9 20 80 80) fun H10 => (gd ((a0 < ea_n H10 ∧ ea_c H10 a0 = 9)) (ea_let (ea_wr H10 a0 4 (some (ea_n H9))) fun H12 => (ea_let (ea_new H12 21 80 80) fun H13 => (gd ((a0 < ea_n H13 ∧ ea_c H13 a0 = 9)) (ea_let (ea_wr H13 a0 5 (some (ea_n H12))) fun H15 => (ea_let (ea_new H15 20 70 70) fun H16 => (gd ((a0 < ea_n H16 ∧ ea_c H16 a0 = 9)) (ea_let (ea_wr H16 a0 6 (some (ea_n H15))) fun H18 => (ea_let (ea_new H18 20 70 70) fun H19 => (gd ((a0 < ea_n H19 ∧ ea_c H19 a0 = 9)) (ea_let (ea_wr H19 a0 7 (some (ea_n H18))) fun H21 => (some ((), H21)))))))))))))))))))))))
theorem tBX9_init_0 {d : Nat} {a0 : Nat} {h0 : ea_H} (hd : 2 ≤ d)  {h : ea_H} {r : Unit} {h' : ea_H} (E : BX9_init_0 a0 h = some (r, h')) : ea_W mX9_init d h0 none h' 0 [(0, vR (some a0))] [] h := by
  unfold BX9_init_0 at E
  obtain ⟨H1, eH1, E⟩ := let_some E
  refine ea_aload_n (pc := 0) dX9_init_0 rfl 0 rfl ?_
  refine ea_objInit (pc := 1) dX9_init_1 ew_183 ew_141 ew_142 (by omega) (Nat.le_of_ble_eq_true rfl) ?_
  refine ea_aload_n (pc := 4) dX9_init_4 rfl 0 rfl ?_
  refine ea_bipush (pc := 5) dX9_init_5 (v := 10) rfl ?_
  refine ea_newI (pc := 7) (N := 10) dX9_init_7 ew_177 (by decide) rfl (Nat.le_of_ble_eq_true rfl) ?_
  refine ea_nm eH1 ?_
  obtain ⟨f2, E⟩ := gd_some E
  obtain ⟨H3, eH3, E⟩ := let_some E
  refine ea_putR (pc := 9) dX9_init_9 ec_9 (k := 1) (Nat.le_of_ble_eq_true rfl) rfl (Or.inr ⟨rfl, rfl, rfl, ew_187⟩) f2.1 f2.2 ?_
  refine ea_nm eH3 ?_
  obtain ⟨H4, eH4, E⟩ := let_some E
  refine ea_aload_n (pc := 12) dX9_init_12 rfl 0 rfl ?_
  refine ea_bipush (pc := 13) dX9_init_13 (v := 80) rfl ?_
  refine ea_newI (pc := 15) (N := 80) dX9_init_15 ew_177 (by decide) rfl (Nat.le_of_ble_eq_true rfl) ?_
  refine ea_nm eH4 ?_
  obtain ⟨f5, E⟩ := gd_some E
  obtain ⟨H6, eH6, E⟩ := let_some E
  refine ea_putR (pc := 17) dX9_init_17 ec_9 (k := 2) (Nat.le_of_ble_eq_true rfl) rfl (Or.inr ⟨rfl, rfl, rfl, ew_191⟩) f5.1 f5.2 ?_
  refine ea_nm eH6 ?_
  obtain ⟨H7, eH7, E⟩ := let_some E
  refine ea_aload_n (pc := 20) dX9_init_20 rfl 0 rfl ?_
  refine ea_bipush (pc := 21) dX9_init_21 (v := 80) rfl ?_
  refine ea_newI (pc := 23) (N := 80) dX9_init_23 ew_177 (by decide) rfl (Nat.le_of_ble_eq_true rfl) ?_
  refine ea_nm eH7 ?_
  obtain ⟨f8, E⟩ := gd_some E
  obtain ⟨H9, eH9, E⟩ := let_some E
  refine ea_putR (pc := 25) dX9_init_25 ec_9 (k := 3) (Nat.le_of_ble_eq_true rfl) rfl (Or.inr ⟨rfl, rfl, rfl, ew_196⟩) f8.1 f8.2 ?_
  refine ea_nm eH9 ?_
  obtain ⟨H10, eH10, E⟩ := let_some E
  refine ea_aload_n (pc := 28) dX9_init_28 rfl 0 rfl ?_
  refine ea_bipush (pc := 29) dX9_init_29 (v := 80) rfl ?_
  refine ea_newI (pc := 31) (N := 80) dX9_init_31 ew_177 (by decide) rfl (Nat.le_of_ble_eq_true rfl) ?_
  refine ea_nm eH10 ?_
  obtain ⟨f11, E⟩ := gd_some E
  obtain ⟨H12, eH12, E⟩ := let_some E
  refine ea_putR (pc := 33) dX9_init_33 ec_9 (k := 4) (Nat.le_of_ble_eq_true rfl) rfl (Or.inr ⟨rfl, rfl, rfl, ew_199⟩) f11.1 f11.2 ?_
  refine ea_nm eH12 ?_
  obtain ⟨H13, eH13, E⟩ := let_some E
  refine ea_aload_n (pc := 36) dX9_init_36 rfl 0 rfl ?_
  refine ea_bipush (pc := 37) dX9_init_37 (v := 80) rfl ?_
  refine ea_newZ (pc := 39) (N := 80) dX9_init_39 ew_225 (by decide) rfl (Nat.le_of_ble_eq_true rfl) ?_
  refine ea_nm eH13 ?_
  obtain ⟨f14, E⟩ := gd_some E
  obtain ⟨H15, eH15, E⟩ := let_some E
  refine ea_putR (pc := 41) dX9_init_41 ec_9 (k := 5) (Nat.le_of_ble_eq_true rfl) rfl (Or.inr ⟨rfl, rfl, rfl, ew_202⟩) f14.1 f14.2 ?_
  refine ea_nm eH15 ?_
  obtain ⟨H16, eH16, E⟩ := let_some E
  refine ea_aload_n (pc := 44) dX9_init_44 rfl 0 rfl ?_
  refine ea_bipush (pc := 45) dX9_init_45 (v := 70) rfl ?_
  refine ea_newI (pc := 47) (N := 70) dX9_init_47 ew_177 (by decide) rfl (Nat.le_of_ble_eq_true rfl) ?_
  refine ea_nm eH16 ?_
  obtain ⟨f17, E⟩ := gd_some E
  obtain ⟨H18, eH18, E⟩ := let_some E
  refine ea_putR (pc := 49) dX9_init_49 ec_9 (k := 6) (Nat.le_of_ble_eq_true rfl) rfl (Or.inr ⟨rfl, rfl, rfl, ew_204⟩) f17.1 f17.2 ?_
  refine ea_nm eH18 ?_
  obtain ⟨H19, eH19, E⟩ := let_some E
  refine ea_aload_n (pc := 52) dX9_init_52 rfl 0 rfl ?_
  refine ea_bipush (pc := 53) dX9_init_53 (v := 70) rfl ?_
  refine ea_newI (pc := 55) (N := 70) dX9_init_55 ew_177 (by decide) rfl (Nat.le_of_ble_eq_true rfl) ?_
  refine ea_nm eH19 ?_
  obtain ⟨f20, E⟩ := gd_some E
  obtain ⟨H21, eH21, E⟩ := let_some E
  refine ea_putR (pc := 57) dX9_init_57 ec_9 (k := 7) (Nat.le_of_ble_eq_true rfl) rfl (Or.inr ⟨rfl, rfl, rfl, ew_206⟩) f20.1 f20.2 ?_
  refine ea_nm eH21 ?_
  exact ea_vretO (pc := 60) dX9_init_60 rfl E
noncomputable def qX9_init (a0 : Nat) (h : ea_H) : Option (Unit × ea_H) := BX9_init_0 a0 h
theorem sX9_init {d : Nat} {a0 : Nat} {h : ea_H} {r : Unit} {h' : ea_H} (hd : 2 ≤ d) (K : qX9_init a0 h = some (r, h')) : ea_Met mX9_init d [vR (some a0)] h none h' := by
  unfold qX9_init at K
  have W := tBX9_init_0 hd (h0 := h) K
  exact ea_enter rfl (Nat.le_of_ble_eq_true rfl) W
noncomputable def BX9_has_0 (x1 : Int32) (h : ea_H) : Option (Int32 × ea_H) :=
  (if x1 < (0 : Int32) then (some ((0 : Int32), h)) else (if (ea_i h 5 0) ≤ x1 then (some ((0 : Int32), h)) else (some ((1 : Int32), h))))
theorem tBX9_has_0 {d : Nat} {h0 : ea_H} (hd : 1 ≤ d)  {x1 : Int32} {h : ea_H} {r : Int32} {h' : ea_H} (E : BX9_has_0 x1 h = some (r, h')) (hs : ShC h) : ea_W mX9_has d h0 (some (vI r)) h' 0 [(0, vR (some 5)), (1, vI x1)] [] h := by
  unfold BX9_has_0 at E
  refine ea_iload_n (pc := 0) dX9_has_0 rfl 1 rfl ?_
  refine ea_if_lt (pc := 1) (tgt := 16) dX9_has_1 rfl (fun c2 => ?_) (fun c2 => ?_)
  · have E := (if_pos c2).symm.trans E
    refine ea_iconst (pc := 16) dX9_has_16 (v := 0) rfl ?_
    exact ea_iretO (pc := 17) dX9_has_17 rfl (ea_bn (Or.inl rfl)) E
  · have E := (if_neg c2).symm.trans E
    refine ea_iload_n (pc := 4) dX9_has_4 rfl 1 rfl ?_
    refine ea_aload_n (pc := 5) dX9_has_5 rfl 0 rfl ?_
    refine ea_getI (pc := 6) dX9_has_6 ec_9 (k := 0) (Nat.le_of_ble_eq_true rfl) rfl (Or.inl ew_184) (cShC_5 hs).1 (cShC_5 hs).2.1 ?_
    refine ea_icmp_ge (pc := 9) (tgt := 16) dX9_has_9 rfl (fun c1 => ?_) (fun c1 => ?_)
    · have E := (if_pos c1).symm.trans E
      refine ea_iconst (pc := 16) dX9_has_16 (v := 0) rfl ?_
      exact ea_iretO (pc := 17) dX9_has_17 rfl (ea_bn (Or.inl rfl)) E
    · have E := (if_neg c1).symm.trans E
      refine ea_iconst (pc := 12) dX9_has_12 (v := 1) rfl ?_
      refine ea_goto (pc := 13) (tgt := 17) dX9_has_13 rfl ?_
      exact ea_iretO (pc := 17) dX9_has_17 rfl (ea_bn (Or.inr rfl)) E
theorem kBX9_has_0  {x1 : Int32} {h : ea_H} : kp (ea_core h) (BX9_has_0 x1 h) :=
  (kp_ite (kp_ret rfl) (kp_ite (kp_ret rfl) (kp_ret rfl)))
noncomputable def qX9_has (x1 : Int32) (h : ea_H) : Option (Int32 × ea_H) := BX9_has_0 x1 h
theorem sX9_has {d : Nat} {x1 : Int32} {h : ea_H} {r : Int32} {h' : ea_H} (hd : 1 ≤ d) (hs : ShC h) (K : qX9_has x1 h = some (r, h')) : ea_Met mX9_has d [vR (some 5), vI x1] h (some (vI r)) h' := by
  unfold qX9_has at K
  have W := tBX9_has_0 hd (h0 := h) K hs
  exact ea_enter rfl (Nat.le_of_ble_eq_true rfl) W
theorem kpX9_has (x1 : Int32) (h : ea_H) : kp (ea_core h) (qX9_has x1 h) := kBX9_has_0
noncomputable def BX9_hasRun_0 (x1 : Int32) (x2 : Int32) (h : ea_H) : Option (Int32 × ea_H) :=
  (Option.bind (qX9_has (x1 : Int32) h) fun w1 => (if w1.1 = (0 : Int32) then (some ((0 : Int32), w1.2)) else (if x2 < (0 : Int32) then (some ((0 : Int32), w1.2)) else (if (7 : Int32) ≤ x2 then (some ((0 : Int32), w1.2)) else (some ((1 : Int32), w1.2))))))
theorem tBX9_hasRun_0 {d : Nat} {h0 : ea_H} (hd : 2 ≤ d)  {x1 : Int32} {x2 : Int32} {h : ea_H} {r : Int32} {h' : ea_H} (E : BX9_hasRun_0 x1 x2 h = some (r, h')) (hs : ShC h) : ea_W mX9_hasRun d h0 (some (vI r)) h' 0 [(0, vR (some 5)), (1, vI x1), (2, vI x2)] [] h := by
  unfold BX9_hasRun_0 at E
  obtain ⟨w1, Ew1, E⟩ := bd_some E
  have hsw1 : ShC w1.2 := ShC_core ((kpX9_has _ _) _ Ew1) hs
  refine ea_aload_n (pc := 0) dX9_hasRun_0 rfl 0 rfl ?_
  refine ea_iload_n (pc := 1) dX9_hasRun_1 rfl 1 rfl ?_
  refine ea_callV (pc := 2) (d' := d - 1) (As := [vI x1]) (st := []) dX9_hasRun_2 kX9_has (sX9_has (d := d - 1) (by omega) hs Ew1) (by omega) rfl (Nat.le_of_ble_eq_true rfl) ew_732 ew_705 ew_706 (ci := 9) rfl (by decide) (cShC_5 hs).1 (cShC_5 hs).2.1 ?_
  refine ea_if_eq (pc := 5) (tgt := 22) dX9_hasRun_5 rfl (fun c4 => ?_) (fun c4 => ?_)
  · have E := (if_pos c4).symm.trans E
    refine ea_iconst (pc := 22) dX9_hasRun_22 (v := 0) rfl ?_
    exact ea_iretO (pc := 23) dX9_hasRun_23 rfl (ea_bn (Or.inl rfl)) E
  · have E := (if_neg c4).symm.trans E
    refine ea_iload_n (pc := 8) dX9_hasRun_8 rfl 2 rfl ?_
    refine ea_if_lt (pc := 9) (tgt := 22) dX9_hasRun_9 rfl (fun c3 => ?_) (fun c3 => ?_)
    · have E := (if_pos c3).symm.trans E
      refine ea_iconst (pc := 22) dX9_hasRun_22 (v := 0) rfl ?_
      exact ea_iretO (pc := 23) dX9_hasRun_23 rfl (ea_bn (Or.inl rfl)) E
    · have E := (if_neg c3).symm.trans E
      refine ea_iload_n (pc := 12) dX9_hasRun_12 rfl 2 rfl ?_
      refine ea_bipush (pc := 13) dX9_hasRun_13 (v := 7) rfl ?_
      refine ea_icmp_ge (pc := 15) (tgt := 22) dX9_hasRun_15 rfl (fun c2 => ?_) (fun c2 => ?_)
      · have E := (if_pos c2).symm.trans E
        refine ea_iconst (pc := 22) dX9_hasRun_22 (v := 0) rfl ?_
        exact ea_iretO (pc := 23) dX9_hasRun_23 rfl (ea_bn (Or.inl rfl)) E
      · have E := (if_neg c2).symm.trans E
        refine ea_iconst (pc := 18) dX9_hasRun_18 (v := 1) rfl ?_
        refine ea_goto (pc := 19) (tgt := 23) dX9_hasRun_19 rfl ?_
        exact ea_iretO (pc := 23) dX9_hasRun_23 rfl (ea_bn (Or.inr rfl)) E
theorem kBX9_hasRun_0  {x1 : Int32} {x2 : Int32} {h : ea_H} : kp (ea_core h) (BX9_hasRun_0 x1 x2 h) :=
  (kp_bind (kp_tw (kpX9_has _ _) rfl) fun w1 hcw1 => (kp_ite (kp_ret hcw1) (kp_ite (kp_ret hcw1) (kp_ite (kp_ret hcw1) (kp_ret hcw1)))))
noncomputable def qX9_hasRun (x1 : Int32) (x2 : Int32) (h : ea_H) : Option (Int32 × ea_H) := BX9_hasRun_0 x1 x2 h
theorem sX9_hasRun {d : Nat} {x1 : Int32} {x2 : Int32} {h : ea_H} {r : Int32} {h' : ea_H} (hd : 2 ≤ d) (hs : ShC h) (K : qX9_hasRun x1 x2 h = some (r, h')) : ea_Met mX9_hasRun d [vR (some 5), vI x1, vI x2] h (some (vI r)) h' := by
  unfold qX9_hasRun at K
  have W := tBX9_hasRun_0 hd (h0 := h) K hs
  exact ea_enter rfl (Nat.le_of_ble_eq_true rfl) W
theorem kpX9_hasRun (x1 : Int32) (x2 : Int32) (h : ea_H) : kp (ea_core h) (qX9_hasRun x1 x2 h) := kBX9_hasRun_0
noncomputable def BX9_isMissed_0 (x1 : Int32) (x2 : Int32) (h : ea_H) : Option (Int32 × ea_H) :=
  (gd (vp_in x1 70) (if (((ea_i h 12 (Int32.toNatClampNeg x1)) >>> (x2 &&& 31)) &&& (1 : Int32)) = (1 : Int32) then (some ((1 : Int32), h)) else (some ((0 : Int32), h))))
theorem tBX9_isMissed_0 {d : Nat} {h0 : ea_H} (hd : 1 ≤ d)  {x1 : Int32} {x2 : Int32} {h : ea_H} {r : Int32} {h' : ea_H} (E : BX9_isMissed_0 x1 x2 h = some (r, h')) (hs : ShC h) : ea_W mX9_isMissed d h0 (some (vI r)) h' 0 [(0, vR (some 5)), (1, vI x1), (2, vI x2)] [] h := by
  unfold BX9_isMissed_0 at E
  obtain ⟨z1, E⟩ := gd_some E
  refine ea_aload_n (pc := 0) dX9_isMissed_0 rfl 0 rfl ?_
  refine ea_getR (pc := 1) dX9_isMissed_1 ec_9 (k := 7) (Nat.le_of_ble_eq_true rfl) rfl (Or.inl ew_206) (cShC_5 hs).1 (cShC_5 hs).2.1 (rShC_5_7 hs) ?_
  refine ea_iload_n (pc := 4) dX9_isMissed_4 rfl 1 rfl ?_
  refine ea_iald (pc := 5) dX9_isMissed_5 (cShC_12 hs).1 (cShC_12 hs).2.1 (ea_vpl (cShC_12 hs).2.2 z1) ?_
  refine ea_iload_n (pc := 6) dX9_isMissed_6 rfl 2 rfl ?_
  refine ea_ishr (pc := 7) dX9_isMissed_7 ?_
  refine ea_iconst (pc := 8) dX9_isMissed_8 (v := 1) rfl ?_
  refine ea_iand (pc := 9) dX9_isMissed_9 ?_
  refine ea_iconst (pc := 10) dX9_isMissed_10 (v := 1) rfl ?_
  refine ea_icmp_ne (pc := 11) (tgt := 18) dX9_isMissed_11 rfl (fun c2 => ?_) (fun c2 => ?_)
  · have E := (if_neg c2).symm.trans E
    refine ea_iconst (pc := 18) dX9_isMissed_18 (v := 0) rfl ?_
    exact ea_iretO (pc := 19) dX9_isMissed_19 rfl (ea_bn (Or.inl rfl)) E
  · have E := (if_pos c2).symm.trans E
    refine ea_iconst (pc := 14) dX9_isMissed_14 (v := 1) rfl ?_
    refine ea_goto (pc := 15) (tgt := 19) dX9_isMissed_15 rfl ?_
    exact ea_iretO (pc := 19) dX9_isMissed_19 rfl (ea_bn (Or.inr rfl)) E
theorem kBX9_isMissed_0  {x1 : Int32} {x2 : Int32} {h : ea_H} : kp (ea_core h) (BX9_isMissed_0 x1 x2 h) :=
  (kp_gd (kp_ite (kp_ret rfl) (kp_ret rfl)))
noncomputable def qX9_isMissed (x1 : Int32) (x2 : Int32) (h : ea_H) : Option (Int32 × ea_H) := BX9_isMissed_0 x1 x2 h
theorem sX9_isMissed {d : Nat} {x1 : Int32} {x2 : Int32} {h : ea_H} {r : Int32} {h' : ea_H} (hd : 1 ≤ d) (hs : ShC h) (K : qX9_isMissed x1 x2 h = some (r, h')) : ea_Met mX9_isMissed d [vR (some 5), vI x1, vI x2] h (some (vI r)) h' := by
  unfold qX9_isMissed at K
  have W := tBX9_isMissed_0 hd (h0 := h) K hs
  exact ea_enter rfl (Nat.le_of_ble_eq_true rfl) W
theorem kpX9_isMissed (x1 : Int32) (x2 : Int32) (h : ea_H) : kp (ea_core h) (qX9_isMissed x1 x2 h) := kBX9_isMissed_0
