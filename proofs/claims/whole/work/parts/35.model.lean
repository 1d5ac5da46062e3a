/-! the reference, 5 -/
noncomputable def BX12_seats_0 (J36 : Int32 → Int32 → Int32 → Int32 → ea_H → Option (Int32 × ea_H)) (J44 : Int32 → ea_H → Option (Int32 × ea_H)) (x1 : Int32) (h : ea_H) : Option (Int32 × ea_H) :=
  (if (ea_i h 326 2) = (0 : Int32) then (some (((-1) : Int32), h)) else (if (ea_i h 326 92) = (0 : Int32) then (some (((-1) : Int32), h)) else (if x1 = (0 : Int32) then (J44 (x1 : Int32) h) else (if (ea_i h 326 92) ≤ (1 : Int32) then (J36 (x1 : Int32) (10 : Int32) (10 : Int32) (x1 : Int32) h) else (J36 (x1 : Int32) (11 : Int32) (10 : Int32) (x1 : Int32) h)))))
theorem tBX12_seats_0 {d : Nat} {h0 : ea_H} (hd : 9 ≤ d) {J36 : Int32 → Int32 → Int32 → Int32 → ea_H → Option (Int32 × ea_H)} {J44 : Int32 → ea_H → Option (Int32 × ea_H)}  (kJ36 : ∀ (x1 : Int32) (sx0 : Int32) (sx1 : Int32) (sx2 : Int32) (h : ea_H) (r : Int32) (h' : ea_H), J36 x1 sx0 sx1 sx2 h = some (r, h') → ShM h → ea_W mX12_seats d h0 (some (vI r)) h' 36 [(0, vR (some 326)), (1, vI x1)] [vI sx0, vI sx1, vI sx2] h) (kJ44 : ∀ (x1 : Int32) (h : ea_H) (r : Int32) (h' : ea_H), J44 x1 h = some (r, h') → ShM h → ea_W mX12_seats d h0 (some (vI r)) h' 44 [(0, vR (some 326)), (1, vI x1)] [] h) {x1 : Int32} {h : ea_H} {r : Int32} {h' : ea_H} (E : BX12_seats_0 J36 J44 x1 h = some (r, h')) (hs : ShM h) : ea_W mX12_seats d h0 (some (vI r)) h' 0 [(0, vR (some 326)), (1, vI x1)] [] h := by
  unfold BX12_seats_0 at E
  refine ea_aload_n (pc := 0) dX12_seats_0 rfl 0 rfl ?_
  refine ea_getI (pc := 1) dX12_seats_1 ec_12 (k := 2) (Nat.le_of_ble_eq_true rfl) rfl (Or.inl ew_1404) (cShM_326 hs).1 (cShM_326 hs).2.1 ?_
  refine ea_if_eq (pc := 4) (tgt := 42) dX12_seats_4 rfl (fun c4 => ?_) (fun c4 => ?_)
  · have E := (if_pos c4).symm.trans E
    refine ea_iconst (pc := 42) dX12_seats_42 (v := (-1)) rfl ?_
    exact ea_iretO (pc := 43) dX12_seats_43 rfl rfl E
  · have E := (if_neg c4).symm.trans E
    refine ea_aload_n (pc := 7) dX12_seats_7 rfl 0 rfl ?_
    refine ea_getI (pc := 8) dX12_seats_8 ec_12 (k := 92) (Nat.le_of_ble_eq_true rfl) rfl (Or.inl ew_1494) (cShM_326 hs).1 (cShM_326 hs).2.1 ?_
    refine ea_if_eq (pc := 11) (tgt := 42) dX12_seats_11 rfl (fun c3 => ?_) (fun c3 => ?_)
    · have E := (if_pos c3).symm.trans E
      refine ea_iconst (pc := 42) dX12_seats_42 (v := (-1)) rfl ?_
      exact ea_iretO (pc := 43) dX12_seats_43 rfl rfl E
    · have E := (if_neg c3).symm.trans E
      refine ea_iload_n (pc := 14) dX12_seats_14 rfl 1 rfl ?_
      refine ea_if_eq (pc := 15) (tgt := 44) dX12_seats_15 rfl (fun c2 => ?_) (fun c2 => ?_)
      · have E := (if_pos c2).symm.trans E
        exact (kJ44 (x1 : Int32) h _ _ E hs)
      · have E := (if_neg c2).symm.trans E
        refine ea_iload_n (pc := 18) dX12_seats_18 rfl 1 rfl ?_
        refine ea_bipush (pc := 19) dX12_seats_19 (v := 10) rfl ?_
        refine ea_aload_n (pc := 21) dX12_seats_21 rfl 0 rfl ?_
        refine ea_getI (pc := 22) dX12_seats_22 ec_12 (k := 92) (Nat.le_of_ble_eq_true rfl) rfl (Or.inl ew_1494) (cShM_326 hs).1 (cShM_326 hs).2.1 ?_
        refine ea_iconst (pc := 25) dX12_seats_25 (v := 1) rfl ?_
        refine ea_icmp_le (pc := 26) (tgt := 34) dX12_seats_26 rfl (fun c1 => ?_) (fun c1 => ?_)
        · have E := (if_pos c1).symm.trans E
          refine ea_bipush (pc := 34) dX12_seats_34 (v := 10) rfl ?_
          exact (kJ36 (x1 : Int32) (10 : Int32) (10 : Int32) (x1 : Int32) h _ _ E hs)
        · have E := (if_neg c1).symm.trans E
          refine ea_bipush (pc := 29) dX12_seats_29 (v := 11) rfl ?_
          refine ea_goto (pc := 31) (tgt := 36) dX12_seats_31 rfl ?_
          exact (kJ36 (x1 : Int32) (11 : Int32) (10 : Int32) (x1 : Int32) h _ _ E hs)
theorem kBX12_seats_0 {J36 : Int32 → Int32 → Int32 → Int32 → ea_H → Option (Int32 × ea_H)} {J44 : Int32 → ea_H → Option (Int32 × ea_H)}  (cJ36 : ∀ (x1 : Int32) (sx0 : Int32) (sx1 : Int32) (sx2 : Int32) (h : ea_H), kp (ea_core h) (J36 x1 sx0 sx1 sx2 h)) (cJ44 : ∀ (x1 : Int32) (h : ea_H), kp (ea_core h) (J44 x1 h)) {x1 : Int32} {h : ea_H} : kp (ea_core h) (BX12_seats_0 J36 J44 x1 h) :=
  (kp_ite (kp_ret rfl) (kp_ite (kp_ret rfl) (kp_ite (kp_tw (cJ44 _ _) rfl) (kp_ite (kp_tw (cJ36 _ _ _ _ _) rfl) (kp_tw (cJ36 _ _ _ _ _) rfl)))))
theorem lBX12_seats_0 {J36 : Int32 → Int32 → Int32 → Int32 → ea_H → Option (Int32 × ea_H)} {J44 : Int32 → ea_H → Option (Int32 × ea_H)} {J36_ : Int32 → Int32 → Int32 → Int32 → ea_H → Option (Int32 × ea_H)} {J44_ : Int32 → ea_H → Option (Int32 × ea_H)}  (mJ36 : ∀ (x1 : Int32) (sx0 : Int32) (sx1 : Int32) (sx2 : Int32) (h : ea_H), fle (J36 x1 sx0 sx1 sx2 h) (J36_ x1 sx0 sx1 sx2 h)) (mJ44 : ∀ (x1 : Int32) (h : ea_H), fle (J44 x1 h) (J44_ x1 h)) {x1 : Int32} {h : ea_H} : fle (BX12_seats_0 J36 J44 x1 h) (BX12_seats_0 J36_ J44_ x1 h) :=
  (fle_ite (fle_rfl _) (fle_ite (fle_rfl _) (fle_ite (mJ44 _ _) (fle_ite (mJ36 _ _ _ _ _) (mJ36 _ _ _ _ _)))))
theorem nBX12_seats_0 {J36 : Int32 → Int32 → Int32 → Int32 → ea_H → Option (Int32 × ea_H)} {J44 : Int32 → ea_H → Option (Int32 × ea_H)} {J36_ : Nat → (Int32 → Int32 → Int32 → Int32 → ea_H → Option (Int32 × ea_H))} {J44_ : Nat → (Int32 → ea_H → Option (Int32 × ea_H))}  (mJ36 : ∀ (x1 : Int32) (sx0 : Int32) (sx1 : Int32) (sx2 : Int32) (h : ea_H), fct (J36 x1 sx0 sx1 sx2 h) (fun f => J36_ f x1 sx0 sx1 sx2 h)) (mJ44 : ∀ (x1 : Int32) (h : ea_H), fct (J44 x1 h) (fun f => J44_ f x1 h)) {x1 : Int32} {h : ea_H} : fct (BX12_seats_0 J36 J44 x1 h) (fun f => BX12_seats_0 (J36_ f) (J44_ f) x1 h) :=
  (fct_ite (fct_rfl _) (fct_ite (fct_rfl _) (fct_ite (mJ44 _ _) (fct_ite (mJ36 _ _ _ _ _) (mJ36 _ _ _ _ _)))))
noncomputable def BX12_seats_36 (J44 : Int32 → ea_H → Option (Int32 × ea_H)) (x1 : Int32) (sx0 : Int32) (sx1 : Int32) (sx2 : Int32) (h : ea_H) : Option (Int32 × ea_H) :=
  (Option.bind (qX12_isIn (sx2 : Int32) (sx1 : Int32) (sx0 : Int32) h) fun w5 => (if w5.1 = (0 : Int32) then (some (((-1) : Int32), w5.2)) else (J44 (x1 : Int32) w5.2)))
theorem tBX12_seats_36 {d : Nat} {h0 : ea_H} (hd : 9 ≤ d) {J44 : Int32 → ea_H → Option (Int32 × ea_H)}  (kJ44 : ∀ (x1 : Int32) (h : ea_H) (r : Int32) (h' : ea_H), J44 x1 h = some (r, h') → ShM h → ea_W mX12_seats d h0 (some (vI r)) h' 44 [(0, vR (some 326)), (1, vI x1)] [] h) {x1 : Int32} {sx0 : Int32} {sx1 : Int32} {sx2 : Int32} {h : ea_H} {r : Int32} {h' : ea_H} (E : BX12_seats_36 J44 x1 sx0 sx1 sx2 h = some (r, h')) (hs : ShM h) : ea_W mX12_seats d h0 (some (vI r)) h' 36 [(0, vR (some 326)), (1, vI x1)] [vI sx0, vI sx1, vI sx2] h := by
  unfold BX12_seats_36 at E
  obtain ⟨w5, Ew5, E⟩ := bd_some E
  have hsw5 : ShM w5.2 := ShM_core ((kpX12_isIn _ _ _ _) _ Ew5) hs
  refine ea_callS (pc := 36) (d' := d - 1) (As := [vI sx2, vI sx1, vI sx0]) (st := []) dX12_seats_36 kX12_isIn (sX12_isIn (d := d - 1) (by omega) Ew5) (by omega) rfl (Nat.le_of_ble_eq_true rfl) ew_1769 ew_1770 ?_
  refine ea_if_ne (pc := 39) (tgt := 44) dX12_seats_39 rfl (fun c6 => ?_) (fun c6 => ?_)
  · have E := (if_neg c6).symm.trans E
    exact (kJ44 (x1 : Int32) w5.2 _ _ E hsw5)
  · have E := (if_pos c6).symm.trans E
    refine ea_iconst (pc := 42) dX12_seats_42 (v := (-1)) rfl ?_
    exact ea_iretO (pc := 43) dX12_seats_43 rfl rfl E
theorem kBX12_seats_36 {J44 : Int32 → ea_H → Option (Int32 × ea_H)}  (cJ44 : ∀ (x1 : Int32) (h : ea_H), kp (ea_core h) (J44 x1 h)) {x1 : Int32} {sx0 : Int32} {sx1 : Int32} {sx2 : Int32} {h : ea_H} : kp (ea_core h) (BX12_seats_36 J44 x1 sx0 sx1 sx2 h) :=
  (kp_bind (kp_tw (kpX12_isIn _ _ _ _) rfl) fun w5 hcw5 => (kp_ite (kp_ret hcw5) (kp_tw (cJ44 _ _) hcw5)))
theorem lBX12_seats_36 {J44 : Int32 → ea_H → Option (Int32 × ea_H)} {J44_ : Int32 → ea_H → Option (Int32 × ea_H)}  (mJ44 : ∀ (x1 : Int32) (h : ea_H), fle (J44 x1 h) (J44_ x1 h)) {x1 : Int32} {sx0 : Int32} {sx1 : Int32} {sx2 : Int32} {h : ea_H} : fle (BX12_seats_36 J44 x1 sx0 sx1 sx2 h) (BX12_seats_36 J44_ x1 sx0 sx1 sx2 h) :=
  (fle_bind (fle_rfl _) fun _ => (fle_ite (fle_rfl _) (mJ44 _ _)))
theorem nBX12_seats_36 {J44 : Int32 → ea_H → Option (Int32 × ea_H)} {J44_ : Nat → (Int32 → ea_H → Option (Int32 × ea_H))}  (mJ44 : ∀ (x1 : Int32) (h : ea_H), fct (J44 x1 h) (fun f => J44_ f x1 h)) {x1 : Int32} {sx0 : Int32} {sx1 : Int32} {sx2 : Int32} {h : ea_H} : fct (BX12_seats_36 J44 x1 sx0 sx1 sx2 h) (fun f => BX12_seats_36 (J44_ f) x1 sx0 sx1 sx2 h) :=
  (fct_bind (fct_rfl _) fun _ => (fct_ite (fct_rfl _) (mJ44 _ _)))
noncomputable def BX12_seats_44 (J70 : Int32 → Int32 → Int32 → Int32 → Int32 → Int32 → Int32 → ea_H → Option (Int32 × ea_H)) (x1 : Int32) (h : ea_H) : Option (Int32 × ea_H) :=
  (J70 (x1 : Int32) ((ea_i h 394 0) : Int32) ((ea_i h 394 1) : Int32) ((-1) : Int32) (0 : Int32) (0 : Int32) (0 : Int32) h)
theorem tBX12_seats_44 {d : Nat} {h0 : ea_H} (hd : 9 ≤ d) {J70 : Int32 → Int32 → Int32 → Int32 → Int32 → Int32 → Int32 → ea_H → Option (Int32 × ea_H)}  (kJ70 : ∀ (x1 : Int32) (x2 : Int32) (x3 : Int32) (x4 : Int32) (x5 : Int32) (x6 : Int32) (x7 : Int32) (h : ea_H) (r : Int32) (h' : ea_H), J70 x1 x2 x3 x4 x5 x6 x7 h = some (r, h') → ShM h → ea_W mX12_seats d h0 (some (vI r)) h' 70 [(0, vR (some 326)), (1, vI x1), (2, vI x2), (3, vI x3), (4, vI x4), (5, vI x5), (6, vI x6), (7, vI x7)] [] h) {x1 : Int32} {h : ea_H} {r : Int32} {h' : ea_H} (E : BX12_seats_44 J70 x1 h = some (r, h')) (hs : ShM h) : ea_W mX12_seats d h0 (some (vI r)) h' 44 [(0, vR (some 326)), (1, vI x1)] [] h := by
  unfold BX12_seats_44 at E
  refine ea_aload_n (pc := 44) dX12_seats_44 rfl 0 rfl ?_
  refine ea_getR (pc := 45) dX12_seats_45 ec_12 (k := 95) (Nat.le_of_ble_eq_true rfl) rfl (Or.inl ew_1497) (cShM_326 hs).1 (cShM_326 hs).2.1 (rShM_326_95 hs) ?_
  refine ea_iconst (pc := 48) dX12_seats_48 (v := 0) rfl ?_
  refine ea_iald (pc := 49) dX12_seats_49 (cShM_394 hs).1 (cShM_394 hs).2.1 (ea_vpl (n := 8) (cShM_394 hs).2.2 (by unfold vp_in; decide)) ?_
  refine ea_istore_n (pc := 50) (lv' := [(0, vR (some 326)), (1, vI x1), (2, vI (ea_i h 394 0))]) dX12_seats_50 rfl (Nat.le_of_ble_eq_true rfl) [1, 2, 0] rfl ?_
  refine ea_aload_n (pc := 51) dX12_seats_51 rfl 0 rfl ?_
  refine ea_getR (pc := 52) dX12_seats_52 ec_12 (k := 95) (Nat.le_of_ble_eq_true rfl) rfl (Or.inl ew_1497) (cShM_326 hs).1 (cShM_326 hs).2.1 (rShM_326_95 hs) ?_
  refine ea_iconst (pc := 55) dX12_seats_55 (v := 1) rfl ?_
  refine ea_iald (pc := 56) dX12_seats_56 (cShM_394 hs).1 (cShM_394 hs).2.1 (ea_vpl (n := 8) (cShM_394 hs).2.2 (by unfold vp_in; decide)) ?_
  refine ea_istore_n (pc := 57) (lv' := [(0, vR (some 326)), (1, vI x1), (2, vI (ea_i h 394 0)), (3, vI (ea_i h 394 1))]) dX12_seats_57 rfl (Nat.le_of_ble_eq_true rfl) [1, 2, 3, 0] rfl ?_
  refine ea_iconst (pc := 58) dX12_seats_58 (v := (-1)) rfl ?_
  refine ea_istore (pc := 59) (lv' := [(0, vR (some 326)), (1, vI x1), (2, vI (ea_i h 394 0)), (3, vI (ea_i h 394 1)), (4, vI (-1))]) dX12_seats_59 (Nat.le_of_ble_eq_true rfl) [1, 2, 3, 4, 0] rfl ?_
  refine ea_iconst (pc := 61) dX12_seats_61 (v := 0) rfl ?_
  refine ea_istore (pc := 62) (lv' := [(0, vR (some 326)), (1, vI x1), (2, vI (ea_i h 394 0)), (3, vI (ea_i h 394 1)), (4, vI (-1)), (5, vI 0)]) dX12_seats_62 (Nat.le_of_ble_eq_true rfl) [1, 2, 3, 4, 5, 0] rfl ?_
  refine ea_iconst (pc := 64) dX12_seats_64 (v := 0) rfl ?_
  refine ea_istore (pc := 65) (lv' := [(0, vR (some 326)), (1, vI x1), (2, vI (ea_i h 394 0)), (3, vI (ea_i h 394 1)), (4, vI (-1)), (5, vI 0), (6, vI 0)]) dX12_seats_65 (Nat.le_of_ble_eq_true rfl) [1, 2, 3, 4, 5, 6, 0] rfl ?_
  refine ea_iconst (pc := 67) dX12_seats_67 (v := 0) rfl ?_
  refine ea_istore (pc := 68) (lv' := [(0, vR (some 326)), (1, vI x1), (2, vI (ea_i h 394 0)), (3, vI (ea_i h 394 1)), (4, vI (-1)), (5, vI 0), (6, vI 0), (7, vI 0)]) dX12_seats_68 (Nat.le_of_ble_eq_true rfl) [1, 2, 3, 4, 5, 6, 7, 0] rfl ?_
  exact (kJ70 (x1 : Int32) ((ea_i h 394 0) : Int32) ((ea_i h 394 1) : Int32) ((-1) : Int32) (0 : Int32) (0 : Int32) (0 : Int32) h _ _ E hs)
theorem kBX12_seats_44 {J70 : Int32 → Int32 → Int32 → Int32 → Int32 → Int32 → Int32 → ea_H → Option (Int32 × ea_H)}  (cJ70 : ∀ (x1 : Int32) (x2 : Int32) (x3 : Int32) (x4 : Int32) (x5 : Int32) (x6 : Int32) (x7 : Int32) (h : ea_H), kp (ea_core h) (J70 x1 x2 x3 x4 x5 x6 x7 h)) {x1 : Int32} {h : ea_H} : kp (ea_core h) (BX12_seats_44 J70 x1 h) :=
  (kp_tw (cJ70 _ _ _ _ _ _ _ _) rfl)
theorem lBX12_seats_44 {J70 : Int32 → Int32 → Int32 → Int32 → Int32 → Int32 → Int32 → ea_H → Option (Int32 × ea_H)} {J70_ : Int32 → Int32 → Int32 → Int32 → Int32 → Int32 → Int32 → ea_H → Option (Int32 × ea_H)}  (mJ70 : ∀ (x1 : Int32) (x2 : Int32) (x3 : Int32) (x4 : Int32) (x5 : Int32) (x6 : Int32) (x7 : Int32) (h : ea_H), fle (J70 x1 x2 x3 x4 x5 x6 x7 h) (J70_ x1 x2 x3 x4 x5 x6 x7 h)) {x1 : Int32} {h : ea_H} : fle (BX12_seats_44 J70 x1 h) (BX12_seats_44 J70_ x1 h) :=
  (mJ70 _ _ _ _ _ _ _ _)
theorem nBX12_seats_44 {J70 : Int32 → Int32 → Int32 → Int32 → Int32 → Int32 → Int32 → ea_H → Option (Int32 × ea_H)} {J70_ : Nat → (Int32 → Int32 → Int32 → Int32 → Int32 → Int32 → Int32 → ea_H → Option (Int32 × ea_H))}  (mJ70 : ∀ (x1 : Int32) (x2 : Int32) (x3 : Int32) (x4 : Int32) (x5 : Int32) (x6 : Int32) (x7 : Int32) (h : ea_H), fct (J70 x1 x2 x3 x4 x5 x6 x7 h) (fun f => J70_ f x1 x2 x3 x4 x5 x6 x7 h)) {x1 : Int32} {h : ea_H} : fct (BX12_seats_44 J70 x1 h) (fun f => BX12_seats_44 (J70_ f) x1 h) :=
  (mJ70 _ _ _ _ _ _ _ _)
noncomputable def BX12_seats_70 (J82 : Int32 → Int32 → Int32 → Int32 → Int32 → Int32 → Int32 → Int32 → ea_H → Option (Int32 × ea_H)) (x1 : Int32) (x2 : Int32) (x3 : Int32) (x4 : Int32) (x5 : Int32) (x6 : Int32) (x7 : Int32) (h : ea_H) : Option (Int32 × ea_H) :=
  (if (ea_i h 326 2) ≤ x7 then (gd (vp_in 0 8) (ea_let (ea_wi h 394 (Int32.toNatClampNeg 0) x2) fun H8 => (gd (vp_in 1 8) (ea_let (ea_wi H8 394 (Int32.toNatClampNeg 1) x3) fun H10 => (if x1 = (0 : Int32) then (some (x4, H10)) else (if x1 = (10 : Int32) then (some (x5, H10)) else (some (x6, H10)))))))) else (J82 (x1 : Int32) (x2 : Int32) (x3 : Int32) (x4 : Int32) (x5 : Int32) (x6 : Int32) (x7 : Int32) (0 : Int32) h))
theorem tBX12_seats_70 {d : Nat} {h0 : ea_H} (hd : 9 ≤ d) {J82 : Int32 → Int32 → Int32 → Int32 → Int32 → Int32 → Int32 → Int32 → ea_H → Option (Int32 × ea_H)}  (kJ82 : ∀ (x1 : Int32) (x2 : Int32) (x3 : Int32) (x4 : Int32) (x5 : Int32) (x6 : Int32) (x7 : Int32) (x8 : Int32) (h : ea_H) (r : Int32) (h' : ea_H), J82 x1 x2 x3 x4 x5 x6 x7 x8 h = some (r, h') → ShM h → ea_W mX12_seats d h0 (some (vI r)) h' 82 [(0, vR (some 326)), (1, vI x1), (2, vI x2), (3, vI x3), (4, vI x4), (5, vI x5), (6, vI x6), (7, vI x7), (8, vI x8)] [] h) {x1 : Int32} {x2 : Int32} {x3 : Int32} {x4 : Int32} {x5 : Int32} {x6 : Int32} {x7 : Int32} {h : ea_H} {r : Int32} {h' : ea_H} (E : BX12_seats_70 J82 x1 x2 x3 x4 x5 x6 x7 h = some (r, h')) (hs : ShM h) : ea_W mX12_seats d h0 (some (vI r)) h' 70 [(0, vR (some 326)), (1, vI x1), (2, vI x2), (3, vI x3), (4, vI x4), (5, vI x5), (6, vI x6), (7, vI x7)] [] h := by
  unfold BX12_seats_70 at E
  refine ea_iload (pc := 70) dX12_seats_70 7 rfl ?_
  refine ea_aload_n (pc := 72) dX12_seats_72 rfl 0 rfl ?_
  refine ea_getI (pc := 73) dX12_seats_73 ec_12 (k := 2) (Nat.le_of_ble_eq_true rfl) rfl (Or.inl ew_1404) (cShM_326 hs).1 (cShM_326 hs).2.1 ?_
  refine ea_icmp_ge (pc := 76) (tgt := 173) dX12_seats_76 rfl (fun c13 => ?_) (fun c13 => ?_)
  · have E := (if_pos c13).symm.trans E
    obtain ⟨z7, E⟩ := gd_some E
    refine ea_aload_n (pc := 173) dX12_seats_173 rfl 0 rfl ?_
    refine ea_getR (pc := 174) dX12_seats_174 ec_12 (k := 95) (Nat.le_of_ble_eq_true rfl) rfl (Or.inl ew_1497) (cShM_326 hs).1 (cShM_326 hs).2.1 (rShM_326_95 hs) ?_
    refine ea_iconst (pc := 177) dX12_seats_177 (v := 0) rfl ?_
    refine ea_iload_n (pc := 178) dX12_seats_178 rfl 2 rfl ?_
    obtain ⟨H8, eH8, E⟩ := let_some E
    refine ea_iast (pc := 179) dX12_seats_179 (cShM_394 hs).1 (cShM_394 hs).2.1 (ea_vpl (cShM_394 hs).2.2 z7) ?_
    refine ea_nm eH8 ?_
    have hsH8 : ShM H8 := by rw [eH8]; exact hs
    obtain ⟨z9, E⟩ := gd_some E
    refine ea_aload_n (pc := 180) dX12_seats_180 rfl 0 rfl ?_
    refine ea_getR (pc := 181) dX12_seats_181 ec_12 (k := 95) (Nat.le_of_ble_eq_true rfl) rfl (Or.inl ew_1497) (cShM_326 hsH8).1 (cShM_326 hsH8).2.1 (rShM_326_95 hsH8) ?_
    refine ea_iconst (pc := 184) dX12_seats_184 (v := 1) rfl ?_
    refine ea_iload_n (pc := 185) dX12_seats_185 rfl 3 rfl ?_
    obtain ⟨H10, eH10, E⟩ := let_some E
    refine ea_iast (pc := 186) dX12_seats_186 (cShM_394 hsH8).1 (cShM_394 hsH8).2.1 (ea_vpl (cShM_394 hsH8).2.2 z9) ?_
    refine ea_nm eH10 ?_
    have hsH10 : ShM H10 := by rw [eH10]; exact hsH8
    refine ea_iload_n (pc := 187) dX12_seats_187 rfl 1 rfl ?_
    refine ea_if_ne (pc := 188) (tgt := 196) dX12_seats_188 rfl (fun c12 => ?_) (fun c12 => ?_)
    · have E := (if_neg c12).symm.trans E
      refine ea_iload_n (pc := 196) dX12_seats_196 rfl 1 rfl ?_
      refine ea_bipush (pc := 197) dX12_seats_197 (v := 10) rfl ?_
      refine ea_icmp_ne (pc := 199) (tgt := 207) dX12_seats_199 rfl (fun c11 => ?_) (fun c11 => ?_)
      · have E := (if_neg c11).symm.trans E
        refine ea_iload (pc := 207) dX12_seats_207 6 rfl ?_
        exact ea_iretO (pc := 209) dX12_seats_209 rfl rfl E
      · have E := (if_pos c11).symm.trans E
        refine ea_iload (pc := 202) dX12_seats_202 5 rfl ?_
        refine ea_goto (pc := 204) (tgt := 209) dX12_seats_204 rfl ?_
        exact ea_iretO (pc := 209) dX12_seats_209 rfl rfl E
    · have E := (if_pos c12).symm.trans E
      refine ea_iload (pc := 191) dX12_seats_191 4 rfl ?_
      refine ea_goto (pc := 193) (tgt := 209) dX12_seats_193 rfl ?_
      exact ea_iretO (pc := 209) dX12_seats_209 rfl rfl E
  · have E := (if_neg c13).symm.trans E
    refine ea_iconst (pc := 79) dX12_seats_79 (v := 0) rfl ?_
    refine ea_istore (pc := 80) (lv' := [(0, vR (some 326)), (1, vI x1), (2, vI x2), (3, vI x3), (4, vI x4), (5, vI x5), (6, vI x6), (7, vI x7), (8, vI 0)]) dX12_seats_80 (Nat.le_of_ble_eq_true rfl) [1, 2, 3, 4, 5, 6, 7, 8, 0] rfl ?_
    exact (kJ82 (x1 : Int32) (x2 : Int32) (x3 : Int32) (x4 : Int32) (x5 : Int32) (x6 : Int32) (x7 : Int32) (0 : Int32) h _ _ E hs)
theorem kBX12_seats_70 {J82 : Int32 → Int32 → Int32 → Int32 → Int32 → Int32 → Int32 → Int32 → ea_H → Option (Int32 × ea_H)}  (cJ82 : ∀ (x1 : Int32) (x2 : Int32) (x3 : Int32) (x4 : Int32) (x5 : Int32) (x6 : Int32) (x7 : Int32) (x8 : Int32) (h : ea_H), kp (ea_core h) (J82 x1 x2 x3 x4 x5 x6 x7 x8 h)) {x1 : Int32} {x2 : Int32} {x3 : Int32} {x4 : Int32} {x5 : Int32} {x6 : Int32} {x7 : Int32} {h : ea_H} : kp (ea_core h) (BX12_seats_70 J82 x1 x2 x3 x4 x5 x6 x7 h) :=
  (kp_ite (kp_gd (kp_let (kp_gd (kp_let (kp_ite (kp_ret rfl) (kp_ite (kp_ret rfl) (kp_ret rfl))))))) (kp_tw (cJ82 _ _ _ _ _ _ _ _ _) rfl))
theorem lBX12_seats_70 {J82 : Int32 → Int32 → Int32 → Int32 → Int32 → Int32 → Int32 → Int32 → ea_H → Option (Int32 × ea_H)} {J82_ : Int32 → Int32 → Int32 → Int32 → Int32 → Int32 → Int32 → Int32 → ea_H → Option (Int32 × ea_H)}  (mJ82 : ∀ (x1 : Int32) (x2 : Int32) (x3 : Int32) (x4 : Int32) (x5 : Int32) (x6 : Int32) (x7 : Int32) (x8 : Int32) (h : ea_H), fle (J82 x1 x2 x3 x4 x5 x6 x7 x8 h) (J82_ x1 x2 x3 x4 x5 x6 x7 x8 h)) {x1 : Int32} {x2 : Int32} {x3 : Int32} {x4 : Int32} {x5 : Int32} {x6 : Int32} {x7 : Int32} {h : ea_H} : fle (BX12_seats_70 J82 x1 x2 x3 x4 x5 x6 x7 h) (BX12_seats_70 J82_ x1 x2 x3 x4 x5 x6 x7 h) :=
  (fle_ite (fle_rfl _) (mJ82 _ _ _ _ _ _ _ _ _))
theorem nBX12_seats_70 {J82 : Int32 → Int32 → Int32 → Int32 → Int32 → Int32 → Int32 → Int32 → ea_H → Option (Int32 × ea_H)} {J82_ : Nat → (Int32 → Int32 → Int32 → Int32 → Int32 → Int32 → Int32 → Int32 → ea_H → Option (Int32 × ea_H))}  (mJ82 : ∀ (x1 : Int32) (x2 : Int32) (x3 : Int32) (x4 : Int32) (x5 : Int32) (x6 : Int32) (x7 : Int32) (x8 : Int32) (h : ea_H), fct (J82 x1 x2 x3 x4 x5 x6 x7 x8 h) (fun f => J82_ f x1 x2 x3 x4 x5 x6 x7 x8 h)) {x1 : Int32} {x2 : Int32} {x3 : Int32} {x4 : Int32} {x5 : Int32} {x6 : Int32} {x7 : Int32} {h : ea_H} : fct (BX12_seats_70 J82 x1 x2 x3 x4 x5 x6 x7 h) (fun f => BX12_seats_70 (J82_ f) x1 x2 x3 x4 x5 x6 x7 h) :=
  (fct_ite (fct_rfl _) (mJ82 _ _ _ _ _ _ _ _ _))
noncomputable def BX12_seats_82 (J100 : Int32 → Int32 → Int32 → Int32 → Int32 → Int32 → Int32 → Int32 → Int32 → Int32 → ea_H → Option (Int32 × ea_H)) (x1 : Int32) (x2 : Int32) (x3 : Int32) (x4 : Int32) (x5 : Int32) (x6 : Int32) (x7 : Int32) (x8 : Int32) (h : ea_H) : Option (Int32 × ea_H) :=
  (if (ea_i h 326 92) ≤ (1 : Int32) then (J100 (x1 : Int32) (x2 : Int32) (x3 : Int32) (x4 : Int32) (x5 : Int32) (x6 : Int32) (x7 : Int32) (x8 : Int32) (1 : Int32) (x8 : Int32) h) else (J100 (x1 : Int32) (x2 : Int32) (x3 : Int32) (x4 : Int32) (x5 : Int32) (x6 : Int32) (x7 : Int32) (x8 : Int32) ((ea_i h 326 2) : Int32) (x8 : Int32) h))
theorem tBX12_seats_82 {d : Nat} {h0 : ea_H} (hd : 9 ≤ d) {J100 : Int32 → Int32 → Int32 → Int32 → Int32 → Int32 → Int32 → Int32 → Int32 → Int32 → ea_H → Option (Int32 × ea_H)}  (kJ100 : ∀ (x1 : Int32) (x2 : Int32) (x3 : Int32) (x4 : Int32) (x5 : Int32) (x6 : Int32) (x7 : Int32) (x8 : Int32) (sx0 : Int32) (sx1 : Int32) (h : ea_H) (r : Int32) (h' : ea_H), J100 x1 x2 x3 x4 x5 x6 x7 x8 sx0 sx1 h = some (r, h') → ShM h → ea_W mX12_seats d h0 (some (vI r)) h' 100 [(0, vR (some 326)), (1, vI x1), (2, vI x2), (3, vI x3), (4, vI x4), (5, vI x5), (6, vI x6), (7, vI x7), (8, vI x8)] [vI sx0, vI sx1] h) {x1 : Int32} {x2 : Int32} {x3 : Int32} {x4 : Int32} {x5 : Int32} {x6 : Int32} {x7 : Int32} {x8 : Int32} {h : ea_H} {r : Int32} {h' : ea_H} (E : BX12_seats_82 J100 x1 x2 x3 x4 x5 x6 x7 x8 h = some (r, h')) (hs : ShM h) : ea_W mX12_seats d h0 (some (vI r)) h' 82 [(0, vR (some 326)), (1, vI x1), (2, vI x2), (3, vI x3), (4, vI x4), (5, vI x5), (6, vI x6), (7, vI x7), (8, vI x8)] [] h := by
  unfold BX12_seats_82 at E
  refine ea_iload (pc := 82) dX12_seats_82 8 rfl ?_
  refine ea_aload_n (pc := 84) dX12_seats_84 rfl 0 rfl ?_
  refine ea_getI (pc := 85) dX12_seats_85 ec_12 (k := 92) (Nat.le_of_ble_eq_true rfl) rfl (Or.inl ew_1494) (cShM_326 hs).1 (cShM_326 hs).2.1 ?_
  refine ea_iconst (pc := 88) dX12_seats_88 (v := 1) rfl ?_
  refine ea_icmp_le (pc := 89) (tgt := 99) dX12_seats_89 rfl (fun c14 => ?_) (fun c14 => ?_)
  · have E := (if_pos c14).symm.trans E
    refine ea_iconst (pc := 99) dX12_seats_99 (v := 1) rfl ?_
    exact (kJ100 (x1 : Int32) (x2 : Int32) (x3 : Int32) (x4 : Int32) (x5 : Int32) (x6 : Int32) (x7 : Int32) (x8 : Int32) (1 : Int32) (x8 : Int32) h _ _ E hs)
  · have E := (if_neg c14).symm.trans E
    refine ea_aload_n (pc := 92) dX12_seats_92 rfl 0 rfl ?_
    refine ea_getI (pc := 93) dX12_seats_93 ec_12 (k := 2) (Nat.le_of_ble_eq_true rfl) rfl (Or.inl ew_1404) (cShM_326 hs).1 (cShM_326 hs).2.1 ?_
    refine ea_goto (pc := 96) (tgt := 100) dX12_seats_96 rfl ?_
    exact (kJ100 (x1 : Int32) (x2 : Int32) (x3 : Int32) (x4 : Int32) (x5 : Int32) (x6 : Int32) (x7 : Int32) (x8 : Int32) ((ea_i h 326 2) : Int32) (x8 : Int32) h _ _ E hs)
theorem kBX12_seats_82 {J100 : Int32 → Int32 → Int32 → Int32 → Int32 → Int32 → Int32 → Int32 → Int32 → Int32 → ea_H → Option (Int32 × ea_H)}  (cJ100 : ∀ (x1 : Int32) (x2 : Int32) (x3 : Int32) (x4 : Int32) (x5 : Int32) (x6 : Int32) (x7 : Int32) (x8 : Int32) (sx0 : Int32) (sx1 : Int32) (h : ea_H), kp (ea_core h) (J100 x1 x2 x3 x4 x5 x6 x7 x8 sx0 sx1 h)) {x1 : Int32} {x2 : Int32} {x3 : Int32} {x4 : Int32} {x5 : Int32} {x6 : Int32} {x7 : Int32} {x8 : Int32} {h : ea_H} : kp (ea_core h) (BX12_seats_82 J100 x1 x2 x3 x4 x5 x6 x7 x8 h) :=
  (kp_ite (kp_tw (cJ100 _ _ _ _ _ _ _ _ _ _ _) rfl) (kp_tw (cJ100 _ _ _ _ _ _ _ _ _ _ _) rfl))
theorem lBX12_seats_82 {J100 : Int32 → Int32 → Int32 → Int32 → Int32 → Int32 → Int32 → Int32 → Int32 → Int32 → ea_H → Option (Int32 × ea_H)} {J100_ : Int32 → Int32 → Int32 → Int32 → Int32 → Int32 → Int32 → Int32 → Int32 → Int32 → ea_H → Option (Int32 × ea_H)}  (mJ100 : ∀ (x1 : Int32) (x2 : Int32) (x3 : Int32) (x4 : Int32) (x5 : Int32) (x6 : Int32) (x7 : Int32) (x8 : Int32) (sx0 : Int32) (sx1 : Int32) (h : ea_H), fle (J100 x1 x2 x3 x4 x5 x6 x7 x8 sx0 sx1 h) (J100_ x1 x2 x3 x4 x5 x6 x7 x8 sx0 sx1 h)) {x1 : Int32} {x2 : Int32} {x3 : Int32} {x4 : Int32} {x5 : Int32} {x6 : Int32} {x7 : Int32} {x8 : Int32} {h : ea_H} : fle (BX12_seats_82 J100 x1 x2 x3 x4 x5 x6 x7 x8 h) (BX12_seats_82 J100_ x1 x2 x3 x4 x5 x6 x7 x8 h) :=
  (fle_ite (mJ100 _ _ _ _ _ _ _ _ _ _ _) (mJ100 _ _ _ _ _ _ _ _ _ _ _))
theorem nBX12_seats_82 {J100 : Int32 → Int32 → Int32 → Int32 → Int32 → Int32 → Int32 → Int32 → Int32 → Int32 → ea_H → Option (Int32 × ea_H)} {J100_ : Nat → (Int32 → Int32 → Int32 → Int32 → Int32 → Int32 → Int32 → Int32 → Int32 → Int32 → ea_H → Option (Int32 × ea_H))}  (mJ100 : ∀ (x1 : Int32) (x2 : Int32) (x3 : Int32) (x4 : Int32) (x5 : Int32) (x6 : Int32) (x7 : Int32) (x8 : Int32) (sx0 : Int32) (sx1 : Int32) (h : ea_H), fct (J100 x1 x2 x3 x4 x5 x6 x7 x8 sx0 sx1 h) (fun f => J100_ f x1 x2 x3 x4 x5 x6 x7 x8 sx0 sx1 h)) {x1 : Int32} {x2 : Int32} {x3 : Int32} {x4 : Int32} {x5 : Int32} {x6 : Int32} {x7 : Int32} {x8 : Int32} {h : ea_H} : fct (BX12_seats_82 J100 x1 x2 x3 x4 x5 x6 x7 x8 h) (fun f => BX12_seats_82 (J100_ f) x1 x2 x3 x4 x5 x6 x7 x8 h) :=
  (fct_ite (mJ100 _ _ _ _ _ _ _ _ _ _ _) (mJ100 _ _ _ _ _ _ _ _ _ _ _))
noncomputable def BX12_seats_100 (J70 : Int32 → Int32 → Int32 → Int32 → Int32 → Int32 → Int32 → ea_H → Option (Int32 × ea_H)) (J127 : Int32 → Int32 → Int32 → Int32 → Int32 → Int32 → Int32 → Int32 → ea_H → Option (Int32 × ea_H)) (x1 : Int32) (x2 : Int32) (x3 : Int32) (x4 : Int32) (x5 : Int32) (x6 : Int32) (x7 : Int32) (x8 : Int32) (sx0 : Int32) (sx1 : Int32) (h : ea_H) : Option (Int32 × ea_H) :=
  (if sx0 ≤ sx1 then (J70 (x1 : Int32) (x2 : Int32) (x3 : Int32) (x4 : Int32) (x5 : Int32) (x6 : Int32) ((x7 + (1 : Int32)) : Int32) h) else (gd (vp_in 0 8) (ea_let (ea_wi h 394 (Int32.toNatClampNeg 0) x7) fun H16 => (if (ea_i H16 326 92) ≤ (1 : Int32) then (J127 (x1 : Int32) (x2 : Int32) (x3 : Int32) (x4 : Int32) (x5 : Int32) (x6 : Int32) (x7 : Int32) (x8 : Int32) H16) else (gd (vp_in 1 8) (ea_let (ea_wi H16 394 (Int32.toNatClampNeg 1) x8) fun H18 => (J127 (x1 : Int32) (x2 : Int32) (x3 : Int32) (x4 : Int32) (x5 : Int32) (x6 : Int32) (x7 : Int32) (x8 : Int32) H18)))))))
theorem tBX12_seats_100 {d : Nat} {h0 : ea_H} (hd : 9 ≤ d) {J70 : Int32 → Int32 → Int32 → Int32 → Int32 → Int32 → Int32 → ea_H → Option (Int32 × ea_H)} {J127 : Int32 → Int32 → Int32 → Int32 → Int32 → Int32 → Int32 → Int32 → ea_H → Option (Int32 × ea_H)}  (kJ70 : ∀ (x1 : Int32) (x2 : Int32) (x3 : Int32) (x4 : Int32) (x5 : Int32) (x6 : Int32) (x7 : Int32) (h : ea_H) (r : Int32) (h' : ea_H), J70 x1 x2 x3 x4 x5 x6 x7 h = some (r, h') → ShM h → ea_W mX12_seats d h0 (some (vI r)) h' 70 [(0, vR (some 326)), (1, vI x1), (2, vI x2), (3, vI x3), (4, vI x4), (5, vI x5), (6, vI x6), (7, vI x7)] [] h) (kJ127 : ∀ (x1 : Int32) (x2 : Int32) (x3 : Int32) (x4 : Int32) (x5 : Int32) (x6 : Int32) (x7 : Int32) (x8 : Int32) (h : ea_H) (r : Int32) (h' : ea_H), J127 x1 x2 x3 x4 x5 x6 x7 x8 h = some (r, h') → ShM h → ea_W mX12_seats d h0 (some (vI r)) h' 127 [(0, vR (some 326)), (1, vI x1), (2, vI x2), (3, vI x3), (4, vI x4), (5, vI x5), (6, vI x6), (7, vI x7), (8, vI x8)] [] h) {x1 : Int32} {x2 : Int32} {x3 : Int32} {x4 : Int32} {x5 : Int32} {x6 : Int32} {x7 : Int32} {x8 : Int32} {sx0 : Int32} {sx1 : Int32} {h : ea_H} {r : Int32} {h' : ea_H} (E : BX12_seats_100 J70 J127 x1 x2 x3 x4 x5 x6 x7 x8 sx0 sx1 h = some (r, h')) (hs : ShM h) : ea_W mX12_seats d h0 (some (vI r)) h' 100 [(0, vR (some 326)), (1, vI x1), (2, vI x2), (3, vI x3), (4, vI x4), (5, vI x5), (6, vI x6), (7, vI x7), (8, vI x8)] [vI sx0, vI sx1] h := by
  unfold BX12_seats_100 at E
  refine ea_icmp_ge (pc := 100) (tgt := 167) dX12_seats_100 rfl (fun c20 => ?_) (fun c20 => ?_)
  · have E := (if_pos c20).symm.trans E
    refine ea_iinc (pc := 167) (v := 1) (lv' := [(0, vR (some 326)), (1, vI x1), (2, vI x2), (3, vI x3), (4, vI x4), (5, vI x5), (6, vI x6), (7, vI (x7 + (1 : Int32)))]) dX12_seats_167 7 rfl rfl (Nat.le_of_ble_eq_true rfl) [1, 2, 3, 4, 5, 6, 7, 0] rfl ?_
    refine ea_goto (pc := 170) (tgt := 70) dX12_seats_170 rfl ?_
    exact (kJ70 (x1 : Int32) (x2 : Int32) (x3 : Int32) (x4 : Int32) (x5 : Int32) (x6 : Int32) ((x7 + (1 : Int32)) : Int32) h _ _ E hs)
  · have E := (if_neg c20).symm.trans E
    obtain ⟨z15, E⟩ := gd_some E
    refine ea_aload_n (pc := 103) dX12_seats_103 rfl 0 rfl ?_
    refine ea_getR (pc := 104) dX12_seats_104 ec_12 (k := 95) (Nat.le_of_ble_eq_true rfl) rfl (Or.inl ew_1497) (cShM_326 hs).1 (cShM_326 hs).2.1 (rShM_326_95 hs) ?_
    refine ea_iconst (pc := 107) dX12_seats_107 (v := 0) rfl ?_
    refine ea_iload (pc := 108) dX12_seats_108 7 rfl ?_
    obtain ⟨H16, eH16, E⟩ := let_some E
    refine ea_iast (pc := 110) dX12_seats_110 (cShM_394 hs).1 (cShM_394 hs).2.1 (ea_vpl (cShM_394 hs).2.2 z15) ?_
    refine ea_nm eH16 ?_
    have hsH16 : ShM H16 := by rw [eH16]; exact hs
    refine ea_aload_n (pc := 111) dX12_seats_111 rfl 0 rfl ?_
    refine ea_getI (pc := 112) dX12_seats_112 ec_12 (k := 92) (Nat.le_of_ble_eq_true rfl) rfl (Or.inl ew_1494) (cShM_326 hsH16).1 (cShM_326 hsH16).2.1 ?_
    refine ea_iconst (pc := 115) dX12_seats_115 (v := 1) rfl ?_
    refine ea_icmp_le (pc := 116) (tgt := 127) dX12_seats_116 rfl (fun c19 => ?_) (fun c19 => ?_)
    · have E := (if_pos c19).symm.trans E
      exact (kJ127 (x1 : Int32) (x2 : Int32) (x3 : Int32) (x4 : Int32) (x5 : Int32) (x6 : Int32) (x7 : Int32) (x8 : Int32) H16 _ _ E hsH16)
    · have E := (if_neg c19).symm.trans E
      obtain ⟨z17, E⟩ := gd_some E
      refine ea_aload_n (pc := 119) dX12_seats_119 rfl 0 rfl ?_
      refine ea_getR (pc := 120) dX12_seats_120 ec_12 (k := 95) (Nat.le_of_ble_eq_true rfl) rfl (Or.inl ew_1497) (cShM_326 hsH16).1 (cShM_326 hsH16).2.1 (rShM_326_95 hsH16) ?_
      refine ea_iconst (pc := 123) dX12_seats_123 (v := 1) rfl ?_
      refine ea_iload (pc := 124) dX12_seats_124 8 rfl ?_
      obtain ⟨H18, eH18, E⟩ := let_some E
      refine ea_iast (pc := 126) dX12_seats_126 (cShM_394 hsH16).1 (cShM_394 hsH16).2.1 (ea_vpl (cShM_394 hsH16).2.2 z17) ?_
      refine ea_nm eH18 ?_
      have hsH18 : ShM H18 := by rw [eH18]; exact hsH16
      exact (kJ127 (x1 : Int32) (x2 : Int32) (x3 : Int32) (x4 : Int32) (x5 : Int32) (x6 : Int32) (x7 : Int32) (x8 : Int32) H18 _ _ E hsH18)
theorem kBX12_seats_100 {J70 : Int32 → Int32 → Int32 → Int32 → Int32 → Int32 → Int32 → ea_H → Option (Int32 × ea_H)} {J127 : Int32 → Int32 → Int32 → Int32 → Int32 → Int32 → Int32 → Int32 → ea_H → Option (Int32 × ea_H)}  (cJ70 : ∀ (x1 : Int32) (x2 : Int32) (x3 : Int32) (x4 : Int32) (x5 : Int32) (x6 : Int32) (x7 : Int32) (h : ea_H), kp (ea_core h) (J70 x1 x2 x3 x4 x5 x6 x7 h)) (cJ127 : ∀ (x1 : Int32) (x2 : Int32) (x3 : Int32) (x4 : Int32) (x5 : Int32) (x6 : Int32) (x7 : Int32) (x8 : Int32) (h : ea_H), kp (ea_core h) (J127 x1 x2 x3 x4 x5 x6 x7 x8 h)) {x1 : Int32} {x2 : Int32} {x3 : Int32} {x4 : Int32} {x5 : Int32} {x6 : Int32} {x7 : Int32} {x8 : Int32} {sx0 : Int32} {sx1 : Int32} {h : ea_H} : kp (ea_core h) (BX12_seats_100 J70 J127 x1 x2 x3 x4 x5 x6 x7 x8 sx0 sx1 h) :=
  (kp_ite (kp_tw (cJ70 _ _ _ _ _ _ _ _) rfl) (kp_gd (kp_let (kp_ite (kp_tw (cJ127 _ _ _ _ _ _ _ _ _) rfl) (kp_gd (kp_let (kp_tw (cJ127 _ _ _ _ _ _ _ _ _) rfl)))))))
theorem lBX12_seats_100 {J70 : Int32 → Int32 → Int32 → Int32 → Int32 → Int32 → Int32 → ea_H → Option (Int32 × ea_H)} {J127 : Int32 → Int32 → Int32 → Int32 → Int32 → Int32 → Int32 → Int32 → ea_H → Option (Int32 × ea_H)} {J70_ : Int32 → Int32 → Int32 → Int32 → Int32 → Int32 → Int32 → ea_H → Option (Int32 × ea_H)} {J127_ : Int32 → Int32 → Int32 → Int32 → Int32 → Int32 → Int32 → Int32 → ea_H → Option (Int32 × ea_H)}  (mJ70 : ∀ (x1 : Int32) (x2 : Int32) (x3 : Int32) (x4 : Int32) (x5 : Int32) (x6 : Int32) (x7 : Int32) (h : ea_H), fle (J70 x1 x2 x3 x4 x5 x6 x7 h) (J70_ x1 x2 x3 x4 x5 x6 x7 h)) (mJ127 : ∀ (x1 : Int32) (x2 : Int32) (x3 : Int32) (x4 : Int32) (x5 : Int32) (x6 : Int32) (x7 : Int32) (x8 : Int32) (h : ea_H), fle (J127 x1 x2 x3 x4 x5 x6 x7 x8 h) (J127_ x1 x2 x3 x4 x5 x6 x7 x8 h)) {x1 : Int32} {x2 : Int32} {x3 : Int32} {x4 : Int32} {x5 : Int32} {x6 : Int32} {x7 : Int32} {x8 : Int32} {sx0 : Int32} {sx1 : Int32} {h : ea_H} : fle (BX12_seats_100 J70 J127 x1 x2 x3 x4 x5 x6 x7 x8 sx0 sx1 h) (BX12_seats_100 J70_ J127_ x1 x2 x3 x4 x5 x6 x7 x8 sx0 sx1 h) :=
  (fle_ite (mJ70 _ _ _ _ _ _ _ _) (fle_gd (fle_let fun _ => (fle_ite (mJ127 _ _ _ _ _ _ _ _ _) (fle_gd (fle_let fun _ => (mJ127 _ _ _ _ _ _ _ _ _)))))))
theorem nBX12_seats_100 {J70 : Int32 → Int32 → Int32 → Int32 → Int32 → Int32 → Int32 → ea_H → Option (Int32 × ea_H)} {J127 : Int32 → Int32 → Int32 → Int32 → Int32 → Int32 → Int32 → Int32 → ea_H → Option (Int32 × ea_H)} {J70_ : Nat → (Int32 → Int32 → Int32 → Int32 → Int32 → Int32 → Int32 → ea_H → Option (Int32 × ea_H))} {J127_ : Nat → (Int32 → Int32 → Int32 → Int32 → Int32 → Int32 → Int32 → Int32 → ea_H → Option (Int32 × ea_H))}  (mJ70 : ∀ (x1 : Int32) (x2 : Int32) (x3 : Int32) (x4 : Int32) (x5 : Int32) (x6 : Int32) (x7 : Int32) (h : ea_H), fct (J70 x1 x2 x3 x4 x5 x6 x7 h) (fun f => J70_ f x1 x2 x3 x4 x5 x6 x7 h)) (mJ127 : ∀ (x1 : Int32) (x2 : Int32) (x3 : Int32) (x4 : Int32) (x5 : Int32) (x6 : Int32) (x7 : Int32) (x8 : Int32) (h : ea_H), fct (J127 x1 x2 x3 x4 x5 x6 x7 x8 h) (fun f => J127_ f x1 x2 x3 x4 x5 x6 x7 x8 h)) {x1 : Int32} {x2 : Int32} {x3 : Int32} {x4 : Int32} {x5 : Int32} {x6 : Int32} {x7 : Int32} {x8 : Int32} {sx0 : Int32} {sx1 : Int32} {h : ea_H} : fct (BX12_seats_100 J70 J127 x1 x2 x3 x4 x5 x6 x7 x8 sx0 sx1 h) (fun f => BX12_seats_100 (J70_ f) (J127_ f) x1 x2 x3 x4 x5 x6 x7 x8 sx0 sx1 h) :=
  (fct_ite (mJ70 _ _ _ _ _ _ _ _) (fct_gd (fct_let fun _ => (fct_ite (mJ127 _ _ _ _ _ _ _ _ _) (fct_gd (fct_let fun _ => (mJ127 _ _ _ _ _ _ _ _ _)))))))
noncomputable def BX12_seats_127 (J82 : Int32 → Int32 → Int32 → Int32 → Int32 → Int32 → Int32 → Int32 → ea_H → Option (Int32 × ea_H)) (x1 : Int32) (x2 : Int32) (x3 : Int32) (x4 : Int32) (x5 : Int32) (x6 : Int32) (x7 : Int32) (x8 : Int32) (h : ea_H) : Option (Int32 × ea_H) :=
  (Option.bind (qX12_sums  h) fun w21 => (if x4 = ((-1) : Int32) then (J82 (x1 : Int32) (x2 : Int32) (x3 : Int32) (w21.1 : Int32) (x7 : Int32) (x8 : Int32) (x7 : Int32) ((x8 + (1 : Int32)) : Int32) w21.2) else (if w21.1 < x4 then (J82 (x1 : Int32) (x2 : Int32) (x3 : Int32) (w21.1 : Int32) (x7 : Int32) (x8 : Int32) (x7 : Int32) ((x8 + (1 : Int32)) : Int32) w21.2) else (J82 (x1 : Int32) (x2 : Int32) (x3 : Int32) (x4 : Int32) (x5 : Int32) (x6 : Int32) (x7 : Int32) ((x8 + (1 : Int32)) : Int32) w21.2))))
theorem tBX12_seats_127 {d : Nat} {h0 : ea_H} (hd : 9 ≤ d) {J82 : Int32 → Int32 → Int32 → Int32 → Int32 → Int32 → Int32 → Int32 → ea_H → Option (Int32 × ea_H)}  (kJ82 : ∀ (x1 : Int32) (x2 : Int32) (x3 : Int32) (x4 : Int32) (x5 : Int32) (x6 : Int32) (x7 : Int32) (x8 : Int32) (h : ea_H) (r : Int32) (h' : ea_H), J82 x1 x2 x3 x4 x5 x6 x7 x8 h = some (r, h') → ShM h → ea_W mX12_seats d h0 (some (vI r)) h' 82 [(0, vR (some 326)), (1, vI x1), (2, vI x2), (3, vI x3), (4, vI x4), (5, vI x5), (6, vI x6), (7, vI x7), (8, vI x8)] [] h) {x1 : Int32} {x2 : Int32} {x3 : Int32} {x4 : Int32} {x5 : Int32} {x6 : Int32} {x7 : Int32} {x8 : Int32} {h : ea_H} {r : Int32} {h' : ea_H} (E : BX12_seats_127 J82 x1 x2 x3 x4 x5 x6 x7 x8 h = some (r, h')) (hs : ShM h) : ea_W mX12_seats d h0 (some (vI r)) h' 127 [(0, vR (some 326)), (1, vI x1), (2, vI x2), (3, vI x3), (4, vI x4), (5, vI x5), (6, vI x6), (7, vI x7), (8, vI x8)] [] h := by
  unfold BX12_seats_127 at E
  obtain ⟨w21, Ew21, E⟩ := bd_some E
  have hsw21 : ShM w21.2 := ShM_core ((kpX12_sums _) _ Ew21) hs
  refine ea_aload_n (pc := 127) dX12_seats_127 rfl 0 rfl ?_
  refine ea_callV (pc := 128) (d' := d - 1) (As := []) (st := []) dX12_seats_128 kX12_sums (sX12_sums (d := d - 1) (by omega) hs Ew21) (by omega) rfl (Nat.le_of_ble_eq_true rfl) ew_2232 ew_2234 ew_111 (ci := 12) rfl (by decide) (cShM_326 hs).1 (cShM_326 hs).2.1 ?_
  refine ea_istore (pc := 131) (lv' := [(0, vR (some 326)), (1, vI x1), (2, vI x2), (3, vI x3), (4, vI x4), (5, vI x5), (6, vI x6), (7, vI x7), (8, vI x8), (9, vI w21.1)]) dX12_seats_131 (Nat.le_of_ble_eq_true rfl) [1, 2, 3, 4, 5, 6, 7, 8, 9, 0] rfl ?_
  refine ea_iload (pc := 133) dX12_seats_133 4 rfl ?_
  refine ea_iconst (pc := 135) dX12_seats_135 (v := (-1)) rfl ?_
  refine ea_icmp_eq (pc := 136) (tgt := 149) dX12_seats_136 rfl (fun c23 => ?_) (fun c23 => ?_)
  · have E := (if_pos c23).symm.trans E
    refine ea_iload (pc := 149) dX12_seats_149 9 rfl ?_
    refine ea_istore (pc := 151) (lv' := [(0, vR (some 326)), (1, vI x1), (2, vI x2), (3, vI x3), (4, vI w21.1), (7, vI x7), (8, vI x8)]) dX12_seats_151 (Nat.le_of_ble_eq_true rfl) [1, 2, 3, 4, 0, 7, 8] rfl ?_
    refine ea_iload (pc := 153) dX12_seats_153 5 rfl ?_
    refine ea_istore (pc := 155) (lv' := [(0, vR (some 326)), (1, vI x1), (2, vI x2), (3, vI x3), (4, vI w21.1), (5, vI x7), (7, vI x7), (8, vI x8)]) dX12_seats_155 (Nat.le_of_ble_eq_true rfl) [1, 2, 3, 4, 5, 0, 6, 7] rfl ?_
    refine ea_iload (pc := 157) dX12_seats_157 7 rfl ?_
    refine ea_istore (pc := 159) (lv' := [(0, vR (some 326)), (1, vI x1), (2, vI x2), (3, vI x3), (4, vI w21.1), (5, vI x7), (6, vI x8), (7, vI x7), (8, vI x8)]) dX12_seats_159 (Nat.le_of_ble_eq_true rfl) [1, 2, 3, 4, 5, 6, 0, 7, 8] rfl ?_
    refine ea_iinc (pc := 161) (v := 1) (lv' := [(0, vR (some 326)), (1, vI x1), (2, vI x2), (3, vI x3), (4, vI w21.1), (5, vI x7), (6, vI x8), (7, vI x7), (8, vI (x8 + (1 : Int32)))]) dX12_seats_161 8 rfl rfl (Nat.le_of_ble_eq_true rfl) [1, 2, 3, 4, 5, 6, 7, 8, 0] rfl ?_
    refine ea_goto (pc := 164) (tgt := 82) dX12_seats_164 rfl ?_
    exact (kJ82 (x1 : Int32) (x2 : Int32) (x3 : Int32) (w21.1 : Int32) (x7 : Int32) (x8 : Int32) (x7 : Int32) ((x8 + (1 : Int32)) : Int32) w21.2 _ _ E hsw21)
  · have E := (if_neg c23).symm.trans E
    refine ea_iload (pc := 139) dX12_seats_139 9 rfl ?_
    refine ea_iload (pc := 141) dX12_seats_141 4 rfl ?_
    refine ea_icmp_lt (pc := 143) (tgt := 149) dX12_seats_143 rfl (fun c22 => ?_) (fun c22 => ?_)
    · have E := (if_pos c22).symm.trans E
      refine ea_iload (pc := 149) dX12_seats_149 9 rfl ?_
      refine ea_istore (pc := 151) (lv' := [(0, vR (some 326)), (1, vI x1), (2, vI x2), (3, vI x3), (4, vI w21.1), (7, vI x7), (8, vI x8)]) dX12_seats_151 (Nat.le_of_ble_eq_true rfl) [1, 2, 3, 4, 0, 7, 8] rfl ?_
      refine ea_iload (pc := 153) dX12_seats_153 5 rfl ?_
      refine ea_istore (pc := 155) (lv' := [(0, vR (some 326)), (1, vI x1), (2, vI x2), (3, vI x3), (4, vI w21.1), (5, vI x7), (7, vI x7), (8, vI x8)]) dX12_seats_155 (Nat.le_of_ble_eq_true rfl) [1, 2, 3, 4, 5, 0, 6, 7] rfl ?_
      refine ea_iload (pc := 157) dX12_seats_157 7 rfl ?_
      refine ea_istore (pc := 159) (lv' := [(0, vR (some 326)), (1, vI x1), (2, vI x2), (3, vI x3), (4, vI w21.1), (5, vI x7), (6, vI x8), (7, vI x7), (8, vI x8)]) dX12_seats_159 (Nat.le_of_ble_eq_true rfl) [1, 2, 3, 4, 5, 6, 0, 7, 8] rfl ?_
      refine ea_iinc (pc := 161) (v := 1) (lv' := [(0, vR (some 326)), (1, vI x1), (2, vI x2), (3, vI x3), (4, vI w21.1), (5, vI x7), (6, vI x8), (7, vI x7), (8, vI (x8 + (1 : Int32)))]) dX12_seats_161 8 rfl rfl (Nat.le_of_ble_eq_true rfl) [1, 2, 3, 4, 5, 6, 7, 8, 0] rfl ?_
      refine ea_goto (pc := 164) (tgt := 82) dX12_seats_164 rfl ?_
      exact (kJ82 (x1 : Int32) (x2 : Int32) (x3 : Int32) (w21.1 : Int32) (x7 : Int32) (x8 : Int32) (x7 : Int32) ((x8 + (1 : Int32)) : Int32) w21.2 _ _ E hsw21)
    · have E := (if_neg c22).symm.trans E
      refine ea_goto (pc := 146) (tgt := 161) dX12_seats_146 rfl ?_
      refine ea_iinc (pc := 161) (v := 1) (lv' := [(0, vR (some 326)), (1, vI x1), (2, vI x2), (3, vI x3), (4, vI x4), (5, vI x5), (6, vI x6), (7, vI x7), (8, vI (x8 + (1 : Int32)))]) dX12_seats_161 8 rfl rfl (Nat.le_of_ble_eq_true rfl) [1, 2, 3, 4, 5, 6, 7, 8, 0] rfl ?_
      refine ea_goto (pc := 164) (tgt := 82) dX12_seats_164 rfl ?_
      exact (kJ82 (x1 : Int32) (x2 : Int32) (x3 : Int32) (x4 : Int32) (x5 : Int32) (x6 : Int32) (x7 : Int32) ((x8 + (1 : Int32)) : Int32) w21.2 _ _ E hsw21)
theorem kBX12_seats_127 {J82 : Int32 → Int32 → Int32 → Int32 → Int32 → Int32 → Int32 → Int32 → ea_H → Option (Int32 × ea_H)}  (cJ82 : ∀ (x1 : Int32) (x2 : Int32) (x3 : Int32) (x4 : Int32) (x5 : Int32) (x6 : Int32) (x7 : Int32) (x8 : Int32) (h : ea_H), kp (ea_core h) (J82 x1 x2 x3 x4 x5 x6 x7 x8 h)) {x1 : Int32} {x2 : Int32} {x3 : Int32} {x4 : Int32} {x5 : Int32} {x6 : Int32} {x7 : Int32} {x8 : Int32} {h : ea_H} : kp (ea_core h) (BX12_seats_127 J82 x1 x2 x3 x4 x5 x6 x7 x8 h) :=
  (kp_bind (kp_tw (kpX12_sums _) rfl) fun w21 hcw21 => (kp_ite (kp_tw (cJ82 _ _ _ _ _ _ _ _ _) hcw21) (kp_ite (kp_tw (cJ82 _ _ _ _ _ _ _ _ _) hcw21) (kp_tw (cJ82 _ _ _ _ _ _ _ _ _) hcw21))))
theorem lBX12_seats_127 {J82 : Int32 → Int32 → Int32 → Int32 → Int32 → Int32 → Int32 → Int32 → ea_H → Option (Int32 × ea_H)} {J82_ : Int32 → Int32 → Int32 → Int32 → Int32 → Int32 → Int32 → Int32 → ea_H → Option (Int32 × ea_H)}  (mJ82 : ∀ (x1 : Int32) (x2 : Int32) (x3 : Int32) (x4 : Int32) (x5 : Int32) (x6 : Int32) (x7 : Int32) (x8 : Int32) (h : ea_H), fle (J82 x1 x2 x3 x4 x5 x6 x7 x8 h) (J82_ x1 x2 x3 x4 x5 x6 x7 x8 h)) {x1 : Int32} {x2 : Int32} {x3 : Int32} {x4 : Int32} {x5 : Int32} {x6 : Int32} {x7 : Int32} {x8 : Int32} {h : ea_H} : fle (BX12_seats_127 J82 x1 x2 x3 x4 x5 x6 x7 x8 h) (BX12_seats_127 J82_ x1 x2 x3 x4 x5 x6 x7 x8 h) :=
  (fle_bind (fle_rfl _) fun _ => (fle_ite (mJ82 _ _ _ _ _ _ _ _ _) (fle_ite (mJ82 _ _ _ _ _ _ _ _ _) (mJ82 _ _ _ _ _ _ _ _ _))))
theorem nBX12_seats_127 {J82 : Int32 → Int32 → Int32 → Int32 → Int32 → Int32 → Int32 → Int32 → ea_H → Option (Int32 × ea_H)} {J82_ : Nat → (Int32 → Int32 → Int32 → Int32 → Int32 → Int32 → Int32 → Int32 → ea_H → Option (Int32 × ea_H))}  (mJ82 : ∀ (x1 : Int32) (x2 : Int32) (x3 : Int32) (x4 : Int32) (x5 : Int32) (x6 : Int32) (x7 : Int32) (x8 : Int32) (h : ea_H), fct (J82 x1 x2 x3 x4 x5 x6 x7 x8 h) (fun f => J82_ f x1 x2 x3 x4 x5 x6 x7 x8 h)) {x1 : Int32} {x2 : Int32} {x3 : Int32} {x4 : Int32} {x5 : Int32} {x6 : Int32} {x7 : Int32} {x8 : Int32} {h : ea_H} : fct (BX12_seats_127 J82 x1 x2 x3 x4 x5 x6 x7 x8 h) (fun f => BX12_seats_127 (J82_ f) x1 x2 x3 x4 x5 x6 x7 x8 h) :=
  (fct_bind (fct_rfl _) fun _ => (fct_ite (mJ82 _ _ _ _ _ _ _ _ _) (fct_ite (mJ82 _ _ _ _ _ _ _ _ _) (mJ82 _ _ _ _ _ _ _ _ _))))
noncomputable def gX12_seats : Nat → (Int32 → ea_H → Option (Int32 × ea_H)) × (Int32 → Int32 → Int32 → Int32 → ea_H → Option (Int32 × ea_H)) × (Int32 → ea_H → Option (Int32 × ea_H)) × (Int32 → Int32 → Int32 → Int32 → Int32 → Int32 → Int32 → ea_H → Option (Int32 × ea_H)) × (Int32 → Int32 → Int32 → Int32 → Int32 → Int32 → Int32 → Int32 → ea_H → Option (Int32 × ea_H)) × (Int32 → Int32 → Int32 → Int32 → Int32 → Int32 → Int32 → Int32 → Int32 → Int32 → ea_H → Option (Int32 × ea_H)) × (Int32 → Int32 → Int32 → Int32 → Int32 → Int32 → Int32 → Int32 → ea_H → Option (Int32 × ea_H))
  | 0 => (fun _ _ => none, fun _ _ _ _ _ => none, fun _ _ => none, fun _ _ _ _ _ _ _ _ => none, fun _ _ _ _ _ _ _ _ _ => none, fun _ _ _ _ _ _ _ _ _ _ _ => none, fun _ _ _ _ _ _ _ _ _ => none)
  | f + 1 => (BX12_seats_0 (gX12_seats f).2.1 (gX12_seats f).2.2.1, BX12_seats_36 (gX12_seats f).2.2.1, BX12_seats_44 (gX12_seats f).2.2.2.1, BX12_seats_70 (gX12_seats f).2.2.2.2.1, BX12_seats_82 (gX12_seats f).2.2.2.2.2.1, BX12_seats_100 (gX12_seats f).2.2.2.1 (gX12_seats f).2.2.2.2.2.2, BX12_seats_127 (gX12_seats f).2.2.2.2.1)
theorem mgX12_seats : ∀ f : Nat, (∀ (x1 : Int32) (h : ea_H), fle ((gX12_seats f).1 x1 h) ((gX12_seats (f + 1)).1 x1 h)) ∧ (∀ (x1 : Int32) (sx0 : Int32) (sx1 : Int32) (sx2 : Int32) (h : ea_H), fle ((gX12_seats f).2.1 x1 sx0 sx1 sx2 h) ((gX12_seats (f + 1)).2.1 x1 sx0 sx1 sx2 h)) ∧ (∀ (x1 : Int32) (h : ea_H), fle ((gX12_seats f).2.2.1 x1 h) ((gX12_seats (f + 1)).2.2.1 x1 h)) ∧ (∀ (x1 : Int32) (x2 : Int32) (x3 : Int32) (x4 : Int32) (x5 : Int32) (x6 : Int32) (x7 : Int32) (h : ea_H), fle ((gX12_seats f).2.2.2.1 x1 x2 x3 x4 x5 x6 x7 h) ((gX12_seats (f + 1)).2.2.2.1 x1 x2 x3 x4 x5 x6 x7 h)) ∧ (∀ (x1 : Int32) (x2 : Int32) (x3 : Int32) (x4 : Int32) (x5 : Int32) (x6 : Int32) (x7 : Int32) (x8 : Int32) (h : ea_H), fle ((gX12_seats f).2.2.2.2.1 x1 x2 x3 x4 x5 x6 x7 x8 h) ((gX12_seats (f + 1)).2.2.2.2.1 x1 x2 x3 x4 x5 x6 x7 x8 h)) ∧ (∀ (x1 : Int32) (x2 : Int32) (x3 : Int32) (x4 : Int32) (x5 : Int32) (x6 : Int32) (x7 : Int32) (x8 : Int32) (sx0 : Int32) (sx1 : Int32) (h : ea_H), fle ((gX12_seats f).2.2.2.2.2.1 x1 x2 x3 x4 x5 x6 x7 x8 sx0 sx1 h) ((gX12_seats (f + 1)).2.2.2.2.2.1 x1 x2 x3 x4 x5 x6 x7 x8 sx0 sx1 h)) ∧ (∀ (x1 : Int32) (x2 : Int32) (x3 : Int32) (x4 : Int32) (x5 : Int32) (x6 : Int32) (x7 : Int32) (x8 : Int32) (h : ea_H), fle ((gX12_seats f).2.2.2.2.2.2 x1 x2 x3 x4 x5 x6 x7 x8 h) ((gX12_seats (f + 1)).2.2.2.2.2.2 x1 x2 x3 x4 x5 x6 x7 x8 h)) := by
  intro f
  induction f with
  | zero => exact ⟨fun _ _ => fle_none _, fun _ _ _ _ _ => fle_none _, fun _ _ => fle_none _, fun _ _ _ _ _ _ _ _ => fle_none _, fun _ _ _ _ _ _ _ _ _ => fle_none _, fun _ _ _ _ _ _ _ _ _ _ _ => fle_none _, fun _ _ _ _ _ _ _ _ _ => fle_none _⟩
  | succ f ih => exact ⟨fun _ _ => lBX12_seats_0 ih.2.1 ih.2.2.1, fun _ _ _ _ _ => lBX12_seats_36 ih.2.2.1, fun _ _ => lBX12_seats_44 ih.2.2.2.1, fun _ _ _ _ _ _ _ _ => lBX12_seats_70 ih.2.2.2.2.1, fun _ _ _ _ _ _ _ _ _ => lBX12_seats_82 ih.2.2.2.2.2.1, fun _ _ _ _ _ _ _ _ _ _ _ => lBX12_seats_100 ih.2.2.2.1 ih.2.2.2.2.2.2, fun _ _ _ _ _ _ _ _ _ => lBX12_seats_127 ih.2.2.2.2.1⟩
noncomputable def qX12_seats_0 (x1 : Int32) (h : ea_H) : Option (Int32 × ea_H) := flim fun f => (gX12_seats f).1 x1 h
noncomputable def qX12_seats_36 (x1 : Int32) (sx0 : Int32) (sx1 : Int32) (sx2 : Int32) (h : ea_H) : Option (Int32 × ea_H) := flim fun f => (gX12_seats f).2.1 x1 sx0 sx1 sx2 h
noncomputable def qX12_seats_44 (x1 : Int32) (h : ea_H) : Option (Int32 × ea_H) := flim fun f => (gX12_seats f).2.2.1 x1 h
noncomputable def qX12_seats_70 (x1 : Int32) (x2 : Int32) (x3 : Int32) (x4 : Int32) (x5 : Int32) (x6 : Int32) (x7 : Int32) (h : ea_H) : Option (Int32 × ea_H) := flim fun f => (gX12_seats f).2.2.2.1 x1 x2 x3 x4 x5 x6 x7 h
noncomputable def qX12_seats_82 (x1 : Int32) (x2 : Int32) (x3 : Int32) (x4 : Int32) (x5 : Int32) (x6 : Int32) (x7 : Int32) (x8 : Int32) (h : ea_H) : Option (Int32 × ea_H) := flim fun f => (gX12_seats f).2.2.2.2.1 x1 x2 x3 x4 x5 x6 x7 x8 h
noncomputable def qX12_seats_100 (x1 : Int32) (x2 : Int32) (x3 : Int32) (x4 : Int32) (x5 : Int32) (x6 : Int32) (x7 : Int32) (x8 : Int32) (sx0 : Int32) (sx1 : Int32) (h : ea_H) : Option (Int32 × ea_H) := flim fun f => (gX12_seats f).2.2.2.2.2.1 x1 x2 x3 x4 x5 x6 x7 x8 sx0 sx1 h
noncomputable def qX12_seats_127 (x1 : Int32) (x2 : Int32) (x3 : Int32) (x4 : Int32) (x5 : Int32) (x6 : Int32) (x7 : Int32) (x8 : Int32) (h : ea_H) : Option (Int32 × ea_H) := flim fun f => (gX12_seats f).2.2.2.2.2.2 x1 x2 x3 x4 x5 x6 x7 x8 h
theorem fqX12_seats_0 (x1 : Int32) (h : ea_H) : fct (qX12_seats_0 x1 h) fun f => (gX12_seats f).1 x1 h := flim_ct fun f => (mgX12_seats f).1 x1 h
theorem fqX12_seats_36 (x1 : Int32) (sx0 : Int32) (sx1 : Int32) (sx2 : Int32) (h : ea_H) : fct (qX12_seats_36 x1 sx0 sx1 sx2 h) fun f => (gX12_seats f).2.1 x1 sx0 sx1 sx2 h := flim_ct fun f => (mgX12_seats f).2.1 x1 sx0 sx1 sx2 h
theorem fqX12_seats_44 (x1 : Int32) (h : ea_H) : fct (qX12_seats_44 x1 h) fun f => (gX12_seats f).2.2.1 x1 h := flim_ct fun f => (mgX12_seats f).2.2.1 x1 h
theorem fqX12_seats_70 (x1 : Int32) (x2 : Int32) (x3 : Int32) (x4 : Int32) (x5 : Int32) (x6 : Int32) (x7 : Int32) (h : ea_H) : fct (qX12_seats_70 x1 x2 x3 x4 x5 x6 x7 h) fun f => (gX12_seats f).2.2.2.1 x1 x2 x3 x4 x5 x6 x7 h := flim_ct fun f => (mgX12_seats f).2.2.2.1 x1 x2 x3 x4 x5 x6 x7 h
theorem fqX12_seats_82 (x1 : Int32) (x2 : Int32) (x3 : Int32) (x4 : Int32) (x5 : Int32) (x6 : Int32) (x7 : Int32) (x8 : Int32) (h : ea_H) : fct (qX12_seats_82 x1 x2 x3 x4 x5 x6 x7 x8 h) fun f => (gX12_seats f).2.2.2.2.1 x1 x2 x3 x4 x5 x6 x7 x8 h := flim_ct fun f => (mgX12_seats f).2.2.2.2.1 x1 x2 x3 x4 x5 x6 x7 x8 h
theorem fqX12_seats_100 (x1 : Int32) (x2 : Int32) (x3 : Int32) (x4 : Int32) (x5 : Int32) (x6 : Int32) (x7 : Int32) (x8 : Int32) (sx0 : Int32) (sx1 : Int32) (h : ea_H) : fct (qX12_seats_100 x1 x2 x3 x4 x5 x6 x7 x8 sx0 sx1 h) fun f => (gX12_seats f).2.2.2.2.2.1 x1 x2 x3 x4 x5 x6 x7 x8 sx0 sx1 h := flim_ct fun f => (mgX12_seats f).2.2.2.2.2.1 x1 x2 x3 x4 x5 x6 x7 x8 sx0 sx1 h
theorem fqX12_seats_127 (x1 : Int32) (x2 : Int32) (x3 : Int32) (x4 : Int32) (x5 : Int32) (x6 : Int32) (x7 : Int32) (x8 : Int32) (h : ea_H) : fct (qX12_seats_127 x1 x2 x3 x4 x5 x6 x7 x8 h) fun f => (gX12_seats f).2.2.2.2.2.2 x1 x2 x3 x4 x5 x6 x7 x8 h := flim_ct fun f => (mgX12_seats f).2.2.2.2.2.2 x1 x2 x3 x4 x5 x6 x7 x8 h
/-- how a block opens -/
theorem uqX12_seats_0 {x1 : Int32} {h : ea_H} {P : Int32 × ea_H → Prop} (H : sat (BX12_seats_0 qX12_seats_36 qX12_seats_44 x1 h) P) : sat (qX12_seats_0 x1 h) P := by
  obtain ⟨x, e, hp⟩ := H
  obtain ⟨n, hn⟩ := nBX12_seats_0 fqX12_seats_36 fqX12_seats_44 x e
  exact ⟨x, flim_at (fun f => (mgX12_seats f).1 x1 h) (f := n + 1) (hn n (Nat.le_refl _)), hp⟩
/-- how a block opens -/
theorem uqX12_seats_36 {x1 : Int32} {sx0 : Int32} {sx1 : Int32} {sx2 : Int32} {h : ea_H} {P : Int32 × ea_H → Prop} (H : sat (BX12_seats_36 qX12_seats_44 x1 sx0 sx1 sx2 h) P) : sat (qX12_seats_36 x1 sx0 sx1 sx2 h) P := by
  obtain ⟨x, e, hp⟩ := H
  obtain ⟨n, hn⟩ := nBX12_seats_36 fqX12_seats_44 x e
  exact ⟨x, flim_at (fun f => (mgX12_seats f).2.1 x1 sx0 sx1 sx2 h) (f := n + 1) (hn n (Nat.le_refl _)), hp⟩
/-- how a block opens -/
theorem uqX12_seats_44 {x1 : Int32} {h : ea_H} {P : Int32 × ea_H → Prop} (H : sat (BX12_seats_44 qX12_seats_70 x1 h) P) : sat (qX12_seats_44 x1 h) P := by
  obtain ⟨x, e, hp⟩ := H
  obtain ⟨n, hn⟩ := nBX12_seats_44 fqX12_seats_70 x e
  exact ⟨x, flim_at (fun f => (mgX12_seats f).2.2.1 x1 h) (f := n + 1) (hn n (Nat.le_refl _)), hp⟩
/-- how a block opens -/
theorem uqX12_seats_70 {x1 : Int32} {x2 : Int32} {x3 : Int32} {x4 : Int32} {x5 : Int32} {x6 : Int32} {x7 : Int32} {h : ea_H} {P : Int32 × ea_H → Prop} (H : sat (BX12_seats_70 qX12_seats_82 x1 x2 x3 x4 x5 x6 x7 h) P) : sat (qX12_seats_70 x1 x2 x3 x4 x5 x6 x7 h) P := by
  obtain ⟨x, e, hp⟩ := H
  obtain ⟨n, hn⟩ := nBX12_seats_70 fqX12_seats_82 x e
  exact ⟨x, flim_at (fun f => (mgX12_seats f).2.2.2.1 x1 x2 x3 x4 x5 x6 x7 h) (f := n + 1) (hn n (Nat.le_refl _)), hp⟩
/-- how a block opens -/
theorem uqX12_seats_82 {x1 : Int32} {x2 : Int32} {x3 : Int32} {x4 : Int32} {x5 : Int32} {x6 : Int32} {x7 : Int32} {x8 : Int32} {h : ea_H} {P : Int32 × ea_H → Prop} (H : sat (BX12_seats_82 qX12_seats_100 x1 x2 x3 x4 x5 x6 x7 x8 h) P) : sat (qX12_seats_82 x1 x2 x3 x4 x5 x6 x7 x8 h) P := by
  obtain ⟨x, e, hp⟩ := H
  obtain ⟨n, hn⟩ := nBX12_seats_82 fqX12_seats_100 x e
  exact ⟨x, flim_at (fun f => (mgX12_seats f).2.2.2.2.1 x1 x2 x3 x4 x5 x6 x7 x8 h) (f := n + 1) (hn n (Nat.le_refl _)), hp⟩
/-- how a block opens -/
theorem uqX12_seats_100 {x1 : Int32} {x2 : Int32} {x3 : Int32} {x4 : Int32} {x5 : Int32} {x6 : Int32} {x7 : Int32} {x8 : Int32} {sx0 : Int32} {sx1 : Int32} {h : ea_H} {P : Int32 × ea_H → Prop} (H : sat (BX12_seats_100 qX12_seats_70 qX12_seats_127 x1 x2 x3 x4 x5 x6 x7 x8 sx0 sx1 h) P) : sat (qX12_seats_100 x1 x2 x3 x4 x5 x6 x7 x8 sx0 sx1 h) P := by
  obtain ⟨x, e, hp⟩ := H
  obtain ⟨n, hn⟩ := nBX12_seats_100 fqX12_seats_70 fqX12_seats_127 x e
  exact ⟨x, flim_at (fun f => (mgX12_seats f).2.2.2.2.2.1 x1 x2 x3 x4 x5 x6 x7 x8 sx0 sx1 h) (f := n + 1) (hn n (Nat.le_refl _)), hp⟩
/-- how a block opens -/
theorem uqX12_seats_127 {x1 : Int32} {x2 : Int32} {x3 : Int32} {x4 : Int32} {x5 : Int32} {x6 : Int32} {x7 : Int32} {x8 : Int32} {h : ea_H} {P : Int32 × ea_H → Prop} (H : sat (BX12_seats_127 qX12_seats_82 x1 x2 x3 x4 x5 x6 x7 x8 h) P) : sat (qX12_seats_127 x1 x2 x3 x4 x5 x6 x7 x8 h) P := by
  obtain ⟨x, e, hp⟩ := H
  obtain ⟨n, hn⟩ := nBX12_seats_127 fqX12_seats_82 x e
  exact ⟨x, flim_at (fun f => (mgX12_seats f).2.2.2.2.2.2 x1 x2 x3 x4 x5 x6 x7 x8 h) (f := n + 1) (hn n (Nat.le_refl _)), hp⟩
theorem kgX12_seats : ∀ f : Nat, (∀ (x1 : Int32) (h : ea_H), kp (ea_core h) ((gX12_seats f).1 x1 h)) ∧ (∀ (x1 : Int32) (sx0 : Int32) (sx1 : Int32) (sx2 : Int32) (h : ea_H), kp (ea_core h) ((gX12_seats f).2.1 x1 sx0 sx1 sx2 h)) ∧ (∀ (x1 : Int32) (h : ea_H), kp (ea_core h) ((gX12_seats f).2.2.1 x1 h)) ∧ (∀ (x1 : Int32) (x2 : Int32) (x3 : Int32) (x4 : Int32) (x5 : Int32) (x6 : Int32) (x7 : Int32) (h : ea_H), kp (ea_core h) ((gX12_seats f).2.2.2.1 x1 x2 x3 x4 x5 x6 x7 h)) ∧ (∀ (x1 : Int32) (x2 : Int32) (x3 : Int32) (x4 : Int32) (x5 : Int32) (x6 : Int32) (x7 : Int32) (x8 : Int32) (h : ea_H), kp (ea_core h) ((gX12_seats f).2.2.2.2.1 x1 x2 x3 x4 x5 x6 x7 x8 h)) ∧ (∀ (x1 : Int32) (x2 : Int32) (x3 : Int32) (x4 : Int32) (x5 : Int32) (x6 : Int32) (x7 : Int32) (x8 : Int32) (sx0 : Int32) (sx1 : Int32) (h : ea_H), kp (ea_core h) ((gX12_seats f).2.2.2.2.2.1 x1 x2 x3 x4 x5 x6 x7 x8 sx0 sx1 h)) ∧ (∀ (x1 : Int32) (x2 : Int32) (x3 : Int32) (x4 : Int32) (x5 : Int32) (x6 : Int32) (x7 : Int32) (x8 : Int32) (h : ea_H), kp (ea_core h) ((gX12_seats f).2.2.2.2.2.2 x1 x2 x3 x4 x5 x6 x7 x8 h)) := by
  intro f
  induction f with
  | zero => exact ⟨fun _ _ => kp_none _, fun _ _ _ _ _ => kp_none _, fun _ _ => kp_none _, fun _ _ _ _ _ _ _ _ => kp_none _, fun _ _ _ _ _ _ _ _ _ => kp_none _, fun _ _ _ _ _ _ _ _ _ _ _ => kp_none _, fun _ _ _ _ _ _ _ _ _ => kp_none _⟩
  | succ f ih => exact ⟨fun _ _ => kBX12_seats_0 ih.2.1 ih.2.2.1, fun _ _ _ _ _ => kBX12_seats_36 ih.2.2.1, fun _ _ => kBX12_seats_44 ih.2.2.2.1, fun _ _ _ _ _ _ _ _ => kBX12_seats_70 ih.2.2.2.2.1, fun _ _ _ _ _ _ _ _ _ => kBX12_seats_82 ih.2.2.2.2.2.1, fun _ _ _ _ _ _ _ _ _ _ _ => kBX12_seats_100 ih.2.2.2.1 ih.2.2.2.2.2.2, fun _ _ _ _ _ _ _ _ _ => kBX12_seats_127 ih.2.2.2.2.1⟩
theorem tgX12_seats {d : Nat} {h0 : ea_H} (hd : 9 ≤ d) : ∀ f : Nat, (∀ (x1 : Int32) (h : ea_H) (r : Int32) (h' : ea_H), (gX12_seats f).1 x1 h = some (r, h') → ShM h → ea_W mX12_seats d h0 (some (vI r)) h' 0 [(0, vR (some 326)), (1, vI x1)] [] h) ∧ (∀ (x1 : Int32) (sx0 : Int32) (sx1 : Int32) (sx2 : Int32) (h : ea_H) (r : Int32) (h' : ea_H), (gX12_seats f).2.1 x1 sx0 sx1 sx2 h = some (r, h') → ShM h → ea_W mX12_seats d h0 (some (vI r)) h' 36 [(0, vR (some 326)), (1, vI x1)] [vI sx0, vI sx1, vI sx2] h) ∧ (∀ (x1 : Int32) (h : ea_H) (r : Int32) (h' : ea_H), (gX12_seats f).2.2.1 x1 h = some (r, h') → ShM h → ea_W mX12_seats d h0 (some (vI r)) h' 44 [(0, vR (some 326)), (1, vI x1)] [] h) ∧ (∀ (x1 : Int32) (x2 : Int32) (x3 : Int32) (x4 : Int32) (x5 : Int32) (x6 : Int32) (x7 : Int32) (h : ea_H) (r : Int32) (h' : ea_H), (gX12_seats f).2.2.2.1 x1 x2 x3 x4 x5 x6 x7 h = some (r, h') → ShM h → ea_W mX12_seats d h0 (some (vI r)) h' 70 [(0, vR (some 326)), (1, vI x1), (2, vI x2), (3, vI x3), (4, vI x4), (5, vI x5), (6, vI x6), (7, vI x7)] [] h) ∧ (∀ (x1 : Int32) (x2 : Int32) (x3 : Int32) (x4 : Int32) (x5 : Int32) (x6 : Int32) (x7 : Int32) (x8 : Int32) (h : ea_H) (r : Int32) (h' : ea_H), (gX12_seats f).2.2.2.2.1 x1 x2 x3 x4 x5 x6 x7 x8 h = some (r, h') → ShM h → ea_W mX12_seats d h0 (some (vI r)) h' 82 [(0, vR (some 326)), (1, vI x1), (2, vI x2), (3, vI x3), (4, vI x4), (5, vI x5), (6, vI x6), (7, vI x7), (8, vI x8)] [] h) ∧ (∀ (x1 : Int32) (x2 : Int32) (x3 : Int32) (x4 : Int32) (x5 : Int32) (x6 : Int32) (x7 : Int32) (x8 : Int32) (sx0 : Int32) (sx1 : Int32) (h : ea_H) (r : Int32) (h' : ea_H), (gX12_seats f).2.2.2.2.2.1 x1 x2 x3 x4 x5 x6 x7 x8 sx0 sx1 h = some (r, h') → ShM h → ea_W mX12_seats d h0 (some (vI r)) h' 100 [(0, vR (some 326)), (1, vI x1), (2, vI x2), (3, vI x3), (4, vI x4), (5, vI x5), (6, vI x6), (7, vI x7), (8, vI x8)] [vI sx0, vI sx1] h) ∧ (∀ (x1 : Int32) (x2 : Int32) (x3 : Int32) (x4 : Int32) (x5 : Int32) (x6 : Int32) (x7 : Int32) (x8 : Int32) (h : ea_H) (r : Int32) (h' : ea_H), (gX12_seats f).2.2.2.2.2.2 x1 x2 x3 x4 x5 x6 x7 x8 h = some (r, h') → ShM h → ea_W mX12_seats d h0 (some (vI r)) h' 127 [(0, vR (some 326)), (1, vI x1), (2, vI x2), (3, vI x3), (4, vI x4), (5, vI x5), (6, vI x6), (7, vI x7), (8, vI x8)] [] h) := by
  intro f
  induction f with
  | zero => exact ⟨fun _ _ _ _ E => no_some E, fun _ _ _ _ _ _ _ E => no_some E, fun _ _ _ _ E => no_some E, fun _ _ _ _ _ _ _ _ _ _ E => no_some E, fun _ _ _ _ _ _ _ _ _ _ _ E => no_some E, fun _ _ _ _ _ _ _ _ _ _ _ _ _ E => no_some E, fun _ _ _ _ _ _ _ _ _ _ _ E => no_some E⟩
  | succ f ih => exact ⟨fun _ _ _ _ E hs => tBX12_seats_0 hd ih.2.1 ih.2.2.1 E hs, fun _ _ _ _ _ _ _ E hs => tBX12_seats_36 hd ih.2.2.1 E hs, fun _ _ _ _ E hs => tBX12_seats_44 hd ih.2.2.2.1 E hs, fun _ _ _ _ _ _ _ _ _ _ E hs => tBX12_seats_70 hd ih.2.2.2.2.1 E hs, fun _ _ _ _ _ _ _ _ _ _ _ E hs => tBX12_seats_82 hd ih.2.2.2.2.2.1 E hs, fun _ _ _ _ _ _ _ _ _ _ _ _ _ E hs => tBX12_seats_100 hd ih.2.2.2.1 ih.2.2.2.2.2.2 E hs, fun _ _ _ _ _ _ _ _ _ _ _ E hs => tBX12_seats_127 hd ih.2.2.2.2.1 E hs⟩
noncomputable def qX12_seats (x1 : Int32) (h : ea_H) : Option (Int32 × ea_H) := qX12_seats_0 x1 h
theorem sX12_seats {d : Nat} {x1 : Int32} {h : ea_H} {r : Int32} {h' : ea_H} (hd : 9 ≤ d) (hs : ShM h) (K : qX12_seats x1 h = some (r, h')) : ea_Met mX12_seats d [vR (some 326), vI x1] h (some (vI r)) h' := by
  unfold qX12_seats at K
  obtain ⟨n, hn⟩ := fqX12_seats_0 x1 h _ K
  have W := (tgX12_seats (d := d) (h0 := h) hd n).1 x1 h _ _ (hn n (Nat.le_refl _)) hs
  exact ea_enter rfl (Nat.le_of_ble_eq_true rfl) W
theorem kpX12_seats (x1 : Int32) (h : ea_H) : kp (ea_core h) (qX12_seats x1 h) := fun x e => by
  obtain ⟨n, hn⟩ := fqX12_seats_0 x1 h x e
  exact (kgX12_seats n).1 x1 h x (hn n (Nat.le_refl _))
noncomputable def BX12_sumOf_0 (JX12_sumOf_9 : Nat → ea_H → Option (Int32 × ea_H)) (JX12_product_0 : Nat → ea_H → Option (Int32 × ea_H)) (dep : Nat) (h : ea_H) : Option (Int32 × ea_H) :=
  (gd (0 < dep) (Option.bind (JX12_product_0 (dep - 1)  h) fun w1 => (if w1.1 = (0 : Int32) then (some ((0 : Int32), w1.2)) else (JX12_sumOf_9 dep w1.2))))
theorem tBX12_sumOf_0 {JX12_sumOf_9 : Nat → ea_H → Option (Int32 × ea_H)} {JX12_product_0 : Nat → ea_H → Option (Int32 × ea_H)}  (kJX12_sumOf_9 : ∀ (dep : Nat) (h : ea_H) (r : Int32) (h' : ea_H), JX12_sumOf_9 dep h = some (r, h') → ShM h → ∀ (d : Nat) (h0 : ea_H), 10 + dep ≤ d → ea_W mX12_sumOf d h0 (some (vI r)) h' 9 [(0, vR (some 326))] [] h) (kJX12_product_0 : ∀ (dep : Nat) (h : ea_H) (r : Int32) (h' : ea_H), JX12_product_0 dep h = some (r, h') → ShM h → ∀ (d : Nat) (h0 : ea_H), 10 + dep ≤ d → ea_W mX12_product d h0 (some (vI r)) h' 0 [(0, vR (some 326))] [] h) (cJX12_product_0 : ∀ (dep : Nat) (h : ea_H), kp (ea_core h) (JX12_product_0 dep h)) {dep : Nat} {h : ea_H} {r : Int32} {h' : ea_H} (E : BX12_sumOf_0 JX12_sumOf_9 JX12_product_0 dep h = some (r, h')) (hs : ShM h) {d : Nat} {h0 : ea_H} (hd : 10 + dep ≤ d) : ea_W mX12_sumOf d h0 (some (vI r)) h' 0 [(0, vR (some 326))] [] h := by
  unfold BX12_sumOf_0 at E
  obtain ⟨zd2, E⟩ := gd_some E
  refine ea_aload_n (pc := 0) dX12_sumOf_0 rfl 0 rfl ?_
  obtain ⟨w1, Ew1, E⟩ := bd_some E
  have hsw1 : ShM w1.2 := ShM_core ((cJX12_product_0 (dep - 1)  _) _ Ew1) hs
  refine ea_callV (pc := 1) (d' := d - 1) (As := []) (st := []) dX12_sumOf_1 kX12_product (ea_enter rfl (Nat.le_of_ble_eq_true rfl) (kJX12_product_0 (dep - 1)  _ _ _ Ew1 hs (d - 1) h (by omega))) (by omega) rfl (Nat.le_of_ble_eq_true rfl) ew_1987 ew_1989 ew_79 (ci := 12) rfl (by decide) (cShM_326 hs).1 (cShM_326 hs).2.1 ?_
  refine ea_if_ne (pc := 4) (tgt := 9) dX12_sumOf_4 rfl (fun c3 => ?_) (fun c3 => ?_)
  · have E := (if_neg c3).symm.trans E
    exact (kJX12_sumOf_9 dep w1.2 _ _ E hsw1 d h0 hd)
  · have E := (if_pos c3).symm.trans E
    refine ea_iconst (pc := 7) dX12_sumOf_7 (v := 0) rfl ?_
    exact ea_iretO (pc := 8) dX12_sumOf_8 rfl (ea_bn (Or.inl rfl)) E
theorem kBX12_sumOf_0 {JX12_sumOf_9 : Nat → ea_H → Option (Int32 × ea_H)} {JX12_product_0 : Nat → ea_H → Option (Int32 × ea_H)}  (cJX12_sumOf_9 : ∀ (dep : Nat) (h : ea_H), kp (ea_core h) (JX12_sumOf_9 dep h)) (cJX12_product_0 : ∀ (dep : Nat) (h : ea_H), kp (ea_core h) (JX12_product_0 dep h)) {dep : Nat} {h : ea_H} : kp (ea_core h) (BX12_sumOf_0 JX12_sumOf_9 JX12_product_0 dep h) :=
  (kp_gd (kp_bind (kp_tw (cJX12_product_0 (dep - 1)  _) rfl) fun w1 hcw1 => (kp_ite (kp_ret hcw1) (kp_tw (cJX12_sumOf_9 _ _) hcw1))))
theorem lBX12_sumOf_0 {JX12_sumOf_9 : Nat → ea_H → Option (Int32 × ea_H)} {JX12_product_0 : Nat → ea_H → Option (Int32 × ea_H)} {JX12_sumOf_9_ : Nat → ea_H → Option (Int32 × ea_H)} {JX12_product_0_ : Nat → ea_H → Option (Int32 × ea_H)}  (mJX12_sumOf_9 : ∀ (dep : Nat) (h : ea_H), fle (JX12_sumOf_9 dep h) (JX12_sumOf_9_ dep h)) (mJX12_product_0 : ∀ (dep : Nat) (h : ea_H), fle (JX12_product_0 dep h) (JX12_product_0_ dep h)) {dep : Nat} {h : ea_H} : fle (BX12_sumOf_0 JX12_sumOf_9 JX12_product_0 dep h) (BX12_sumOf_0 JX12_sumOf_9_ JX12_product_0_ dep h) :=
  (fle_gd (fle_bind (mJX12_product_0 _  _) fun _ => (fle_ite (fle_rfl _) (mJX12_sumOf_9 _ _))))
theorem nBX12_sumOf_0 {JX12_sumOf_9 : Nat → ea_H → Option (Int32 × ea_H)} {JX12_product_0 : Nat → ea_H → Option (Int32 × ea_H)} {JX12_sumOf_9_ : Nat → (Nat → ea_H → Option (Int32 × ea_H))} {JX12_product_0_ : Nat → (Nat → ea_H → Option (Int32 × ea_H))}  (mJX12_sumOf_9 : ∀ (dep : Nat) (h : ea_H), fct (JX12_sumOf_9 dep h) (fun f => JX12_sumOf_9_ f dep h)) (mJX12_product_0 : ∀ (dep : Nat) (h : ea_H), fct (JX12_product_0 dep h) (fun f => JX12_product_0_ f dep h)) {dep : Nat} {h : ea_H} : fct (BX12_sumOf_0 JX12_sumOf_9 JX12_product_0 dep h) (fun f => BX12_sumOf_0 (JX12_sumOf_9_ f) (JX12_product_0_ f) dep h) :=
  (fct_gd (fct_bind (mJX12_product_0 _  _) fun _ => (fct_ite (fct_rfl _) (mJX12_sumOf_9 _ _))))
noncomputable def BX12_sumOf_9 (JX12_sumOf_27 : Nat → ea_H → Option (Int32 × ea_H)) (dep : Nat) (h : ea_H) : Option (Int32 × ea_H) :=
  (if (ea_i h 326 54) = (43 : Int32) then (JX12_sumOf_27 dep h) else (if (ea_i h 326 54) = (45 : Int32) then (JX12_sumOf_27 dep h) else (some ((1 : Int32), h))))
theorem tBX12_sumOf_9 {JX12_sumOf_27 : Nat → ea_H → Option (Int32 × ea_H)}  (kJX12_sumOf_27 : ∀ (dep : Nat) (h : ea_H) (r : Int32) (h' : ea_H), JX12_sumOf_27 dep h = some (r, h') → ShM h → ∀ (d : Nat) (h0 : ea_H), 10 + dep ≤ d → ea_W mX12_sumOf d h0 (some (vI r)) h' 27 [(0, vR (some 326))] [] h) {dep : Nat} {h : ea_H} {r : Int32} {h' : ea_H} (E : BX12_sumOf_9 JX12_sumOf_27 dep h = some (r, h')) (hs : ShM h) {d : Nat} {h0 : ea_H} (hd : 10 + dep ≤ d) : ea_W mX12_sumOf d h0 (some (vI r)) h' 9 [(0, vR (some 326))] [] h := by
  unfold BX12_sumOf_9 at E
  refine ea_aload_n (pc := 9) dX12_sumOf_9 rfl 0 rfl ?_
  refine ea_getI (pc := 10) dX12_sumOf_10 ec_12 (k := 54) (Nat.le_of_ble_eq_true rfl) rfl (Or.inl ew_1456) (cShM_326 hs).1 (cShM_326 hs).2.1 ?_
  refine ea_bipush (pc := 13) dX12_sumOf_13 (v := 43) rfl ?_
  refine ea_icmp_eq (pc := 15) (tgt := 27) dX12_sumOf_15 rfl (fun c5 => ?_) (fun c5 => ?_)
  · have E := (if_pos c5).symm.trans E
    exact (kJX12_sumOf_27 dep h _ _ E hs d h0 hd)
  · have E := (if_neg c5).symm.trans E
    refine ea_aload_n (pc := 18) dX12_sumOf_18 rfl 0 rfl ?_
    refine ea_getI (pc := 19) dX12_sumOf_19 ec_12 (k := 54) (Nat.le_of_ble_eq_true rfl) rfl (Or.inl ew_1456) (cShM_326 hs).1 (cShM_326 hs).2.1 ?_
    refine ea_bipush (pc := 22) dX12_sumOf_22 (v := 45) rfl ?_
    refine ea_icmp_ne (pc := 24) (tgt := 66) dX12_sumOf_24 rfl (fun c4 => ?_) (fun c4 => ?_)
    · have E := (if_neg c4).symm.trans E
      refine ea_iconst (pc := 66) dX12_sumOf_66 (v := 1) rfl ?_
      exact ea_iretO (pc := 67) dX12_sumOf_67 rfl (ea_bn (Or.inr rfl)) E
    · have E := (if_pos c4).symm.trans E
      exact (kJX12_sumOf_27 dep h _ _ E hs d h0 hd)
theorem kBX12_sumOf_9 {JX12_sumOf_27 : Nat → ea_H → Option (Int32 × ea_H)}  (cJX12_sumOf_27 : ∀ (dep : Nat) (h : ea_H), kp (ea_core h) (JX12_sumOf_27 dep h)) {dep : Nat} {h : ea_H} : kp (ea_core h) (BX12_sumOf_9 JX12_sumOf_27 dep h) :=
  (kp_ite (kp_tw (cJX12_sumOf_27 _ _) rfl) (kp_ite (kp_tw (cJX12_sumOf_27 _ _) rfl) (kp_ret rfl)))
theorem lBX12_sumOf_9 {JX12_sumOf_27 : Nat → ea_H → Option (Int32 × ea_H)} {JX12_sumOf_27_ : Nat → ea_H → Option (Int32 × ea_H)}  (mJX12_sumOf_27 : ∀ (dep : Nat) (h : ea_H), fle (JX12_sumOf_27 dep h) (JX12_sumOf_27_ dep h)) {dep : Nat} {h : ea_H} : fle (BX12_sumOf_9 JX12_sumOf_27 dep h) (BX12_sumOf_9 JX12_sumOf_27_ dep h) :=
  (fle_ite (mJX12_sumOf_27 _ _) (fle_ite (mJX12_sumOf_27 _ _) (fle_rfl _)))
theorem nBX12_sumOf_9 {JX12_sumOf_27 : Nat → ea_H → Option (Int32 × ea_H)} {JX12_sumOf_27_ : Nat → (Nat → ea_H → Option (Int32 × ea_H))}  (mJX12_sumOf_27 : ∀ (dep : Nat) (h : ea_H), fct (JX12_sumOf_27 dep h) (fun f => JX12_sumOf_27_ f dep h)) {dep : Nat} {h : ea_H} : fct (BX12_sumOf_9 JX12_sumOf_27 dep h) (fun f => BX12_sumOf_9 (JX12_sumOf_27_ f) dep h) :=
  (fct_ite (mJX12_sumOf_27 _ _) (fct_ite (mJX12_sumOf_27 _ _) (fct_rfl _)))
noncomputable def BX12_sumOf_27 (JX12_sumOf_43 : Nat → Int32 → ea_H → Option (Int32 × ea_H)) (dep : Nat) (h : ea_H) : Option (Int32 × ea_H) :=
  (if (ea_i h 326 54) = (43 : Int32) then (JX12_sumOf_43 dep (8 : Int32) h) else (JX12_sumOf_43 dep (9 : Int32) h))
theorem tBX12_sumOf_27 {JX12_sumOf_43 : Nat → Int32 → ea_H → Option (Int32 × ea_H)}  (kJX12_sumOf_43 : ∀ (dep : Nat) (sx0 : Int32) (h : ea_H) (r : Int32) (h' : ea_H), JX12_sumOf_43 dep sx0 h = some (r, h') → ShM h → ∀ (d : Nat) (h0 : ea_H), 10 + dep ≤ d → ea_W mX12_sumOf d h0 (some (vI r)) h' 43 [(0, vR (some 326))] [vI sx0] h) {dep : Nat} {h : ea_H} {r : Int32} {h' : ea_H} (E : BX12_sumOf_27 JX12_sumOf_43 dep h = some (r, h')) (hs : ShM h) {d : Nat} {h0 : ea_H} (hd : 10 + dep ≤ d) : ea_W mX12_sumOf d h0 (some (vI r)) h' 27 [(0, vR (some 326))] [] h := by
  unfold BX12_sumOf_27 at E
  refine ea_aload_n (pc := 27) dX12_sumOf_27 rfl 0 rfl ?_
  refine ea_getI (pc := 28) dX12_sumOf_28 ec_12 (k := 54) (Nat.le_of_ble_eq_true rfl) rfl (Or.inl ew_1456) (cShM_326 hs).1 (cShM_326 hs).2.1 ?_
  refine ea_bipush (pc := 31) dX12_sumOf_31 (v := 43) rfl ?_
  refine ea_icmp_ne (pc := 33) (tgt := 41) dX12_sumOf_33 rfl (fun c6 => ?_) (fun c6 => ?_)
  · have E := (if_neg c6).symm.trans E
    refine ea_bipush (pc := 41) dX12_sumOf_41 (v := 9) rfl ?_
    exact (kJX12_sumOf_43 dep (9 : Int32) h _ _ E hs d h0 hd)
  · have E := (if_pos c6).symm.trans E
    refine ea_bipush (pc := 36) dX12_sumOf_36 (v := 8) rfl ?_
    refine ea_goto (pc := 38) (tgt := 43) dX12_sumOf_38 rfl ?_
    exact (kJX12_sumOf_43 dep (8 : Int32) h _ _ E hs d h0 hd)
theorem kBX12_sumOf_27 {JX12_sumOf_43 : Nat → Int32 → ea_H → Option (Int32 × ea_H)}  (cJX12_sumOf_43 : ∀ (dep : Nat) (sx0 : Int32) (h : ea_H), kp (ea_core h) (JX12_sumOf_43 dep sx0 h)) {dep : Nat} {h : ea_H} : kp (ea_core h) (BX12_sumOf_27 JX12_sumOf_43 dep h) :=
  (kp_ite (kp_tw (cJX12_sumOf_43 _ _ _) rfl) (kp_tw (cJX12_sumOf_43 _ _ _) rfl))
theorem lBX12_sumOf_27 {JX12_sumOf_43 : Nat → Int32 → ea_H → Option (Int32 × ea_H)} {JX12_sumOf_43_ : Nat → Int32 → ea_H → Option (Int32 × ea_H)}  (mJX12_sumOf_43 : ∀ (dep : Nat) (sx0 : Int32) (h : ea_H), fle (JX12_sumOf_43 dep sx0 h) (JX12_sumOf_43_ dep sx0 h)) {dep : Nat} {h : ea_H} : fle (BX12_sumOf_27 JX12_sumOf_43 dep h) (BX12_sumOf_27 JX12_sumOf_43_ dep h) :=
  (fle_ite (mJX12_sumOf_43 _ _ _) (mJX12_sumOf_43 _ _ _))
theorem nBX12_sumOf_27 {JX12_sumOf_43 : Nat → Int32 → ea_H → Option (Int32 × ea_H)} {JX12_sumOf_43_ : Nat → (Nat → Int32 → ea_H → Option (Int32 × ea_H))}  (mJX12_sumOf_43 : ∀ (dep : Nat) (sx0 : Int32) (h : ea_H), fct (JX12_sumOf_43 dep sx0 h) (fun f => JX12_sumOf_43_ f dep sx0 h)) {dep : Nat} {h : ea_H} : fct (BX12_sumOf_27 JX12_sumOf_43 dep h) (fun f => BX12_sumOf_27 (JX12_sumOf_43_ f) dep h) :=
  (fct_ite (mJX12_sumOf_43 _ _ _) (mJX12_sumOf_43 _ _ _))
noncomputable def BX12_sumOf_43 (JX12_sumOf_9 : Nat → ea_H → Option (Int32 × ea_H)) (JX12_product_0 : Nat → ea_H → Option (Int32 × ea_H)) (dep : Nat) (sx0 : Int32) (h : ea_H) : Option (Int32 × ea_H) :=
  (Option.bind (qX12_next0  h) fun w7 => (gd (0 < dep) (Option.bind (JX12_product_0 (dep - 1)  w7.2) fun w8 => (if w8.1 = (0 : Int32) then (some ((0 : Int32), w8.2)) else (Option.bind (qX12_lay (sx0 : Int32) (0 : Int32) w8.2) fun w10 => (JX12_sumOf_9 dep w10.2))))))
theorem tBX12_sumOf_43 {JX12_sumOf_9 : Nat → ea_H → Option (Int32 × ea_H)} {JX12_product_0 : Nat → ea_H → Option (Int32 × ea_H)}  (kJX12_sumOf_9 : ∀ (dep : Nat) (h : ea_H) (r : Int32) (h' : ea_H), JX12_sumOf_9 dep h = some (r, h') → ShM h → ∀ (d : Nat) (h0 : ea_H), 10 + dep ≤ d → ea_W mX12_sumOf d h0 (some (vI r)) h' 9 [(0, vR (some 326))] [] h) (kJX12_product_0 : ∀ (dep : Nat) (h : ea_H) (r : Int32) (h' : ea_H), JX12_product_0 dep h = some (r, h') → ShM h → ∀ (d : Nat) (h0 : ea_H), 10 + dep ≤ d → ea_W mX12_product d h0 (some (vI r)) h' 0 [(0, vR (some 326))] [] h) (cJX12_product_0 : ∀ (dep : Nat) (h : ea_H), kp (ea_core h) (JX12_product_0 dep h)) {sx0 : Int32} {dep : Nat} {h : ea_H} {r : Int32} {h' : ea_H} (E : BX12_sumOf_43 JX12_sumOf_9 JX12_product_0 dep sx0 h = some (r, h')) (hs : ShM h) {d : Nat} {h0 : ea_H} (hd : 10 + dep ≤ d) : ea_W mX12_sumOf d h0 (some (vI r)) h' 43 [(0, vR (some 326))] [vI sx0] h := by
  unfold BX12_sumOf_43 at E
  obtain ⟨w7, Ew7, E⟩ := bd_some E
  have hsw7 : ShM w7.2 := ShM_core ((kpX12_next0 _) _ Ew7) hs
  refine ea_istore_n (pc := 43) (lv' := [(0, vR (some 326)), (1, vI sx0)]) dX12_sumOf_43 rfl (Nat.le_of_ble_eq_true rfl) [1, 0] rfl ?_
  refine ea_aload_n (pc := 44) dX12_sumOf_44 rfl 0 rfl ?_
  refine ea_callV (pc := 45) (d' := d - 1) (As := []) (st := []) dX12_sumOf_45 kX12_next0 (sX12_next0 (d := d - 1) (by omega) hs Ew7) (by omega) rfl (Nat.le_of_ble_eq_true rfl) ew_1879 ew_1881 ew_70 (ci := 12) rfl (by decide) (cShM_326 hs).1 (cShM_326 hs).2.1 ?_
  obtain ⟨zd9, E⟩ := gd_some E
  refine ea_aload_n (pc := 48) dX12_sumOf_48 rfl 0 rfl ?_
  obtain ⟨w8, Ew8, E⟩ := bd_some E
  have hsw8 : ShM w8.2 := ShM_core ((cJX12_product_0 (dep - 1)  _) _ Ew8) hsw7
  refine ea_callV (pc := 49) (d' := d - 1) (As := []) (st := []) dX12_sumOf_49 kX12_product (ea_enter rfl (Nat.le_of_ble_eq_true rfl) (kJX12_product_0 (dep - 1)  _ _ _ Ew8 hsw7 (d - 1) w7.2 (by omega))) (by omega) rfl (Nat.le_of_ble_eq_true rfl) ew_1987 ew_1989 ew_79 (ci := 12) rfl (by decide) (cShM_326 hsw7).1 (cShM_326 hsw7).2.1 ?_
  refine ea_if_ne (pc := 52) (tgt := 57) dX12_sumOf_52 rfl (fun c11 => ?_) (fun c11 => ?_)
  · have E := (if_neg c11).symm.trans E
    obtain ⟨w10, Ew10, E⟩ := bd_some E
    have hsw10 : ShM w10.2 := ShM_core ((kpX12_lay _ _ _) _ Ew10) hsw8
    refine ea_aload_n (pc := 57) dX12_sumOf_57 rfl 0 rfl ?_
    refine ea_iload_n (pc := 58) dX12_sumOf_58 rfl 1 rfl ?_
    refine ea_iconst (pc := 59) dX12_sumOf_59 (v := 0) rfl ?_
    refine ea_callV (pc := 60) (d' := d - 1) (As := [vI sx0, vI 0]) (st := []) dX12_sumOf_60 kX12_lay (sX12_lay (d := d - 1) (by omega) hsw8 Ew10) (by omega) rfl (Nat.le_of_ble_eq_true rfl) ew_2003 ew_2005 ew_83 (ci := 12) rfl (by decide) (cShM_326 hsw8).1 (cShM_326 hsw8).2.1 ?_
    refine ea_goto (pc := 63) (tgt := 9) dX12_sumOf_63 rfl ?_
    exact ea_fewer [0] rfl (kJX12_sumOf_9 dep w10.2 _ _ E hsw10 d h0 hd)
  · have E := (if_pos c11).symm.trans E
    refine ea_iconst (pc := 55) dX12_sumOf_55 (v := 0) rfl ?_
    exact ea_iretO (pc := 56) dX12_sumOf_56 rfl (ea_bn (Or.inl rfl)) E
theorem kBX12_sumOf_43 {JX12_sumOf_9 : Nat → ea_H → Option (Int32 × ea_H)} {JX12_product_0 : Nat → ea_H → Option (Int32 × ea_H)}  (cJX12_sumOf_9 : ∀ (dep : Nat) (h : ea_H), kp (ea_core h) (JX12_sumOf_9 dep h)) (cJX12_product_0 : ∀ (dep : Nat) (h : ea_H), kp (ea_core h) (JX12_product_0 dep h)) {dep : Nat} {sx0 : Int32} {h : ea_H} : kp (ea_core h) (BX12_sumOf_43 JX12_sumOf_9 JX12_product_0 dep sx0 h) :=
  (kp_bind (kp_tw (kpX12_next0 _) rfl) fun w7 hcw7 => (kp_gd (kp_bind (kp_tw (cJX12_product_0 (dep - 1)  _) hcw7) fun w8 hcw8 => (kp_ite (kp_ret hcw8) (kp_bind (kp_tw (kpX12_lay _ _ _) hcw8) fun w10 hcw10 => (kp_tw (cJX12_sumOf_9 _ _) hcw10))))))
theorem lBX12_sumOf_43 {JX12_sumOf_9 : Nat → ea_H → Option (Int32 × ea_H)} {JX12_product_0 : Nat → ea_H → Option (Int32 × ea_H)} {JX12_sumOf_9_ : Nat → ea_H → Option (Int32 × ea_H)} {JX12_product_0_ : Nat → ea_H → Option (Int32 × ea_H)}  (mJX12_sumOf_9 : ∀ (dep : Nat) (h : ea_H), fle (JX12_sumOf_9 dep h) (JX12_sumOf_9_ dep h)) (mJX12_product_0 : ∀ (dep : Nat) (h : ea_H), fle (JX12_product_0 dep h) (JX12_product_0_ dep h)) {dep : Nat} {sx0 : Int32} {h : ea_H} : fle (BX12_sumOf_43 JX12_sumOf_9 JX12_product_0 dep sx0 h) (BX12_sumOf_43 JX12_sumOf_9_ JX12_product_0_ dep sx0 h) :=
  (fle_bind (fle_rfl _) fun _ => (fle_gd (fle_bind (mJX12_product_0 _  _) fun _ => (fle_ite (fle_rfl _) (fle_bind (fle_rfl _) fun _ => (mJX12_sumOf_9 _ _))))))
theorem nBX12_sumOf_43 {JX12_sumOf_9 : Nat → ea_H → Option (Int32 × ea_H)} {JX12_product_0 : Nat → ea_H → Option (Int32 × ea_H)} {JX12_sumOf_9_ : Nat → (Nat → ea_H → Option (Int32 × ea_H))} {JX12_product_0_ : Nat → (Nat → ea_H → Option (Int32 × ea_H))}  (mJX12_sumOf_9 : ∀ (dep : Nat) (h : ea_H), fct (JX12_sumOf_9 dep h) (fun f => JX12_sumOf_9_ f dep h)) (mJX12_product_0 : ∀ (dep : Nat) (h : ea_H), fct (JX12_product_0 dep h) (fun f => JX12_product_0_ f dep h)) {dep : Nat} {sx0 : Int32} {h : ea_H} : fct (BX12_sumOf_43 JX12_sumOf_9 JX12_product_0 dep sx0 h) (fun f => BX12_sumOf_43 (JX12_sumOf_9_ f) (JX12_product_0_ f) dep sx0 h) :=
  (fct_bind (fct_rfl _) fun _ => (fct_gd (fct_bind (mJX12_product_0 _  _) fun _ => (fct_ite (fct_rfl _) (fct_bind (fct_rfl _) fun _ => (mJX12_sumOf_9 _ _))))))
noncomputable def BX12_product_0 (JX12_product_9 : Nat → ea_H → Option (Int32 × ea_H)) (JX12_unit_0 : Nat → ea_H → Option (Int32 × ea_H)) (dep : Nat) (h : ea_H) : Option (Int32 × ea_H) :=
  (gd (0 < dep) (Option.bind (JX12_unit_0 (dep - 1)  h) fun w1 => (if w1.1 = (0 : Int32) then (some ((0 : Int32), w1.2)) else (JX12_product_9 dep w1.2))))
theorem tBX12_product_0 {JX12_product_9 : Nat → ea_H → Option (Int32 × ea_H)} {JX12_unit_0 : Nat → ea_H → Option (Int32 × ea_H)}  (kJX12_product_9 : ∀ (dep : Nat) (h : ea_H) (r : Int32) (h' : ea_H), JX12_product_9 dep h = some (r, h') → ShM h → ∀ (d : Nat) (h0 : ea_H), 10 + dep ≤ d → ea_W mX12_product d h0 (some (vI r)) h' 9 [(0, vR (some 326))] [] h) (kJX12_unit_0 : ∀ (dep : Nat) (h : ea_H) (r : Int32) (h' : ea_H), JX12_unit_0 dep h = some (r, h') → ShM h → ∀ (d : Nat) (h0 : ea_H), 10 + dep ≤ d → ea_W mX12_unit d h0 (some (vI r)) h' 0 [(0, vR (some 326))] [] h) (cJX12_unit_0 : ∀ (dep : Nat) (h : ea_H), kp (ea_core h) (JX12_unit_0 dep h)) {dep : Nat} {h : ea_H} {r : Int32} {h' : ea_H} (E : BX12_product_0 JX12_product_9 JX12_unit_0 dep h = some (r, h')) (hs : ShM h) {d : Nat} {h0 : ea_H} (hd : 10 + dep ≤ d) : ea_W mX12_product d h0 (some (vI r)) h' 0 [(0, vR (some 326))] [] h := by
  unfold BX12_product_0 at E
  obtain ⟨zd2, E⟩ := gd_some E
  refine ea_aload_n (pc := 0) dX12_product_0 rfl 0 rfl ?_
  obtain ⟨w1, Ew1, E⟩ := bd_some E
  have hsw1 : ShM w1.2 := ShM_core ((cJX12_unit_0 (dep - 1)  _) _ Ew1) hs
  refine ea_callV (pc := 1) (d' := d - 1) (As := []) (st := []) dX12_product_1 kX12_unit (ea_enter rfl (Nat.le_of_ble_eq_true rfl) (kJX12_unit_0 (dep - 1)  _ _ _ Ew1 hs (d - 1) h (by omega))) (by omega) rfl (Nat.le_of_ble_eq_true rfl) ew_1991 ew_1993 ew_80 (ci := 12) rfl (by decide) (cShM_326 hs).1 (cShM_326 hs).2.1 ?_
  refine ea_if_ne (pc := 4) (tgt := 9) dX12_product_4 rfl (fun c3 => ?_) (fun c3 => ?_)
  · have E := (if_neg c3).symm.trans E
    exact (kJX12_product_9 dep w1.2 _ _ E hsw1 d h0 hd)
  · have E := (if_pos c3).symm.trans E
    refine ea_iconst (pc := 7) dX12_product_7 (v := 0) rfl ?_
    exact ea_iretO (pc := 8) dX12_product_8 rfl (ea_bn (Or.inl rfl)) E
theorem kBX12_product_0 {JX12_product_9 : Nat → ea_H → Option (Int32 × ea_H)} {JX12_unit_0 : Nat → ea_H → Option (Int32 × ea_H)}  (cJX12_product_9 : ∀ (dep : Nat) (h : ea_H), kp (ea_core h) (JX12_product_9 dep h)) (cJX12_unit_0 : ∀ (dep : Nat) (h : ea_H), kp (ea_core h) (JX12_unit_0 dep h)) {dep : Nat} {h : ea_H} : kp (ea_core h) (BX12_product_0 JX12_product_9 JX12_unit_0 dep h) :=
  (kp_gd (kp_bind (kp_tw (cJX12_unit_0 (dep - 1)  _) rfl) fun w1 hcw1 => (kp_ite (kp_ret hcw1) (kp_tw (cJX12_product_9 _ _) hcw1))))
theorem lBX12_product_0 {JX12_product_9 : Nat → ea_H → Option (Int32 × ea_H)} {JX12_unit_0 : Nat → ea_H → Option (Int32 × ea_H)} {JX12_product_9_ : Nat → ea_H → Option (Int32 × ea_H)} {JX12_unit_0_ : Nat → ea_H → Option (Int32 × ea_H)}  (mJX12_product_9 : ∀ (dep : Nat) (h : ea_H), fle (JX12_product_9 dep h) (JX12_product_9_ dep h)) (mJX12_unit_0 : ∀ (dep : Nat) (h : ea_H), fle (JX12_unit_0 dep h) (JX12_unit_0_ dep h)) {dep : Nat} {h : ea_H} : fle (BX12_product_0 JX12_product_9 JX12_unit_0 dep h) (BX12_product_0 JX12_product_9_ JX12_unit_0_ dep h) :=
  (fle_gd (fle_bind (mJX12_unit_0 _  _) fun _ => (fle_ite (fle_rfl _) (mJX12_product_9 _ _))))
theorem nBX12_product_0 {JX12_product_9 : Nat → ea_H → Option (Int32 × ea_H)} {JX12_unit_0 : Nat → ea_H → Option (Int32 × ea_H)} {JX12_product_9_ : Nat → (Nat → ea_H → Option (Int32 × ea_H))} {JX12_unit_0_ : Nat → (Nat → ea_H → Option (Int32 × ea_H))}  (mJX12_product_9 : ∀ (dep : Nat) (h : ea_H), fct (JX12_product_9 dep h) (fun f => JX12_product_9_ f dep h)) (mJX12_unit_0 : ∀ (dep : Nat) (h : ea_H), fct (JX12_unit_0 dep h) (fun f => JX12_unit_0_ f dep h)) {dep : Nat} {h : ea_H} : fct (BX12_product_0 JX12_product_9 JX12_unit_0 dep h) (fun f => BX12_product_0 (JX12_product_9_ f) (JX12_unit_0_ f) dep h) :=
  (fct_gd (fct_bind (mJX12_unit_0 _  _) fun _ => (fct_ite (fct_rfl _) (mJX12_product_9 _ _))))
noncomputable def BX12_product_9 (JX12_product_27 : Nat → ea_H → Option (Int32 × ea_H)) (dep : Nat) (h : ea_H) : Option (Int32 × ea_H) :=
  (if (ea_i h 326 54) = (42 : Int32) then (JX12_product_27 dep h) else (if (ea_i h 326 54) = (47 : Int32) then (JX12_product_27 dep h) else (some ((1 : Int32), h))))
theorem tBX12_product_9 {JX12_product_27 : Nat → ea_H → Option (Int32 × ea_H)}  (kJX12_product_27 : ∀ (dep : Nat) (h : ea_H) (r : Int32) (h' : ea_H), JX12_product_27 dep h = some (r, h') → ShM h → ∀ (d : Nat) (h0 : ea_H), 10 + dep ≤ d → ea_W mX12_product d h0 (some (vI r)) h' 27 [(0, vR (some 326))] [] h) {dep : Nat} {h : ea_H} {r : Int32} {h' : ea_H} (E : BX12_product_9 JX12_product_27 dep h = some (r, h')) (hs : ShM h) {d : Nat} {h0 : ea_H} (hd : 10 + dep ≤ d) : ea_W mX12_product d h0 (some (vI r)) h' 9 [(0, vR (some 326))] [] h := by
  unfold BX12_product_9 at E
  refine ea_aload_n (pc := 9) dX12_product_9 rfl 0 rfl ?_
  refine ea_getI (pc := 10) dX12_product_10 ec_12 (k := 54) (Nat.le_of_ble_eq_true rfl) rfl (Or.inl ew_1456) (cShM_326 hs).1 (cShM_326 hs).2.1 ?_
  refine ea_bipush (pc := 13) dX12_product_13 (v := 42) rfl ?_
  refine ea_icmp_eq (pc := 15) (tgt := 27) dX12_product_15 rfl (fun c5 => ?_) (fun c5 => ?_)
  · have E := (if_pos c5).symm.trans E
    exact (kJX12_product_27 dep h _ _ E hs d h0 hd)
  · have E := (if_neg c5).symm.trans E
    refine ea_aload_n (pc := 18) dX12_product_18 rfl 0 rfl ?_
    refine ea_getI (pc := 19) dX12_product_19 ec_12 (k := 54) (Nat.le_of_ble_eq_true rfl) rfl (Or.inl ew_1456) (cShM_326 hs).1 (cShM_326 hs).2.1 ?_
    refine ea_bipush (pc := 22) dX12_product_22 (v := 47) rfl ?_
    refine ea_icmp_ne (pc := 24) (tgt := 113) dX12_product_24 rfl (fun c4 => ?_) (fun c4 => ?_)
    · have E := (if_neg c4).symm.trans E
      refine ea_iconst (pc := 113) dX12_product_113 (v := 1) rfl ?_
      exact ea_iretO (pc := 114) dX12_product_114 rfl (ea_bn (Or.inr rfl)) E
    · have E := (if_pos c4).symm.trans E
      exact (kJX12_product_27 dep h _ _ E hs d h0 hd)
theorem kBX12_product_9 {JX12_product_27 : Nat → ea_H → Option (Int32 × ea_H)}  (cJX12_product_27 : ∀ (dep : Nat) (h : ea_H), kp (ea_core h) (JX12_product_27 dep h)) {dep : Nat} {h : ea_H} : kp (ea_core h) (BX12_product_9 JX12_product_27 dep h) :=
  (kp_ite (kp_tw (cJX12_product_27 _ _) rfl) (kp_ite (kp_tw (cJX12_product_27 _ _) rfl) (kp_ret rfl)))
theorem lBX12_product_9 {JX12_product_27 : Nat → ea_H → Option (Int32 × ea_H)} {JX12_product_27_ : Nat → ea_H → Option (Int32 × ea_H)}  (mJX12_product_27 : ∀ (dep : Nat) (h : ea_H), fle (JX12_product_27 dep h) (JX12_product_27_ dep h)) {dep : Nat} {h : ea_H} : fle (BX12_product_9 JX12_product_27 dep h) (BX12_product_9 JX12_product_27_ dep h) :=
  (fle_ite (mJX12_product_27 _ _) (fle_ite (mJX12_product_27 _ _) (fle_rfl _)))
theorem nBX12_product_9 {JX12_product_27 : Nat → ea_H → Option (Int32 × ea_H)} {JX12_product_27_ : Nat → (Nat → ea_H → Option (Int32 × ea_H))}  (mJX12_product_27 : ∀ (dep : Nat) (h : ea_H), fct (JX12_product_27 dep h) (fun f => JX12_product_27_ f dep h)) {dep : Nat} {h : ea_H} : fct (BX12_product_9 JX12_product_27 dep h) (fun f => BX12_product_9 (JX12_product_27_ f) dep h) :=
  (fct_ite (mJX12_product_27 _ _) (fct_ite (mJX12_product_27 _ _) (fct_rfl _)))
noncomputable def BX12_product_27 (JX12_product_41 : Nat → Int32 → ea_H → Option (Int32 × ea_H)) (dep : Nat) (h : ea_H) : Option (Int32 × ea_H) :=
  (if (ea_i h 326 54) = (47 : Int32) then (JX12_product_41 dep (1 : Int32) h) else (JX12_product_41 dep (0 : Int32) h))
theorem tBX12_product_27 {JX12_product_41 : Nat → Int32 → ea_H → Option (Int32 × ea_H)}  (kJX12_product_41 : ∀ (dep : Nat) (sx0 : Int32) (h : ea_H) (r : Int32) (h' : ea_H), JX12_product_41 dep sx0 h = some (r, h') → ShM h → ∀ (d : Nat) (h0 : ea_H), 10 + dep ≤ d → ea_W mX12_product d h0 (some (vI r)) h' 41 [(0, vR (some 326))] [vI sx0] h) {dep : Nat} {h : ea_H} {r : Int32} {h' : ea_H} (E : BX12_product_27 JX12_product_41 dep h = some (r, h')) (hs : ShM h) {d : Nat} {h0 : ea_H} (hd : 10 + dep ≤ d) : ea_W mX12_product d h0 (some (vI r)) h' 27 [(0, vR (some 326))] [] h := by
  unfold BX12_product_27 at E
  refine ea_aload_n (pc := 27) dX12_product_27 rfl 0 rfl ?_
  refine ea_getI (pc := 28) dX12_product_28 ec_12 (k := 54) (Nat.le_of_ble_eq_true rfl) rfl (Or.inl ew_1456) (cShM_326 hs).1 (cShM_326 hs).2.1 ?_
  refine ea_bipush (pc := 31) dX12_product_31 (v := 47) rfl ?_
  refine ea_icmp_ne (pc := 33) (tgt := 40) dX12_product_33 rfl (fun c6 => ?_) (fun c6 => ?_)
  · have E := (if_neg c6).symm.trans E
    refine ea_iconst (pc := 40) dX12_product_40 (v := 0) rfl ?_
    exact (kJX12_product_41 dep (0 : Int32) h _ _ E hs d h0 hd)
  · have E := (if_pos c6).symm.trans E
    refine ea_iconst (pc := 36) dX12_product_36 (v := 1) rfl ?_
    refine ea_goto (pc := 37) (tgt := 41) dX12_product_37 rfl ?_
    exact (kJX12_product_41 dep (1 : Int32) h _ _ E hs d h0 hd)
theorem kBX12_product_27 {JX12_product_41 : Nat → Int32 → ea_H → Option (Int32 × ea_H)}  (cJX12_product_41 : ∀ (dep : Nat) (sx0 : Int32) (h : ea_H), kp (ea_core h) (JX12_product_41 dep sx0 h)) {dep : Nat} {h : ea_H} : kp (ea_core h) (BX12_product_27 JX12_product_41 dep h) :=
  (kp_ite (kp_tw (cJX12_product_41 _ _ _) rfl) (kp_tw (cJX12_product_41 _ _ _) rfl))
theorem lBX12_product_27 {JX12_product_41 : Nat → Int32 → ea_H → Option (Int32 × ea_H)} {JX12_product_41_ : Nat → Int32 → ea_H → Option (Int32 × ea_H)}  (mJX12_product_41 : ∀ (dep : Nat) (sx0 : Int32) (h : ea_H), fle (JX12_product_41 dep sx0 h) (JX12_product_41_ dep sx0 h)) {dep : Nat} {h : ea_H} : fle (BX12_product_27 JX12_product_41 dep h) (BX12_product_27 JX12_product_41_ dep h) :=
  (fle_ite (mJX12_product_41 _ _ _) (mJX12_product_41 _ _ _))
theorem nBX12_product_27 {JX12_product_41 : Nat → Int32 → ea_H → Option (Int32 × ea_H)} {JX12_product_41_ : Nat → (Nat → Int32 → ea_H → Option (Int32 × ea_H))}  (mJX12_product_41 : ∀ (dep : Nat) (sx0 : Int32) (h : ea_H), fct (JX12_product_41 dep sx0 h) (fun f => JX12_product_41_ f dep sx0 h)) {dep : Nat} {h : ea_H} : fct (BX12_product_27 JX12_product_41 dep h) (fun f => BX12_product_27 (JX12_product_41_ f) dep h) :=
  (fct_ite (mJX12_product_41 _ _ _) (mJX12_product_41 _ _ _))
noncomputable def BX12_product_41 (JX12_product_9 : Nat → ea_H → Option (Int32 × ea_H)) (JX12_unit_0 : Nat → ea_H → Option (Int32 × ea_H)) (dep : Nat) (sx0 : Int32) (h : ea_H) : Option (Int32 × ea_H) :=
  (Option.bind (qX12_next0  h) fun w7 => (if sx0 = (0 : Int32) then (gd (0 < dep) (Option.bind (JX12_unit_0 (dep - 1)  w7.2) fun w8 => (if w8.1 = (0 : Int32) then (some ((0 : Int32), w8.2)) else (Option.bind (qX12_lay (10 : Int32) (0 : Int32) w8.2) fun w10 => (JX12_product_9 dep w10.2))))) else (if (ea_i w7.2 326 54) = (2 : Int32) then (if (ea_i w7.2 326 56) = (0 : Int32) then (Option.bind (qX12_bad (2 : Int32) w7.2) fun w14 => (gd ((w14.1 = 0 ∨ w14.1 = 1)) (some (w14.1, w14.2)))) else (Option.bind (qX12_lay (11 : Int32) ((ea_i w7.2 326 56) : Int32) w7.2) fun w12 => (Option.bind (qX12_next0  w12.2) fun w13 => (JX12_product_9 dep w13.2)))) else (Option.bind (qX12_bad (1 : Int32) w7.2) fun w17 => (gd ((w17.1 = 0 ∨ w17.1 = 1)) (some (w17.1, w17.2)))))))
theorem tBX12_product_41 {JX12_product_9 : Nat → ea_H → Option (Int32 × ea_H)} {JX12_unit_0 : Nat → ea_H → Option (Int32 × ea_H)}  (kJX12_product_9 : ∀ (dep : Nat) (h : ea_H) (r : Int32) (h' : ea_H), JX12_product_9 dep h = some (r, h') → ShM h → ∀ (d : Nat) (h0 : ea_H), 10 + dep ≤ d → ea_W mX12_product d h0 (some (vI r)) h' 9 [(0, vR (some 326))] [] h) (kJX12_unit_0 : ∀ (dep : Nat) (h : ea_H) (r : Int32) (h' : ea_H), JX12_unit_0 dep h = some (r, h') → ShM h → ∀ (d : Nat) (h0 : ea_H), 10 + dep ≤ d → ea_W mX12_unit d h0 (some (vI r)) h' 0 [(0, vR (some 326))] [] h) (cJX12_unit_0 : ∀ (dep : Nat) (h : ea_H), kp (ea_core h) (JX12_unit_0 dep h)) {sx0 : Int32} {dep : Nat} {h : ea_H} {r : Int32} {h' : ea_H} (E : BX12_product_41 JX12_product_9 JX12_unit_0 dep sx0 h = some (r, h')) (hs : ShM h) {d : Nat} {h0 : ea_H} (hd : 10 + dep ≤ d) : ea_W mX12_product d h0 (some (vI r)) h' 41 [(0, vR (some 326))] [vI sx0] h := by
  unfold BX12_product_41 at E
  obtain ⟨w7, Ew7, E⟩ := bd_some E
  have hsw7 : ShM w7.2 := ShM_core ((kpX12_next0 _) _ Ew7) hs
  refine ea_istore_n (pc := 41) (lv' := [(0, vR (some 326)), (1, vI sx0)]) dX12_product_41 rfl (Nat.le_of_ble_eq_true rfl) [1, 0] rfl ?_
  refine ea_aload_n (pc := 42) dX12_product_42 rfl 0 rfl ?_
  refine ea_callV (pc := 43) (d' := d - 1) (As := []) (st := []) dX12_product_43 kX12_next0 (sX12_next0 (d := d - 1) (by omega) hs Ew7) (by omega) rfl (Nat.le_of_ble_eq_true rfl) ew_1879 ew_1881 ew_70 (ci := 12) rfl (by decide) (cShM_326 hs).1 (cShM_326 hs).2.1 ?_
  refine ea_iload_n (pc := 46) dX12_product_46 rfl 1 rfl ?_
  refine ea_if_eq (pc := 47) (tgt := 94) dX12_product_47 rfl (fun c20 => ?_) (fun c20 => ?_)
  · have E := (if_pos c20).symm.trans E
    obtain ⟨zd9, E⟩ := gd_some E
    refine ea_aload_n (pc := 94) dX12_product_94 rfl 0 rfl ?_
    obtain ⟨w8, Ew8, E⟩ := bd_some E
    have hsw8 : ShM w8.2 := ShM_core ((cJX12_unit_0 (dep - 1)  _) _ Ew8) hsw7
    refine ea_callV (pc := 95) (d' := d - 1) (As := []) (st := []) dX12_product_95 kX12_unit (ea_enter rfl (Nat.le_of_ble_eq_true rfl) (kJX12_unit_0 (dep - 1)  _ _ _ Ew8 hsw7 (d - 1) w7.2 (by omega))) (by omega) rfl (Nat.le_of_ble_eq_true rfl) ew_1991 ew_1993 ew_80 (ci := 12) rfl (by decide) (cShM_326 hsw7).1 (cShM_326 hsw7).2.1 ?_
    refine ea_if_ne (pc := 98) (tgt := 103) dX12_product_98 rfl (fun c11 => ?_) (fun c11 => ?_)
    · have E := (if_neg c11).symm.trans E
      obtain ⟨w10, Ew10, E⟩ := bd_some E
      have hsw10 : ShM w10.2 := ShM_core ((kpX12_lay _ _ _) _ Ew10) hsw8
      refine ea_aload_n (pc := 103) dX12_product_103 rfl 0 rfl ?_
      refine ea_bipush (pc := 104) dX12_product_104 (v := 10) rfl ?_
      refine ea_iconst (pc := 106) dX12_product_106 (v := 0) rfl ?_
      refine ea_callV (pc := 107) (d' := d - 1) (As := [vI 10, vI 0]) (st := []) dX12_product_107 kX12_lay (sX12_lay (d := d - 1) (by omega) hsw8 Ew10) (by omega) rfl (Nat.le_of_ble_eq_true rfl) ew_2003 ew_2005 ew_83 (ci := 12) rfl (by decide) (cShM_326 hsw8).1 (cShM_326 hsw8).2.1 ?_
      refine ea_goto (pc := 110) (tgt := 9) dX12_product_110 rfl ?_
      exact ea_fewer [0] rfl (kJX12_product_9 dep w10.2 _ _ E hsw10 d h0 hd)
    · have E := (if_pos c11).symm.trans E
      refine ea_iconst (pc := 101) dX12_product_101 (v := 0) rfl ?_
      exact ea_iretO (pc := 102) dX12_product_102 rfl (ea_bn (Or.inl rfl)) E
  · have E := (if_neg c20).symm.trans E
    refine ea_aload_n (pc := 50) dX12_product_50 rfl 0 rfl ?_
    refine ea_getI (pc := 51) dX12_product_51 ec_12 (k := 54) (Nat.le_of_ble_eq_true rfl) rfl (Or.inl ew_1456) (cShM_326 hsw7).1 (cShM_326 hsw7).2.1 ?_
    refine ea_iconst (pc := 54) dX12_product_54 (v := 2) rfl ?_
    refine ea_icmp_eq (pc := 55) (tgt := 64) dX12_product_55 rfl (fun c19 => ?_) (fun c19 => ?_)
    · have E := (if_pos c19).symm.trans E
      refine ea_aload_n (pc := 64) dX12_product_64 rfl 0 rfl ?_
      refine ea_getI (pc := 65) dX12_product_65 ec_12 (k := 56) (Nat.le_of_ble_eq_true rfl) rfl (Or.inl ew_1458) (cShM_326 hsw7).1 (cShM_326 hsw7).2.1 ?_
      refine ea_if_ne (pc := 68) (tgt := 77) dX12_product_68 rfl (fun c16 => ?_) (fun c16 => ?_)
      · have E := (if_neg c16).symm.trans E
        obtain ⟨w12, Ew12, E⟩ := bd_some E
        have hsw12 : ShM w12.2 := ShM_core ((kpX12_lay _ _ _) _ Ew12) hsw7
        refine ea_aload_n (pc := 77) dX12_product_77 rfl 0 rfl ?_
        refine ea_bipush (pc := 78) dX12_product_78 (v := 11) rfl ?_
        refine ea_aload_n (pc := 80) dX12_product_80 rfl 0 rfl ?_
        refine ea_getI (pc := 81) dX12_product_81 ec_12 (k := 56) (Nat.le_of_ble_eq_true rfl) rfl (Or.inl ew_1458) (cShM_326 hsw7).1 (cShM_326 hsw7).2.1 ?_
        refine ea_callV (pc := 84) (d' := d - 1) (As := [vI 11, vI (ea_i w7.2 326 56)]) (st := []) dX12_product_84 kX12_lay (sX12_lay (d := d - 1) (by omega) hsw7 Ew12) (by omega) rfl (Nat.le_of_ble_eq_true rfl) ew_2003 ew_2005 ew_83 (ci := 12) rfl (by decide) (cShM_326 hsw7).1 (cShM_326 hsw7).2.1 ?_
        obtain ⟨w13, Ew13, E⟩ := bd_some E
        have hsw13 : ShM w13.2 := ShM_core ((kpX12_next0 _) _ Ew13) hsw12
        refine ea_aload_n (pc := 87) dX12_product_87 rfl 0 rfl ?_
        refine ea_callV (pc := 88) (d' := d - 1) (As := []) (st := []) dX12_product_88 kX12_next0 (sX12_next0 (d := d - 1) (by omega) hsw12 Ew13) (by omega) rfl (Nat.le_of_ble_eq_true rfl) ew_1879 ew_1881 ew_70 (ci := 12) rfl (by decide) (cShM_326 hsw12).1 (cShM_326 hsw12).2.1 ?_
        refine ea_goto (pc := 91) (tgt := 110) dX12_product_91 rfl ?_
        refine ea_goto (pc := 110) (tgt := 9) dX12_product_110 rfl ?_
        exact ea_fewer [0] rfl (kJX12_product_9 dep w13.2 _ _ E hsw13 d h0 hd)
      · have E := (if_pos c16).symm.trans E
        obtain ⟨w14, Ew14, E⟩ := bd_some E
        have hsw14 : ShM w14.2 := ShM_core ((kpX12_bad _ _) _ Ew14) hsw7
        refine ea_aload_n (pc := 71) dX12_product_71 rfl 0 rfl ?_
        refine ea_iconst (pc := 72) dX12_product_72 (v := 2) rfl ?_
        refine ea_callV (pc := 73) (d' := d - 1) (As := [vI 2]) (st := []) dX12_product_73 kX12_bad (sX12_bad (d := d - 1) (by omega) hsw7 Ew14) (by omega) rfl (Nat.le_of_ble_eq_true rfl) ew_1971 ew_1973 ew_75 (ci := 12) rfl (by decide) (cShM_326 hsw7).1 (cShM_326 hsw7).2.1 ?_
        obtain ⟨z15, E⟩ := gd_some E
        exact ea_iretO (pc := 76) dX12_product_76 rfl (ea_bn z15) E
    · have E := (if_neg c19).symm.trans E
      obtain ⟨w17, Ew17, E⟩ := bd_some E
      have hsw17 : ShM w17.2 := ShM_core ((kpX12_bad _ _) _ Ew17) hsw7
      refine ea_aload_n (pc := 58) dX12_product_58 rfl 0 rfl ?_
      refine ea_iconst (pc := 59) dX12_product_59 (v := 1) rfl ?_
      refine ea_callV (pc := 60) (d' := d - 1) (As := [vI 1]) (st := []) dX12_product_60 kX12_bad (sX12_bad (d := d - 1) (by omega) hsw7 Ew17) (by omega) rfl (Nat.le_of_ble_eq_true rfl) ew_1971 ew_1973 ew_75 (ci := 12) rfl (by decide) (cShM_326 hsw7).1 (cShM_326 hsw7).2.1 ?_
      obtain ⟨z18, E⟩ := gd_some E
      exact ea_iretO (pc := 63) dX12_product_63 rfl (ea_bn z18) E
theorem kBX12_product_41 {JX12_product_9 : Nat → ea_H → Option (Int32 × ea_H)} {JX12_unit_0 : Nat → ea_H → Option (Int32 × ea_H)}  (cJX12_product_9 : ∀ (dep : Nat) (h : ea_H), kp (ea_core h) (JX12_product_9 dep h)) (cJX12_unit_0 : ∀ (dep : Nat) (h : ea_H), kp (ea_core h) (JX12_unit_0 dep h)) {dep : Nat} {sx0 : Int32} {h : ea_H} : kp (ea_core h) (BX12_product_41 JX12_product_9 JX12_unit_0 dep sx0 h) :=
  (kp_bind (kp_tw (kpX12_next0 _) rfl) fun w7 hcw7 => (kp_ite (kp_gd (kp_bind (kp_tw (cJX12_unit_0 (dep - 1)  _) hcw7) fun w8 hcw8 => (kp_ite (kp_ret hcw8) (kp_bind (kp_tw (kpX12_lay _ _ _) hcw8) fun w10 hcw10 => (kp_tw (cJX12_product_9 _ _) hcw10))))) (kp_ite (kp_ite (kp_bind (kp_tw (kpX12_bad _ _) hcw7) fun w14 hcw14 => (kp_gd (kp_ret hcw14))) (kp_bind (kp_tw (kpX12_lay _ _ _) hcw7) fun w12 hcw12 => (kp_bind (kp_tw (kpX12_next0 _) hcw12) fun w13 hcw13 => (kp_tw (cJX12_product_9 _ _) hcw13)))) (kp_bind (kp_tw (kpX12_bad _ _) hcw7) fun w17 hcw17 => (kp_gd (kp_ret hcw17))))))
theorem lBX12_product_41 {JX12_product_9 : Nat → ea_H → Option (Int32 × ea_H)} {JX12_unit_0 : Nat → ea_H → Option (Int32 × ea_H)} {JX12_product_9_ : Nat → ea_H → Option (Int32 × ea_H)} {JX12_unit_0_ : Nat → ea_H → Option (Int32 × ea_H)}  (mJX12_product_9 : ∀ (dep : Nat) (h : ea_H), fle (JX12_product_9 dep h) (JX12_product_9_ dep h)) (mJX12_unit_0 : ∀ (dep : Nat) (h : ea_H), fle (JX12_unit_0 dep h) (JX12_unit_0_ dep h)) {dep : Nat} {sx0 : Int32} {h : ea_H} : fle (BX12_product_41 JX12_product_9 JX12_unit_0 dep sx0 h) (BX12_product_41 JX12_product_9_ JX12_unit_0_ dep sx0 h) :=
  (fle_bind (fle_rfl _) fun _ => (fle_ite (fle_gd (fle_bind (mJX12_unit_0 _  _) fun _ => (fle_ite (fle_rfl _) (fle_bind (fle_rfl _) fun _ => (mJX12_product_9 _ _))))) (fle_ite (fle_ite (fle_rfl _) (fle_bind (fle_rfl _) fun _ => (fle_bind (fle_rfl _) fun _ => (mJX12_product_9 _ _)))) (fle_rfl _))))
theorem nBX12_product_41 {JX12_product_9 : Nat → ea_H → Option (Int32 × ea_H)} {JX12_unit_0 : Nat → ea_H → Option (Int32 × ea_H)} {JX12_product_9_ : Nat → (Nat → ea_H → Option (Int32 × ea_H))} {JX12_unit_0_ : Nat → (Nat → ea_H → Option (Int32 × ea_H))}  (mJX12_product_9 : ∀ (dep : Nat) (h : ea_H), fct (JX12_product_9 dep h) (fun f => JX12_product_9_ f dep h)) (mJX12_unit_0 : ∀ (dep : Nat) (h : ea_H), fct (JX12_unit_0 dep h) (fun f => JX12_unit_0_ f dep h)) {dep : Nat} {sx0 : Int32} {h : ea_H} : fct (BX12_product_41 JX12_product_9 JX12_unit_0 dep sx0 h) (fun f => BX12_product_41 (JX12_product_9_ f) (JX12_unit_0_ f) dep sx0 h) :=
  (fct_bind (fct_rfl _) fun _ => (fct_ite (fct_gd (fct_bind (mJX12_unit_0 _  _) fun _ => (fct_ite (fct_rfl _) (fct_bind (fct_rfl _) fun _ => (mJX12_product_9 _ _))))) (fct_ite (fct_ite (fct_rfl _) (fct_bind (fct_rfl _) fun _ => (fct_bind (fct_rfl _) fun _ => (mJX12_product_9 _ _)))) (fct_rfl _))))
noncomputable def BX12_unit_0 (JX12_sumOf_0 : Nat → ea_H → Option (Int32 × ea_H)) (JX12_unit_70 : Nat → ea_H → Option (Int32 × ea_H)) (dep : Nat) (h : ea_H) : Option (Int32 × ea_H) :=
  (if (ea_i h 326 54) = (40 : Int32) then (Option.bind (qX12_opens  h) fun w5 => (if w5.1 = (0 : Int32) then (some ((0 : Int32), w5.2)) else (gd (0 < dep) (Option.bind (JX12_sumOf_0 (dep - 1)  w5.2) fun w6 => (if w6.1 = (0 : Int32) then (some ((0 : Int32), w6.2)) else (Option.bind (qX12_need (41 : Int32) w6.2) fun w8 => (if w8.1 = (0 : Int32) then (some ((0 : Int32), w8.2)) else (ea_let (ea_wi w8.2 326 60 ((ea_i w8.2 326 60) - (1 : Int32))) fun H9 => (some ((1 : Int32), H9)))))))))) else (if (ea_i h 326 54) = (2 : Int32) then (JX12_unit_70 dep h) else (if (201 : Int32) ≤ (ea_i h 326 54) then (JX12_unit_70 dep h) else (Option.bind (qX12_bad (1 : Int32) h) fun w1 => (gd ((w1.1 = 0 ∨ w1.1 = 1)) (some (w1.1, w1.2)))))))
theorem tBX12_unit_0 {JX12_sumOf_0 : Nat → ea_H → Option (Int32 × ea_H)} {JX12_unit_70 : Nat → ea_H → Option (Int32 × ea_H)}  (kJX12_sumOf_0 : ∀ (dep : Nat) (h : ea_H) (r : Int32) (h' : ea_H), JX12_sumOf_0 dep h = some (r, h') → ShM h → ∀ (d : Nat) (h0 : ea_H), 10 + dep ≤ d → ea_W mX12_sumOf d h0 (some (vI r)) h' 0 [(0, vR (some 326))] [] h) (kJX12_unit_70 : ∀ (dep : Nat) (h : ea_H) (r : Int32) (h' : ea_H), JX12_unit_70 dep h = some (r, h') → ShM h → ∀ (d : Nat) (h0 : ea_H), 10 + dep ≤ d → ea_W mX12_unit d h0 (some (vI r)) h' 70 [(0, vR (some 326))] [] h) (cJX12_sumOf_0 : ∀ (dep : Nat) (h : ea_H), kp (ea_core h) (JX12_sumOf_0 dep h)) {dep : Nat} {h : ea_H} {r : Int32} {h' : ea_H} (E : BX12_unit_0 JX12_sumOf_0 JX12_unit_70 dep h = some (r, h')) (hs : ShM h) {d : Nat} {h0 : ea_H} (hd : 10 + dep ≤ d) : ea_W mX12_unit d h0 (some (vI r)) h' 0 [(0, vR (some 326))] [] h := by
  unfold BX12_unit_0 at E
  refine ea_aload_n (pc := 0) dX12_unit_0 rfl 0 rfl ?_
  refine ea_getI (pc := 1) dX12_unit_1 ec_12 (k := 54) (Nat.le_of_ble_eq_true rfl) rfl (Or.inl ew_1456) (cShM_326 hs).1 (cShM_326 hs).2.1 ?_
  refine ea_bipush (pc := 4) dX12_unit_4 (v := 40) rfl ?_
  refine ea_icmp_ne (pc := 6) (tgt := 46) dX12_unit_6 rfl (fun c13 => ?_) (fun c13 => ?_)
  · have E := (if_neg c13).symm.trans E
    refine ea_aload_n (pc := 46) dX12_unit_46 rfl 0 rfl ?_
    refine ea_getI (pc := 47) dX12_unit_47 ec_12 (k := 54) (Nat.le_of_ble_eq_true rfl) rfl (Or.inl ew_1456) (cShM_326 hs).1 (cShM_326 hs).2.1 ?_
    refine ea_iconst (pc := 50) dX12_unit_50 (v := 2) rfl ?_
    refine ea_icmp_eq (pc := 51) (tgt := 70) dX12_unit_51 rfl (fun c4 => ?_) (fun c4 => ?_)
    · have E := (if_pos c4).symm.trans E
      exact (kJX12_unit_70 dep h _ _ E hs d h0 hd)
    · have E := (if_neg c4).symm.trans E
      refine ea_aload_n (pc := 54) dX12_unit_54 rfl 0 rfl ?_
      refine ea_getI (pc := 55) dX12_unit_55 ec_12 (k := 54) (Nat.le_of_ble_eq_true rfl) rfl (Or.inl ew_1456) (cShM_326 hs).1 (cShM_326 hs).2.1 ?_
      refine ea_sipush (pc := 58) dX12_unit_58 (v := 201) rfl ?_
      refine ea_icmp_ge (pc := 61) (tgt := 70) dX12_unit_61 rfl (fun c3 => ?_) (fun c3 => ?_)
      · have E := (if_pos c3).symm.trans E
        exact (kJX12_unit_70 dep h _ _ E hs d h0 hd)
      · have E := (if_neg c3).symm.trans E
        obtain ⟨w1, Ew1, E⟩ := bd_some E
        have hsw1 : ShM w1.2 := ShM_core ((kpX12_bad _ _) _ Ew1) hs
        refine ea_aload_n (pc := 64) dX12_unit_64 rfl 0 rfl ?_
        refine ea_iconst (pc := 65) dX12_unit_65 (v := 1) rfl ?_
        refine ea_callV (pc := 66) (d' := d - 1) (As := [vI 1]) (st := []) dX12_unit_66 kX12_bad (sX12_bad (d := d - 1) (by omega) hs Ew1) (by omega) rfl (Nat.le_of_ble_eq_true rfl) ew_1971 ew_1973 ew_75 (ci := 12) rfl (by decide) (cShM_326 hs).1 (cShM_326 hs).2.1 ?_
        obtain ⟨z2, E⟩ := gd_some E
        exact ea_iretO (pc := 69) dX12_unit_69 rfl (ea_bn z2) E
  · have E := (if_pos c13).symm.trans E
    obtain ⟨w5, Ew5, E⟩ := bd_some E
    have hsw5 : ShM w5.2 := ShM_core ((kpX12_opens _) _ Ew5) hs
    refine ea_aload_n (pc := 9) dX12_unit_9 rfl 0 rfl ?_
    refine ea_callV (pc := 10) (d' := d - 1) (As := []) (st := []) dX12_unit_10 kX12_opens (sX12_opens (d := d - 1) (by omega) hs Ew5) (by omega) rfl (Nat.le_of_ble_eq_true rfl) ew_1995 ew_1997 ew_81 (ci := 12) rfl (by decide) (cShM_326 hs).1 (cShM_326 hs).2.1 ?_
    refine ea_if_eq (pc := 13) (tgt := 32) dX12_unit_13 rfl (fun c12 => ?_) (fun c12 => ?_)
    · have E := (if_pos c12).symm.trans E
      refine ea_iconst (pc := 32) dX12_unit_32 (v := 0) rfl ?_
      exact ea_iretO (pc := 33) dX12_unit_33 rfl (ea_bn (Or.inl rfl)) E
    · have E := (if_neg c12).symm.trans E
      obtain ⟨zd7, E⟩ := gd_some E
      refine ea_aload_n (pc := 16) dX12_unit_16 rfl 0 rfl ?_
      obtain ⟨w6, Ew6, E⟩ := bd_some E
      have hsw6 : ShM w6.2 := ShM_core ((cJX12_sumOf_0 (dep - 1)  _) _ Ew6) hsw5
      refine ea_callV (pc := 17) (d' := d - 1) (As := []) (st := []) dX12_unit_17 kX12_sumOf (ea_enter rfl (Nat.le_of_ble_eq_true rfl) (kJX12_sumOf_0 (dep - 1)  _ _ _ Ew6 hsw5 (d - 1) w5.2 (by omega))) (by omega) rfl (Nat.le_of_ble_eq_true rfl) ew_1983 ew_1985 ew_78 (ci := 12) rfl (by decide) (cShM_326 hsw5).1 (cShM_326 hsw5).2.1 ?_
      refine ea_if_eq (pc := 20) (tgt := 32) dX12_unit_20 rfl (fun c11 => ?_) (fun c11 => ?_)
      · have E := (if_pos c11).symm.trans E
        refine ea_iconst (pc := 32) dX12_unit_32 (v := 0) rfl ?_
        exact ea_iretO (pc := 33) dX12_unit_33 rfl (ea_bn (Or.inl rfl)) E
      · have E := (if_neg c11).symm.trans E
        obtain ⟨w8, Ew8, E⟩ := bd_some E
        have hsw8 : ShM w8.2 := ShM_core ((kpX12_need _ _) _ Ew8) hsw6
        refine ea_aload_n (pc := 23) dX12_unit_23 rfl 0 rfl ?_
        refine ea_bipush (pc := 24) dX12_unit_24 (v := 41) rfl ?_
        refine ea_callV (pc := 26) (d' := d - 1) (As := [vI 41]) (st := []) dX12_unit_26 kX12_need (sX12_need (d := d - 1) (by omega) hsw6 Ew8) (by omega) rfl (Nat.le_of_ble_eq_true rfl) ew_1999 ew_2001 ew_82 (ci := 12) rfl (by decide) (cShM_326 hsw6).1 (cShM_326 hsw6).2.1 ?_
        refine ea_if_ne (pc := 29) (tgt := 34) dX12_unit_29 rfl (fun c10 => ?_) (fun c10 => ?_)
        · have E := (if_neg c10).symm.trans E
          obtain ⟨H9, eH9, E⟩ := let_some E
          refine ea_aload_n (pc := 34) dX12_unit_34 rfl 0 rfl ?_
          refine ea_dup (pc := 35) dX12_unit_35 rfl ?_
          refine ea_getI (pc := 36) dX12_unit_36 ec_12 (k := 60) (Nat.le_of_ble_eq_true rfl) rfl (Or.inl ew_1462) (cShM_326 hsw8).1 (cShM_326 hsw8).2.1 ?_
          refine ea_iconst (pc := 39) dX12_unit_39 (v := 1) rfl ?_
          refine ea_isub (pc := 40) dX12_unit_40 ?_
          refine ea_putI (pc := 41) dX12_unit_41 ec_12 (k := 60) (Nat.le_of_ble_eq_true rfl) rfl (Or.inl ⟨rfl, Or.inl ew_1462⟩) rfl rfl (cShM_326 hsw8).1 (cShM_326 hsw8).2.1 ?_
          refine ea_nm eH9 ?_
          have hsH9 : ShM H9 := by rw [eH9]; exact hsw8
          refine ea_iconst (pc := 44) dX12_unit_44 (v := 1) rfl ?_
          exact ea_iretO (pc := 45) dX12_unit_45 rfl (ea_bn (Or.inr rfl)) E
        · have E := (if_pos c10).symm.trans E
          refine ea_iconst (pc := 32) dX12_unit_32 (v := 0) rfl ?_
          exact ea_iretO (pc := 33) dX12_unit_33 rfl (ea_bn (Or.inl rfl)) E
theorem kBX12_unit_0 {JX12_sumOf_0 : Nat → ea_H → Option (Int32 × ea_H)} {JX12_unit_70 : Nat → ea_H → Option (Int32 × ea_H)}  (cJX12_sumOf_0 : ∀ (dep : Nat) (h : ea_H), kp (ea_core h) (JX12_sumOf_0 dep h)) (cJX12_unit_70 : ∀ (dep : Nat) (h : ea_H), kp (ea_core h) (JX12_unit_70 dep h)) {dep : Nat} {h : ea_H} : kp (ea_core h) (BX12_unit_0 JX12_sumOf_0 JX12_unit_70 dep h) :=
  (kp_ite (kp_bind (kp_tw (kpX12_opens _) rfl) fun w5 hcw5 => (kp_ite (kp_ret hcw5) (kp_gd (kp_bind (kp_tw (cJX12_sumOf_0 (dep - 1)  _) hcw5) fun w6 hcw6 => (kp_ite (kp_ret hcw6) (kp_bind (kp_tw (kpX12_need _ _) hcw6) fun w8 hcw8 => (kp_ite (kp_ret hcw8) (kp_let (kp_ret hcw8))))))))) (kp_ite (kp_tw (cJX12_unit_70 _ _) rfl) (kp_ite (kp_tw (cJX12_unit_70 _ _) rfl) (kp_bind (kp_tw (kpX12_bad _ _) rfl) fun w1 hcw1 => (kp_gd (kp_ret hcw1))))))
theorem lBX12_unit_0 {JX12_sumOf_0 : Nat → ea_H → Option (Int32 × ea_H)} {JX12_unit_70 : Nat → ea_H → Option (Int32 × ea_H)} {JX12_sumOf_0_ : Nat → ea_H → Option (Int32 × ea_H)} {JX12_unit_70_ : Nat → ea_H → Option (Int32 × ea_H)}  (mJX12_sumOf_0 : ∀ (dep : Nat) (h : ea_H), fle (JX12_sumOf_0 dep h) (JX12_sumOf_0_ dep h)) (mJX12_unit_70 : ∀ (dep : Nat) (h : ea_H), fle (JX12_unit_70 dep h) (JX12_unit_70_ dep h)) {dep : Nat} {h : ea_H} : fle (BX12_unit_0 JX12_sumOf_0 JX12_unit_70 dep h) (BX12_unit_0 JX12_sumOf_0_ JX12_unit_70_ dep h) :=
  (fle_ite (fle_bind (fle_rfl _) fun _ => (fle_ite (fle_rfl _) (fle_gd (fle_bind (mJX12_sumOf_0 _  _) fun _ => (fle_rfl _))))) (fle_ite (mJX12_unit_70 _ _) (fle_ite (mJX12_unit_70 _ _) (fle_rfl _))))
theorem nBX12_unit_0 {JX12_sumOf_0 : Nat → ea_H → Option (Int32 × ea_H)} {JX12_unit_70 : Nat → ea_H → Option (Int32 × ea_H)} {JX12_sumOf_0_ : Nat → (Nat → ea_H → Option (Int32 × ea_H))} {JX12_unit_70_ : Nat → (Nat → ea_H → Option (Int32 × ea_H))}  (mJX12_sumOf_0 : ∀ (dep : Nat) (h : ea_H), fct (JX12_sumOf_0 dep h) (fun f => JX12_sumOf_0_ f dep h)) (mJX12_unit_70 : ∀ (dep : Nat) (h : ea_H), fct (JX12_unit_70 dep h) (fun f => JX12_unit_70_ f dep h)) {dep : Nat} {h : ea_H} : fct (BX12_unit_0 JX12_sumOf_0 JX12_unit_70 dep h) (fun f => BX12_unit_0 (JX12_sumOf_0_ f) (JX12_unit_70_ f) dep h) :=
  (fct_ite (fct_bind (fct_rfl _) fun _ => (fct_ite (fct_rfl _) (fct_gd (fct_bind (mJX12_sumOf_0 _  _) fun _ => (fct_rfl _))))) (fct_ite (mJX12_unit_70 _ _) (fct_ite (mJX12_unit_70 _ _) (fct_rfl _))))
noncomputable def BX12_unit_70 (dep : Nat) (h : ea_H) : Option (Int32 × ea_H) :=
  (if (ea_i h 326 54) = (2 : Int32) then (Option.bind (qX12_lay (0 : Int32) ((ea_i h 326 56) : Int32) h) fun w16 => (Option.bind (qX12_next0  w16.2) fun w17 => (some ((1 : Int32), w17.2)))) else (Option.bind (qX12_lay ((((1 : Int32) + (ea_i h 326 54)) - (201 : Int32)) : Int32) ((ea_i h 326 56) : Int32) h) fun w14 => (Option.bind (qX12_next0  w14.2) fun w15 => (some ((1 : Int32), w15.2)))))
theorem tBX12_unit_70  {dep : Nat} {h : ea_H} {r : Int32} {h' : ea_H} (E : BX12_unit_70 dep h = some (r, h')) (hs : ShM h) {d : Nat} {h0 : ea_H} (hd : 10 + dep ≤ d) : ea_W mX12_unit d h0 (some (vI r)) h' 70 [(0, vR (some 326))] [] h := by
  unfold BX12_unit_70 at E
  refine ea_aload_n (pc := 70) dX12_unit_70 rfl 0 rfl ?_
  refine ea_aload_n (pc := 71) dX12_unit_71 rfl 0 rfl ?_
  refine ea_getI (pc := 72) dX12_unit_72 ec_12 (k := 54) (Nat.le_of_ble_eq_true rfl) rfl (Or.inl ew_1456) (cShM_326 hs).1 (cShM_326 hs).2.1 ?_
  refine ea_iconst (pc := 75) dX12_unit_75 (v := 2) rfl ?_
  refine ea_icmp_ne (pc := 76) (tgt := 83) dX12_unit_76 rfl (fun c18 => ?_) (fun c18 => ?_)
  · have E := (if_neg c18).symm.trans E
    obtain ⟨w14, Ew14, E⟩ := bd_some E
    have hsw14 : ShM w14.2 := ShM_core ((kpX12_lay _ _ _) _ Ew14) hs
    refine ea_iconst (pc := 83) dX12_unit_83 (v := 1) rfl ?_
    refine ea_aload_n (pc := 84) dX12_unit_84 rfl 0 rfl ?_
    refine ea_getI (pc := 85) dX12_unit_85 ec_12 (k := 54) (Nat.le_of_ble_eq_true rfl) rfl (Or.inl ew_1456) (cShM_326 hs).1 (cShM_326 hs).2.1 ?_
    refine ea_iadd (pc := 88) dX12_unit_88 ?_
    refine ea_sipush (pc := 89) dX12_unit_89 (v := 201) rfl ?_
    refine ea_isub (pc := 92) dX12_unit_92 ?_
    refine ea_aload_n (pc := 93) dX12_unit_93 rfl 0 rfl ?_
    refine ea_getI (pc := 94) dX12_unit_94 ec_12 (k := 56) (Nat.le_of_ble_eq_true rfl) rfl (Or.inl ew_1458) (cShM_326 hs).1 (cShM_326 hs).2.1 ?_
    refine ea_callV (pc := 97) (d' := d - 1) (As := [vI (((1 : Int32) + (ea_i h 326 54)) - (201 : Int32)), vI (ea_i h 326 56)]) (st := []) dX12_unit_97 kX12_lay (sX12_lay (d := d - 1) (by omega) hs Ew14) (by omega) rfl (Nat.le_of_ble_eq_true rfl) ew_2003 ew_2005 ew_83 (ci := 12) rfl (by decide) (cShM_326 hs).1 (cShM_326 hs).2.1 ?_
    obtain ⟨w15, Ew15, E⟩ := bd_some E
    have hsw15 : ShM w15.2 := ShM_core ((kpX12_next0 _) _ Ew15) hsw14
    refine ea_aload_n (pc := 100) dX12_unit_100 rfl 0 rfl ?_
    refine ea_callV (pc := 101) (d' := d - 1) (As := []) (st := []) dX12_unit_101 kX12_next0 (sX12_next0 (d := d - 1) (by omega) hsw14 Ew15) (by omega) rfl (Nat.le_of_ble_eq_true rfl) ew_1879 ew_1881 ew_70 (ci := 12) rfl (by decide) (cShM_326 hsw14).1 (cShM_326 hsw14).2.1 ?_
    refine ea_iconst (pc := 104) dX12_unit_104 (v := 1) rfl ?_
    exact ea_iretO (pc := 105) dX12_unit_105 rfl (ea_bn (Or.inr rfl)) E
  · have E := (if_pos c18).symm.trans E
    obtain ⟨w16, Ew16, E⟩ := bd_some E
    have hsw16 : ShM w16.2 := ShM_core ((kpX12_lay _ _ _) _ Ew16) hs
    refine ea_iconst (pc := 79) dX12_unit_79 (v := 0) rfl ?_
    refine ea_goto (pc := 80) (tgt := 93) dX12_unit_80 rfl ?_
    refine ea_aload_n (pc := 93) dX12_unit_93 rfl 0 rfl ?_
    refine ea_getI (pc := 94) dX12_unit_94 ec_12 (k := 56) (Nat.le_of_ble_eq_true rfl) rfl (Or.inl ew_1458) (cShM_326 hs).1 (cShM_326 hs).2.1 ?_
    refine ea_callV (pc := 97) (d' := d - 1) (As := [vI 0, vI (ea_i h 326 56)]) (st := []) dX12_unit_97 kX12_lay (sX12_lay (d := d - 1) (by omega) hs Ew16) (by omega) rfl (Nat.le_of_ble_eq_true rfl) ew_2003 ew_2005 ew_83 (ci := 12) rfl (by decide) (cShM_326 hs).1 (cShM_326 hs).2.1 ?_
    obtain ⟨w17, Ew17, E⟩ := bd_some E
    have hsw17 : ShM w17.2 := ShM_core ((kpX12_next0 _) _ Ew17) hsw16
    refine ea_aload_n (pc := 100) dX12_unit_100 rfl 0 rfl ?_
    refine ea_callV (pc := 101) (d' := d - 1) (As := []) (st := []) dX12_unit_101 kX12_next0 (sX12_next0 (d := d - 1) (by omega) hsw16 Ew17) (by omega) rfl (Nat.le_of_ble_eq_true rfl) ew_1879 ew_1881 ew_70 (ci := 12) rfl (by decide) (cShM_326 hsw16).1 (cShM_326 hsw16).2.1 ?_
    refine ea_iconst (pc := 104) dX12_unit_104 (v := 1) rfl ?_
    exact ea_iretO (pc := 105) dX12_unit_105 rfl (ea_bn (Or.inr rfl)) E
theorem kBX12_unit_70  {dep : Nat} {h : ea_H} : kp (ea_core h) (BX12_unit_70 dep h) :=
  (kp_ite (kp_bind (kp_tw (kpX12_lay _ _ _) rfl) fun w16 hcw16 => (kp_bind (kp_tw (kpX12_next0 _) hcw16) fun w17 hcw17 => (kp_ret hcw17))) (kp_bind (kp_tw (kpX12_lay _ _ _) rfl) fun w14 hcw14 => (kp_bind (kp_tw (kpX12_next0 _) hcw14) fun w15 hcw15 => (kp_ret hcw15))))
theorem lBX12_unit_70  {dep : Nat} {h : ea_H} : fle (BX12_unit_70 dep h) (BX12_unit_70 dep h) :=
  (fle_rfl _)
theorem nBX12_unit_70  {dep : Nat} {h : ea_H} : fct (BX12_unit_70 dep h) (fun f => BX12_unit_70 dep h) :=
  (fct_rfl _)
noncomputable def gMG0 : Nat → (Nat → ea_H → Option (Int32 × ea_H)) × (Nat → ea_H → Option (Int32 × ea_H)) × (Nat → ea_H → Option (Int32 × ea_H)) × (Nat → Int32 → ea_H → Option (Int32 × ea_H)) × (Nat → ea_H → Option (Int32 × ea_H)) × (Nat → ea_H → Option (Int32 × ea_H)) × (Nat → ea_H → Option (Int32 × ea_H)) × (Nat → Int32 → ea_H → Option (Int32 × ea_H)) × (Nat → ea_H → Option (Int32 × ea_H)) × (Nat → ea_H → Option (Int32 × ea_H))
  | 0 => (fun _ _ => none, fun _ _ => none, fun _ _ => none, fun _ _ _ => none, fun _ _ => none, fun _ _ => none, fun _ _ => none, fun _ _ _ => none, fun _ _ => none, fun _ _ => none)
  | f + 1 => (BX12_sumOf_0 (gMG0 f).2.1 (gMG0 f).2.2.2.2.1, BX12_sumOf_9 (gMG0 f).2.2.1, BX12_sumOf_27 (gMG0 f).2.2.2.1, BX12_sumOf_43 (gMG0 f).2.1 (gMG0 f).2.2.2.2.1, BX12_product_0 (gMG0 f).2.2.2.2.2.1 (gMG0 f).2.2.2.2.2.2.2.2.1, BX12_product_9 (gMG0 f).2.2.2.2.2.2.1, BX12_product_27 (gMG0 f).2.2.2.2.2.2.2.1, BX12_product_41 (gMG0 f).2.2.2.2.2.1 (gMG0 f).2.2.2.2.2.2.2.2.1, BX12_unit_0 (gMG0 f).1 (gMG0 f).2.2.2.2.2.2.2.2.2, BX12_unit_70)
theorem mgMG0 : ∀ f : Nat, (∀ (dep : Nat) (h : ea_H), fle ((gMG0 f).1 dep h) ((gMG0 (f + 1)).1 dep h)) ∧ (∀ (dep : Nat) (h : ea_H), fle ((gMG0 f).2.1 dep h) ((gMG0 (f + 1)).2.1 dep h)) ∧ (∀ (dep : Nat) (h : ea_H), fle ((gMG0 f).2.2.1 dep h) ((gMG0 (f + 1)).2.2.1 dep h)) ∧ (∀ (dep : Nat) (sx0 : Int32) (h : ea_H), fle ((gMG0 f).2.2.2.1 dep sx0 h) ((gMG0 (f + 1)).2.2.2.1 dep sx0 h)) ∧ (∀ (dep : Nat) (h : ea_H), fle ((gMG0 f).2.2.2.2.1 dep h) ((gMG0 (f + 1)).2.2.2.2.1 dep h)) ∧ (∀ (dep : Nat) (h : ea_H), fle ((gMG0 f).2.2.2.2.2.1 dep h) ((gMG0 (f + 1)).2.2.2.2.2.1 dep h)) ∧ (∀ (dep : Nat) (h : ea_H), fle ((gMG0 f).2.2.2.2.2.2.1 dep h) ((gMG0 (f + 1)).2.2.2.2.2.2.1 dep h)) ∧ (∀ (dep : Nat) (sx0 : Int32) (h : ea_H), fle ((gMG0 f).2.2.2.2.2.2.2.1 dep sx0 h) ((gMG0 (f + 1)).2.2.2.2.2.2.2.1 dep sx0 h)) ∧ (∀ (dep : Nat) (h : ea_H), fle ((gMG0 f).2.2.2.2.2.2.2.2.1 dep h) ((gMG0 (f + 1)).2.2.2.2.2.2.2.2.1 dep h)) ∧ (∀ (dep : Nat) (h : ea_H), fle ((gMG0 f).2.2.2.2.2.2.2.2.2 dep h) ((gMG0 (f + 1)).2.2.2.2.2.2.2.2.2 dep h)) := by
  intro f
  induction f with
  | zero => exact ⟨fun dp _ => fle_none _, fun dp _ => fle_none _, fun dp _ => fle_none _, fun dp _ _ => fle_none _, fun dp _ => fle_none _, fun dp _ => fle_none _, fun dp _ => fle_none _, fun dp _ _ => fle_none _, fun dp _ => fle_none _, fun dp _ => fle_none _⟩
  | succ f ih => exact ⟨fun dp _ => lBX12_sumOf_0 (dep := dp) ih.2.1 ih.2.2.2.2.1, fun dp _ => lBX12_sumOf_9 (dep := dp) ih.2.2.1, fun dp _ => lBX12_sumOf_27 (dep := dp) ih.2.2.2.1, fun dp _ _ => lBX12_sumOf_43 (dep := dp) ih.2.1 ih.2.2.2.2.1, fun dp _ => lBX12_product_0 (dep := dp) ih.2.2.2.2.2.1 ih.2.2.2.2.2.2.2.2.1, fun dp _ => lBX12_product_9 (dep := dp) ih.2.2.2.2.2.2.1, fun dp _ => lBX12_product_27 (dep := dp) ih.2.2.2.2.2.2.2.1, fun dp _ _ => lBX12_product_41 (dep := dp) ih.2.2.2.2.2.1 ih.2.2.2.2.2.2.2.2.1, fun dp _ => lBX12_unit_0 (dep := dp) ih.1 ih.2.2.2.2.2.2.2.2.2, fun dp _ => lBX12_unit_70 (dep := dp)⟩
noncomputable def qX12_sumOf_0 (dep : Nat) (h : ea_H) : Option (Int32 × ea_H) := flim fun f => (gMG0 f).1 dep h
noncomputable def qX12_sumOf_9 (dep : Nat) (h : ea_H) : Option (Int32 × ea_H) := flim fun f => (gMG0 f).2.1 dep h
noncomputable def qX12_sumOf_27 (dep : Nat) (h : ea_H) : Option (Int32 × ea_H) := flim fun f => (gMG0 f).2.2.1 dep h
noncomputable def qX12_sumOf_43 (dep : Nat) (sx0 : Int32) (h : ea_H) : Option (Int32 × ea_H) := flim fun f => (gMG0 f).2.2.2.1 dep sx0 h
noncomputable def qX12_product_0 (dep : Nat) (h : ea_H) : Option (Int32 × ea_H) := flim fun f => (gMG0 f).2.2.2.2.1 dep h
noncomputable def qX12_product_9 (dep : Nat) (h : ea_H) : Option (Int32 × ea_H) := flim fun f => (gMG0 f).2.2.2.2.2.1 dep h
noncomputable def qX12_product_27 (dep : Nat) (h : ea_H) : Option (Int32 × ea_H) := flim fun f => (gMG0 f).2.2.2.2.2.2.1 dep h
noncomputable def qX12_product_41 (dep : Nat) (sx0 : Int32) (h : ea_H) : Option (Int32 × ea_H) := flim fun f => (gMG0 f).2.2.2.2.2.2.2.1 dep sx0 h
noncomputable def qX12_unit_0 (dep : Nat) (h : ea_H) : Option (Int32 × ea_H) := flim fun f => (gMG0 f).2.2.2.2.2.2.2.2.1 dep h
noncomputable def qX12_unit_70 (dep : Nat) (h : ea_H) : Option (Int32 × ea_H) := flim fun f => (gMG0 f).2.2.2.2.2.2.2.2.2 dep h
theorem fqX12_sumOf_0 (dep : Nat) (h : ea_H) : fct (qX12_sumOf_0 dep h) fun f => (gMG0 f).1 dep h := flim_ct fun f => (mgMG0 f).1 dep h
theorem fqX12_sumOf_9 (dep : Nat) (h : ea_H) : fct (qX12_sumOf_9 dep h) fun f => (gMG0 f).2.1 dep h := flim_ct fun f => (mgMG0 f).2.1 dep h
theorem fqX12_sumOf_27 (dep : Nat) (h : ea_H) : fct (qX12_sumOf_27 dep h) fun f => (gMG0 f).2.2.1 dep h := flim_ct fun f => (mgMG0 f).2.2.1 dep h
theorem fqX12_sumOf_43 (dep : Nat) (sx0 : Int32) (h : ea_H) : fct (qX12_sumOf_43 dep sx0 h) fun f => (gMG0 f).2.2.2.1 dep sx0 h := flim_ct fun f => (mgMG0 f).2.2.2.1 dep sx0 h
theorem fqX12_product_0 (dep : Nat) (h : ea_H) : fct (qX12_product_0 dep h) fun f => (gMG0 f).2.2.2.2.1 dep h := flim_ct fun f => (mgMG0 f).2.2.2.2.1 dep h
theorem fqX12_product_9 (dep : Nat) (h : ea_H) : fct (qX12_product_9 dep h) fun f => (gMG0 f).2.2.2.2.2.1 dep h := flim_ct fun f => (mgMG0 f).2.2.2.2.2.1 dep h
theorem fqX12_product_27 (dep : Nat) (h : ea_H) : fct (qX12_product_27 dep h) fun f => (gMG0 f).2.2.2.2.2.2.1 dep h := flim_ct fun f => (mgMG0 f).2.2.2.2.2.2.1 dep h
theorem fqX12_product_41 (dep : Nat) (sx0 : Int32) (h : ea_H) : fct (qX12_product_41 dep sx0 h) fun f => (gMG0 f).2.2.2.2.2.2.2.1 dep sx0 h := flim_ct fun f => (mgMG0 f).2.2.2.2.2.2.2.1 dep sx0 h
theorem fqX12_unit_0 (dep : Nat) (h : ea_H) : fct (qX12_unit_0 dep h) fun f => (gMG0 f).2.2.2.2.2.2.2.2.1 dep h := flim_ct fun f => (mgMG0 f).2.2.2.2.2.2.2.2.1 dep h
theorem fqX12_unit_70 (dep : Nat) (h : ea_H) : fct (qX12_unit_70 dep h) fun f => (gMG0 f).2.2.2.2.2.2.2.2.2 dep h := flim_ct fun f => (mgMG0 f).2.2.2.2.2.2.2.2.2 dep h
/-- how a block opens -/
theorem uqX12_sumOf_0 {dep : Nat} {h : ea_H} {P : Int32 × ea_H → Prop} (H : sat (BX12_sumOf_0 qX12_sumOf_9 qX12_product_0 dep h) P) : sat (qX12_sumOf_0 dep h) P := by
  obtain ⟨x, e, hp⟩ := H
  obtain ⟨n, hn⟩ := nBX12_sumOf_0 (dep := dep) fqX12_sumOf_9 fqX12_product_0 x e
  exact ⟨x, flim_at (fun f => (mgMG0 f).1 dep h) (f := n + 1) (hn n (Nat.le_refl _)), hp⟩
/-- how a block opens -/
theorem uqX12_sumOf_9 {dep : Nat} {h : ea_H} {P : Int32 × ea_H → Prop} (H : sat (BX12_sumOf_9 qX12_sumOf_27 dep h) P) : sat (qX12_sumOf_9 dep h) P := by
  obtain ⟨x, e, hp⟩ := H
  obtain ⟨n, hn⟩ := nBX12_sumOf_9 (dep := dep) fqX12_sumOf_27 x e
  exact ⟨x, flim_at (fun f => (mgMG0 f).2.1 dep h) (f := n + 1) (hn n (Nat.le_refl _)), hp⟩
/-- how a block opens -/
theorem uqX12_sumOf_27 {dep : Nat} {h : ea_H} {P : Int32 × ea_H → Prop} (H : sat (BX12_sumOf_27 qX12_sumOf_43 dep h) P) : sat (qX12_sumOf_27 dep h) P := by
  obtain ⟨x, e, hp⟩ := H
  obtain ⟨n, hn⟩ := nBX12_sumOf_27 (dep := dep) fqX12_sumOf_43 x e
  exact ⟨x, flim_at (fun f => (mgMG0 f).2.2.1 dep h) (f := n + 1) (hn n (Nat.le_refl _)), hp⟩
/-- how a block opens -/
theorem uqX12_sumOf_43 {dep : Nat} {sx0 : Int32} {h : ea_H} {P : Int32 × ea_H → Prop} (H : sat (BX12_sumOf_43 qX12_sumOf_9 qX12_product_0 dep sx0 h) P) : sat (qX12_sumOf_43 dep sx0 h) P := by
  obtain ⟨x, e, hp⟩ := H
  obtain ⟨n, hn⟩ := nBX12_sumOf_43 (dep := dep) fqX12_sumOf_9 fqX12_product_0 x e
  exact ⟨x, flim_at (fun f => (mgMG0 f).2.2.2.1 dep sx0 h) (f := n + 1) (hn n (Nat.le_refl _)), hp⟩
/-- how a block opens -/
theorem uqX12_product_0 {dep : Nat} {h : ea_H} {P : Int32 × ea_H → Prop} (H : sat (BX12_product_0 qX12_product_9 qX12_unit_0 dep h) P) : sat (qX12_product_0 dep h) P := by
  obtain ⟨x, e, hp⟩ := H
  obtain ⟨n, hn⟩ := nBX12_product_0 (dep := dep) fqX12_product_9 fqX12_unit_0 x e
  exact ⟨x, flim_at (fun f => (mgMG0 f).2.2.2.2.1 dep h) (f := n + 1) (hn n (Nat.le_refl _)), hp⟩
/-- how a block opens -/
theorem uqX12_product_9 {dep : Nat} {h : ea_H} {P : Int32 × ea_H → Prop} (H : sat (BX12_product_9 qX12_product_27 dep h) P) : sat (qX12_product_9 dep h) P := by
  obtain ⟨x, e, hp⟩ := H
  obtain ⟨n, hn⟩ := nBX12_product_9 (dep := dep) fqX12_product_27 x e
  exact ⟨x, flim_at (fun f => (mgMG0 f).2.2.2.2.2.1 dep h) (f := n + 1) (hn n (Nat.le_refl _)), hp⟩
/-- how a block opens -/
theorem uqX12_product_27 {dep : Nat} {h : ea_H} {P : Int32 × ea_H → Prop} (H : sat (BX12_product_27 qX12_product_41 dep h) P) : sat (qX12_product_27 dep h) P := by
  obtain ⟨x, e, hp⟩ := H
  obtain ⟨n, hn⟩ := nBX12_product_27 (dep := dep) fqX12_product_41 x e
  exact ⟨x, flim_at (fun f => (mgMG0 f).2.2.2.2.2.2.1 dep h) (f := n + 1) (hn n (Nat.le_refl _)), hp⟩
/-- how a block opens -/
theorem uqX12_product_41 {dep : Nat} {sx0 : Int32} {h : ea_H} {P : Int32 × ea_H → Prop} (H : sat (BX12_product_41 qX12_product_9 qX12_unit_0 dep sx0 h) P) : sat (qX12_product_41 dep sx0 h) P := by
  obtain ⟨x, e, hp⟩ := H
  obtain ⟨n, hn⟩ := nBX12_product_41 (dep := dep) fqX12_product_9 fqX12_unit_0 x e
  exact ⟨x, flim_at (fun f => (mgMG0 f).2.2.2.2.2.2.2.1 dep sx0 h) (f := n + 1) (hn n (Nat.le_refl _)), hp⟩
/-- how a block opens -/
theorem uqX12_unit_0 {dep : Nat} {h : ea_H} {P : Int32 × ea_H → Prop} (H : sat (BX12_unit_0 qX12_sumOf_0 qX12_unit_70 dep h) P) : sat (qX12_unit_0 dep h) P := by
  obtain ⟨x, e, hp⟩ := H
  obtain ⟨n, hn⟩ := nBX12_unit_0 (dep := dep) fqX12_sumOf_0 fqX12_unit_70 x e
  exact ⟨x, flim_at (fun f => (mgMG0 f).2.2.2.2.2.2.2.2.1 dep h) (f := n + 1) (hn n (Nat.le_refl _)), hp⟩
/-- how a block opens -/
theorem uqX12_unit_70 {dep : Nat} {h : ea_H} {P : Int32 × ea_H → Prop} (H : sat (BX12_unit_70 dep h) P) : sat (qX12_unit_70 dep h) P := by
  obtain ⟨x, e, hp⟩ := H
  obtain ⟨n, hn⟩ := nBX12_unit_70 (dep := dep) x e
  exact ⟨x, flim_at (fun f => (mgMG0 f).2.2.2.2.2.2.2.2.2 dep h) (f := n + 1) (hn n (Nat.le_refl _)), hp⟩
theorem kgMG0 : ∀ f : Nat, (∀ (dep : Nat) (h : ea_H), kp (ea_core h) ((gMG0 f).1 dep h)) ∧ (∀ (dep : Nat) (h : ea_H), kp (ea_core h) ((gMG0 f).2.1 dep h)) ∧ (∀ (dep : Nat) (h : ea_H), kp (ea_core h) ((gMG0 f).2.2.1 dep h)) ∧ (∀ (dep : Nat) (sx0 : Int32) (h : ea_H), kp (ea_core h) ((gMG0 f).2.2.2.1 dep sx0 h)) ∧ (∀ (dep : Nat) (h : ea_H), kp (ea_core h) ((gMG0 f).2.2.2.2.1 dep h)) ∧ (∀ (dep : Nat) (h : ea_H), kp (ea_core h) ((gMG0 f).2.2.2.2.2.1 dep h)) ∧ (∀ (dep : Nat) (h : ea_H), kp (ea_core h) ((gMG0 f).2.2.2.2.2.2.1 dep h)) ∧ (∀ (dep : Nat) (sx0 : Int32) (h : ea_H), kp (ea_core h) ((gMG0 f).2.2.2.2.2.2.2.1 dep sx0 h)) ∧ (∀ (dep : Nat) (h : ea_H), kp (ea_core h) ((gMG0 f).2.2.2.2.2.2.2.2.1 dep h)) ∧ (∀ (dep : Nat) (h : ea_H), kp (ea_core h) ((gMG0 f).2.2.2.2.2.2.2.2.2 dep h)) := by
  intro f
  induction f with
  | zero => exact ⟨fun dp _ => kp_none _, fun dp _ => kp_none _, fun dp _ => kp_none _, fun dp _ _ => kp_none _, fun dp _ => kp_none _, fun dp _ => kp_none _, fun dp _ => kp_none _, fun dp _ _ => kp_none _, fun dp _ => kp_none _, fun dp _ => kp_none _⟩
  | succ f ih => exact ⟨fun dp _ => kBX12_sumOf_0 (dep := dp) ih.2.1 ih.2.2.2.2.1, fun dp _ => kBX12_sumOf_9 (dep := dp) ih.2.2.1, fun dp _ => kBX12_sumOf_27 (dep := dp) ih.2.2.2.1, fun dp _ _ => kBX12_sumOf_43 (dep := dp) ih.2.1 ih.2.2.2.2.1, fun dp _ => kBX12_product_0 (dep := dp) ih.2.2.2.2.2.1 ih.2.2.2.2.2.2.2.2.1, fun dp _ => kBX12_product_9 (dep := dp) ih.2.2.2.2.2.2.1, fun dp _ => kBX12_product_27 (dep := dp) ih.2.2.2.2.2.2.2.1, fun dp _ _ => kBX12_product_41 (dep := dp) ih.2.2.2.2.2.1 ih.2.2.2.2.2.2.2.2.1, fun dp _ => kBX12_unit_0 (dep := dp) ih.1 ih.2.2.2.2.2.2.2.2.2, fun dp _ => kBX12_unit_70 (dep := dp)⟩
theorem tgMG0 : ∀ f : Nat, (∀ (dep : Nat) (h : ea_H) (r : Int32) (h' : ea_H), (gMG0 f).1 dep h = some (r, h') → ShM h → ∀ (d : Nat) (h0 : ea_H), 10 + dep ≤ d → ea_W mX12_sumOf d h0 (some (vI r)) h' 0 [(0, vR (some 326))] [] h) ∧ (∀ (dep : Nat) (h : ea_H) (r : Int32) (h' : ea_H), (gMG0 f).2.1 dep h = some (r, h') → ShM h → ∀ (d : Nat) (h0 : ea_H), 10 + dep ≤ d → ea_W mX12_sumOf d h0 (some (vI r)) h' 9 [(0, vR (some 326))] [] h) ∧ (∀ (dep : Nat) (h : ea_H) (r : Int32) (h' : ea_H), (gMG0 f).2.2.1 dep h = some (r, h') → ShM h → ∀ (d : Nat) (h0 : ea_H), 10 + dep ≤ d → ea_W mX12_sumOf d h0 (some (vI r)) h' 27 [(0, vR (some 326))] [] h) ∧ (∀ (dep : Nat) (sx0 : Int32) (h : ea_H) (r : Int32) (h' : ea_H), (gMG0 f).2.2.2.1 dep sx0 h = some (r, h') → ShM h → ∀ (d : Nat) (h0 : ea_H), 10 + dep ≤ d → ea_W mX12_sumOf d h0 (some (vI r)) h' 43 [(0, vR (some 326))] [vI sx0] h) ∧ (∀ (dep : Nat) (h : ea_H) (r : Int32) (h' : ea_H), (gMG0 f).2.2.2.2.1 dep h = some (r, h') → ShM h → ∀ (d : Nat) (h0 : ea_H), 10 + dep ≤ d → ea_W mX12_product d h0 (some (vI r)) h' 0 [(0, vR (some 326))] [] h) ∧ (∀ (dep : Nat) (h : ea_H) (r : Int32) (h' : ea_H), (gMG0 f).2.2.2.2.2.1 dep h = some (r, h') → ShM h → ∀ (d : Nat) (h0 : ea_H), 10 + dep ≤ d → ea_W mX12_product d h0 (some (vI r)) h' 9 [(0, vR (some 326))] [] h) ∧ (∀ (dep : Nat) (h : ea_H) (r : Int32) (h' : ea_H), (gMG0 f).2.2.2.2.2.2.1 dep h = some (r, h') → ShM h → ∀ (d : Nat) (h0 : ea_H), 10 + dep ≤ d → ea_W mX12_product d h0 (some (vI r)) h' 27 [(0, vR (some 326))] [] h) ∧ (∀ (dep : Nat) (sx0 : Int32) (h : ea_H) (r : Int32) (h' : ea_H), (gMG0 f).2.2.2.2.2.2.2.1 dep sx0 h = some (r, h') → ShM h → ∀ (d : Nat) (h0 : ea_H), 10 + dep ≤ d → ea_W mX12_product d h0 (some (vI r)) h' 41 [(0, vR (some 326))] [vI sx0] h) ∧ (∀ (dep : Nat) (h : ea_H) (r : Int32) (h' : ea_H), (gMG0 f).2.2.2.2.2.2.2.2.1 dep h = some (r, h') → ShM h → ∀ (d : Nat) (h0 : ea_H), 10 + dep ≤ d → ea_W mX12_unit d h0 (some (vI r)) h' 0 [(0, vR (some 326))] [] h) ∧ (∀ (dep : Nat) (h : ea_H) (r : Int32) (h' : ea_H), (gMG0 f).2.2.2.2.2.2.2.2.2 dep h = some (r, h') → ShM h → ∀ (d : Nat) (h0 : ea_H), 10 + dep ≤ d → ea_W mX12_unit d h0 (some (vI r)) h' 70 [(0, vR (some 326))] [] h) := by
  intro f
  induction f with
  | zero => exact ⟨fun dp _ _ _ E => no_some E, fun dp _ _ _ E => no_some E, fun dp _ _ _ E => no_some E, fun dp _ _ _ _ E => no_some E, fun dp _ _ _ E => no_some E, fun dp _ _ _ E => no_some E, fun dp _ _ _ E => no_some E, fun dp _ _ _ _ E => no_some E, fun dp _ _ _ E => no_some E, fun dp _ _ _ E => no_some E⟩
  | succ f ih => exact ⟨fun dp _ _ _ E hs d h0 hd => tBX12_sumOf_0 (dep := dp) ih.2.1 ih.2.2.2.2.1 (kgMG0 f).2.2.2.2.1 E hs hd, fun dp _ _ _ E hs d h0 hd => tBX12_sumOf_9 (dep := dp) ih.2.2.1 E hs hd, fun dp _ _ _ E hs d h0 hd => tBX12_sumOf_27 (dep := dp) ih.2.2.2.1 E hs hd, fun dp _ _ _ _ E hs d h0 hd => tBX12_sumOf_43 (dep := dp) ih.2.1 ih.2.2.2.2.1 (kgMG0 f).2.2.2.2.1 E hs hd, fun dp _ _ _ E hs d h0 hd => tBX12_product_0 (dep := dp) ih.2.2.2.2.2.1 ih.2.2.2.2.2.2.2.2.1 (kgMG0 f).2.2.2.2.2.2.2.2.1 E hs hd, fun dp _ _ _ E hs d h0 hd => tBX12_product_9 (dep := dp) ih.2.2.2.2.2.2.1 E hs hd, fun dp _ _ _ E hs d h0 hd => tBX12_product_27 (dep := dp) ih.2.2.2.2.2.2.2.1 E hs hd, fun dp _ _ _ _ E hs d h0 hd => tBX12_product_41 (dep := dp) ih.2.2.2.2.2.1 ih.2.2.2.2.2.2.2.2.1 (kgMG0 f).2.2.2.2.2.2.2.2.1 E hs hd, fun dp _ _ _ E hs d h0 hd => tBX12_unit_0 (dep := dp) ih.1 ih.2.2.2.2.2.2.2.2.2 (kgMG0 f).1 E hs hd, fun dp _ _ _ E hs d h0 hd => tBX12_unit_70 (dep := dp) E hs hd⟩
noncomputable def qX12_sumOf (h : ea_H) : Option (Int32 × ea_H) := qX12_sumOf_0 40  h
theorem sX12_sumOf {d : Nat} {h : ea_H} {r : Int32} {h' : ea_H} (hd : 50 ≤ d) (hs : ShM h) (K : qX12_sumOf h = some (r, h')) : ea_Met mX12_sumOf d [vR (some 326)] h (some (vI r)) h' := by
  unfold qX12_sumOf at K
  obtain ⟨n, hn⟩ := fqX12_sumOf_0 40  h _ K
  have W := (tgMG0 n).1 40  h _ _ (hn n (Nat.le_refl _)) hs d h hd
  exact ea_enter rfl (Nat.le_of_ble_eq_true rfl) W
theorem kpX12_sumOf (h : ea_H) : kp (ea_core h) (qX12_sumOf h) := fun x e => by
  obtain ⟨n, hn⟩ := fqX12_sumOf_0 40  h x e
  exact (kgMG0 n).1 40  h x (hn n (Nat.le_refl _))
noncomputable def qX12_product (h : ea_H) : Option (Int32 × ea_H) := qX12_product_0 40  h
theorem sX12_product {d : Nat} {h : ea_H} {r : Int32} {h' : ea_H} (hd : 50 ≤ d) (hs : ShM h) (K : qX12_product h = some (r, h')) : ea_Met mX12_product d [vR (some 326)] h (some (vI r)) h' := by
  unfold qX12_product at K
  obtain ⟨n, hn⟩ := fqX12_product_0 40  h _ K
  have W := (tgMG0 n).2.2.2.2.1 40  h _ _ (hn n (Nat.le_refl _)) hs d h hd
  exact ea_enter rfl (Nat.le_of_ble_eq_true rfl) W
theorem kpX12_product (h : ea_H) : kp (ea_core h) (qX12_product h) := fun x e => by
  obtain ⟨n, hn⟩ := fqX12_product_0 40  h x e
  exact (kgMG0 n).2.2.2.2.1 40  h x (hn n (Nat.le_refl _))
noncomputable def qX12_unit (h : ea_H) : Option (Int32 × ea_H) := qX12_unit_0 40  h
theorem sX12_unit {d : Nat} {h : ea_H} {r : Int32} {h' : ea_H} (hd : 50 ≤ d) (hs : ShM h) (K : qX12_unit h = some (r, h')) : ea_Met mX12_unit d [vR (some 326)] h (some (vI r)) h' := by
  unfold qX12_unit at K
  obtain ⟨n, hn⟩ := fqX12_unit_0 40  h _ K
  have W := (tgMG0 n).2.2.2.2.2.2.2.2.1 40  h _ _ (hn n (Nat.le_refl _)) hs d h hd
  exact ea_enter rfl (Nat.le_of_ble_eq_true rfl) W
theorem kpX12_unit (h : ea_H) : kp (ea_core h) (qX12_unit h) := fun x e => by
  obtain ⟨n, hn⟩ := fqX12_unit_0 40  h x e
  exact (kgMG0 n).2.2.2.2.2.2.2.2.1 40  h x (hn n (Nat.le_refl _))
noncomputable def BX12_one_0 (JX12_one_0 : Nat → ea_H → Option (Int32 × ea_H)) (JX12_one_96 : Nat → Int32 → ea_H → Option (Int32 × ea_H)) (dep : Nat) (h : ea_H) : Option (Int32 × ea_H) :=
  (if (ea_i h 326 54) = (13 : Int32) then (Option.bind (qX12_opens  h) fun w6 => (if w6.1 = (0 : Int32) then (some ((0 : Int32), w6.2)) else (gd (0 < dep) (Option.bind (JX12_one_0 (dep - 1)  w6.2) fun w7 => (if w7.1 = (0 : Int32) then (some ((0 : Int32), w7.2)) else (ea_let (ea_wi w7.2 326 60 ((ea_i w7.2 326 60) - (1 : Int32))) fun H9 => (Option.bind (qX12_lay (15 : Int32) (0 : Int32) H9) fun w10 => (some ((1 : Int32), w10.2))))))))) else (Option.bind (qX12_sumOf  h) fun w1 => (if w1.1 = (0 : Int32) then (some ((0 : Int32), w1.2)) else (if (ea_i w1.2 326 54) = (60 : Int32) then (JX12_one_96 dep (12 : Int32) w1.2) else (if (ea_i w1.2 326 54) = (61 : Int32) then (JX12_one_96 dep (13 : Int32) w1.2) else (if (ea_i w1.2 326 54) = (62 : Int32) then (JX12_one_96 dep (14 : Int32) w1.2) else (JX12_one_96 dep ((-1) : Int32) w1.2)))))))
theorem tBX12_one_0 {JX12_one_0 : Nat → ea_H → Option (Int32 × ea_H)} {JX12_one_96 : Nat → Int32 → ea_H → Option (Int32 × ea_H)}  (kJX12_one_0 : ∀ (dep : Nat) (h : ea_H) (r : Int32) (h' : ea_H), JX12_one_0 dep h = some (r, h') → ShM h → ∀ (d : Nat) (h0 : ea_H), 51 + dep ≤ d → ea_W mX12_one d h0 (some (vI r)) h' 0 [(0, vR (some 326))] [] h) (kJX12_one_96 : ∀ (dep : Nat) (sx0 : Int32) (h : ea_H) (r : Int32) (h' : ea_H), JX12_one_96 dep sx0 h = some (r, h') → ShM h → ∀ (d : Nat) (h0 : ea_H), 51 + dep ≤ d → ea_W mX12_one d h0 (some (vI r)) h' 96 [(0, vR (some 326))] [vI sx0] h) (cJX12_one_0 : ∀ (dep : Nat) (h : ea_H), kp (ea_core h) (JX12_one_0 dep h)) {dep : Nat} {h : ea_H} {r : Int32} {h' : ea_H} (E : BX12_one_0 JX12_one_0 JX12_one_96 dep h = some (r, h')) (hs : ShM h) {d : Nat} {h0 : ea_H} (hd : 51 + dep ≤ d) : ea_W mX12_one d h0 (some (vI r)) h' 0 [(0, vR (some 326))] [] h := by
  unfold BX12_one_0 at E
  refine ea_aload_n (pc := 0) dX12_one_0 rfl 0 rfl ?_
  refine ea_getI (pc := 1) dX12_one_1 ec_12 (k := 54) (Nat.le_of_ble_eq_true rfl) rfl (Or.inl ew_1456) (cShM_326 hs).1 (cShM_326 hs).2.1 ?_
  refine ea_bipush (pc := 4) dX12_one_4 (v := 13) rfl ?_
  refine ea_icmp_ne (pc := 6) (tgt := 44) dX12_one_6 rfl (fun c13 => ?_) (fun c13 => ?_)
  · have E := (if_neg c13).symm.trans E
    obtain ⟨w1, Ew1, E⟩ := bd_some E
    have hsw1 : ShM w1.2 := ShM_core ((kpX12_sumOf _) _ Ew1) hs
    refine ea_aload_n (pc := 44) dX12_one_44 rfl 0 rfl ?_
    refine ea_callV (pc := 45) (d' := d - 1) (As := []) (st := []) dX12_one_45 kX12_sumOf (sX12_sumOf (d := d - 1) (by omega) hs Ew1) (by omega) rfl (Nat.le_of_ble_eq_true rfl) ew_1983 ew_1985 ew_78 (ci := 12) rfl (by decide) (cShM_326 hs).1 (cShM_326 hs).2.1 ?_
    refine ea_if_ne (pc := 48) (tgt := 53) dX12_one_48 rfl (fun c5 => ?_) (fun c5 => ?_)
    · have E := (if_neg c5).symm.trans E
      refine ea_aload_n (pc := 53) dX12_one_53 rfl 0 rfl ?_
      refine ea_getI (pc := 54) dX12_one_54 ec_12 (k := 54) (Nat.le_of_ble_eq_true rfl) rfl (Or.inl ew_1456) (cShM_326 hsw1).1 (cShM_326 hsw1).2.1 ?_
      refine ea_bipush (pc := 57) dX12_one_57 (v := 60) rfl ?_
      refine ea_icmp_ne (pc := 59) (tgt := 67) dX12_one_59 rfl (fun c4 => ?_) (fun c4 => ?_)
      · have E := (if_neg c4).symm.trans E
        refine ea_aload_n (pc := 67) dX12_one_67 rfl 0 rfl ?_
        refine ea_getI (pc := 68) dX12_one_68 ec_12 (k := 54) (Nat.le_of_ble_eq_true rfl) rfl (Or.inl ew_1456) (cShM_326 hsw1).1 (cShM_326 hsw1).2.1 ?_
        refine ea_bipush (pc := 71) dX12_one_71 (v := 61) rfl ?_
        refine ea_icmp_ne (pc := 73) (tgt := 81) dX12_one_73 rfl (fun c3 => ?_) (fun c3 => ?_)
        · have E := (if_neg c3).symm.trans E
          refine ea_aload_n (pc := 81) dX12_one_81 rfl 0 rfl ?_
          refine ea_getI (pc := 82) dX12_one_82 ec_12 (k := 54) (Nat.le_of_ble_eq_true rfl) rfl (Or.inl ew_1456) (cShM_326 hsw1).1 (cShM_326 hsw1).2.1 ?_
          refine ea_bipush (pc := 85) dX12_one_85 (v := 62) rfl ?_
          refine ea_icmp_ne (pc := 87) (tgt := 95) dX12_one_87 rfl (fun c2 => ?_) (fun c2 => ?_)
          · have E := (if_neg c2).symm.trans E
            refine ea_iconst (pc := 95) dX12_one_95 (v := (-1)) rfl ?_
            exact (kJX12_one_96 dep ((-1) : Int32) w1.2 _ _ E hsw1 d h0 hd)
          · have E := (if_pos c2).symm.trans E
            refine ea_bipush (pc := 90) dX12_one_90 (v := 14) rfl ?_
            refine ea_goto (pc := 92) (tgt := 96) dX12_one_92 rfl ?_
            exact (kJX12_one_96 dep (14 : Int32) w1.2 _ _ E hsw1 d h0 hd)
        · have E := (if_pos c3).symm.trans E
          refine ea_bipush (pc := 76) dX12_one_76 (v := 13) rfl ?_
          refine ea_goto (pc := 78) (tgt := 96) dX12_one_78 rfl ?_
          exact (kJX12_one_96 dep (13 : Int32) w1.2 _ _ E hsw1 d h0 hd)
      · have E := (if_pos c4).symm.trans E
        refine ea_bipush (pc := 62) dX12_one_62 (v := 12) rfl ?_
        refine ea_goto (pc := 64) (tgt := 96) dX12_one_64 rfl ?_
        exact (kJX12_one_96 dep (12 : Int32) w1.2 _ _ E hsw1 d h0 hd)
    · have E := (if_pos c5).symm.trans E
      refine ea_iconst (pc := 51) dX12_one_51 (v := 0) rfl ?_
      exact ea_iretO (pc := 52) dX12_one_52 rfl (ea_bn (Or.inl rfl)) E
  · have E := (if_pos c13).symm.trans E
    obtain ⟨w6, Ew6, E⟩ := bd_some E
    have hsw6 : ShM w6.2 := ShM_core ((kpX12_opens _) _ Ew6) hs
    refine ea_aload_n (pc := 9) dX12_one_9 rfl 0 rfl ?_
    refine ea_callV (pc := 10) (d' := d - 1) (As := []) (st := []) dX12_one_10 kX12_opens (sX12_opens (d := d - 1) (by omega) hs Ew6) (by omega) rfl (Nat.le_of_ble_eq_true rfl) ew_1995 ew_1997 ew_81 (ci := 12) rfl (by decide) (cShM_326 hs).1 (cShM_326 hs).2.1 ?_
    refine ea_if_eq (pc := 13) (tgt := 23) dX12_one_13 rfl (fun c12 => ?_) (fun c12 => ?_)
    · have E := (if_pos c12).symm.trans E
      refine ea_iconst (pc := 23) dX12_one_23 (v := 0) rfl ?_
      exact ea_iretO (pc := 24) dX12_one_24 rfl (ea_bn (Or.inl rfl)) E
    · have E := (if_neg c12).symm.trans E
      obtain ⟨zd8, E⟩ := gd_some E
      refine ea_aload_n (pc := 16) dX12_one_16 rfl 0 rfl ?_
      obtain ⟨w7, Ew7, E⟩ := bd_some E
      have hsw7 : ShM w7.2 := ShM_core ((cJX12_one_0 (dep - 1)  _) _ Ew7) hsw6
      refine ea_callV (pc := 17) (d' := d - 1) (As := []) (st := []) dX12_one_17 kX12_one (ea_enter rfl (Nat.le_of_ble_eq_true rfl) (kJX12_one_0 (dep - 1)  _ _ _ Ew7 hsw6 (d - 1) w6.2 (by omega))) (by omega) rfl (Nat.le_of_ble_eq_true rfl) ew_2015 ew_2017 ew_86 (ci := 12) rfl (by decide) (cShM_326 hsw6).1 (cShM_326 hsw6).2.1 ?_
      refine ea_if_ne (pc := 20) (tgt := 25) dX12_one_20 rfl (fun c11 => ?_) (fun c11 => ?_)
      · have E := (if_neg c11).symm.trans E
        obtain ⟨H9, eH9, E⟩ := let_some E
        refine ea_aload_n (pc := 25) dX12_one_25 rfl 0 rfl ?_
        refine ea_dup (pc := 26) dX12_one_26 rfl ?_
        refine ea_getI (pc := 27) dX12_one_27 ec_12 (k := 60) (Nat.le_of_ble_eq_true rfl) rfl (Or.inl ew_1462) (cShM_326 hsw7).1 (cShM_326 hsw7).2.1 ?_
        refine ea_iconst (pc := 30) dX12_one_30 (v := 1) rfl ?_
        refine ea_isub (pc := 31) dX12_one_31 ?_
        refine ea_putI (pc := 32) dX12_one_32 ec_12 (k := 60) (Nat.le_of_ble_eq_true rfl) rfl (Or.inl ⟨rfl, Or.inl ew_1462⟩) rfl rfl (cShM_326 hsw7).1 (cShM_326 hsw7).2.1 ?_
        refine ea_nm eH9 ?_
        have hsH9 : ShM H9 := by rw [eH9]; exact hsw7
        obtain ⟨w10, Ew10, E⟩ := bd_some E
        have hsw10 : ShM w10.2 := ShM_core ((kpX12_lay _ _ _) _ Ew10) hsH9
        refine ea_aload_n (pc := 35) dX12_one_35 rfl 0 rfl ?_
        refine ea_bipush (pc := 36) dX12_one_36 (v := 15) rfl ?_
        refine ea_iconst (pc := 38) dX12_one_38 (v := 0) rfl ?_
        refine ea_callV (pc := 39) (d' := d - 1) (As := [vI 15, vI 0]) (st := []) dX12_one_39 kX12_lay (sX12_lay (d := d - 1) (by omega) hsH9 Ew10) (by omega) rfl (Nat.le_of_ble_eq_true rfl) ew_2003 ew_2005 ew_83 (ci := 12) rfl (by decide) (cShM_326 hsH9).1 (cShM_326 hsH9).2.1 ?_
        refine ea_iconst (pc := 42) dX12_one_42 (v := 1) rfl ?_
        exact ea_iretO (pc := 43) dX12_one_43 rfl (ea_bn (Or.inr rfl)) E
      · have E := (if_pos c11).symm.trans E
        refine ea_iconst (pc := 23) dX12_one_23 (v := 0) rfl ?_
        exact ea_iretO (pc := 24) dX12_one_24 rfl (ea_bn (Or.inl rfl)) E
theorem kBX12_one_0 {JX12_one_0 : Nat → ea_H → Option (Int32 × ea_H)} {JX12_one_96 : Nat → Int32 → ea_H → Option (Int32 × ea_H)}  (cJX12_one_0 : ∀ (dep : Nat) (h : ea_H), kp (ea_core h) (JX12_one_0 dep h)) (cJX12_one_96 : ∀ (dep : Nat) (sx0 : Int32) (h : ea_H), kp (ea_core h) (JX12_one_96 dep sx0 h)) {dep : Nat} {h : ea_H} : kp (ea_core h) (BX12_one_0 JX12_one_0 JX12_one_96 dep h) :=
  (kp_ite (kp_bind (kp_tw (kpX12_opens _) rfl) fun w6 hcw6 => (kp_ite (kp_ret hcw6) (kp_gd (kp_bind (kp_tw (cJX12_one_0 (dep - 1)  _) hcw6) fun w7 hcw7 => (kp_ite (kp_ret hcw7) (kp_let (kp_bind (kp_tw (kpX12_lay _ _ _) hcw7) fun w10 hcw10 => (kp_ret hcw10)))))))) (kp_bind (kp_tw (kpX12_sumOf _) rfl) fun w1 hcw1 => (kp_ite (kp_ret hcw1) (kp_ite (kp_tw (cJX12_one_96 _ _ _) hcw1) (kp_ite (kp_tw (cJX12_one_96 _ _ _) hcw1) (kp_ite (kp_tw (cJX12_one_96 _ _ _) hcw1) (kp_tw (cJX12_one_96 _ _ _) hcw1)))))))
theorem lBX12_one_0 {JX12_one_0 : Nat → ea_H → Option (Int32 × ea_H)} {JX12_one_96 : Nat → Int32 → ea_H → Option (Int32 × ea_H)} {JX12_one_0_ : Nat → ea_H → Option (Int32 × ea_H)} {JX12_one_96_ : Nat → Int32 → ea_H → Option (Int32 × ea_H)}  (mJX12_one_0 : ∀ (dep : Nat) (h : ea_H), fle (JX12_one_0 dep h) (JX12_one_0_ dep h)) (mJX12_one_96 : ∀ (dep : Nat) (sx0 : Int32) (h : ea_H), fle (JX12_one_96 dep sx0 h) (JX12_one_96_ dep sx0 h)) {dep : Nat} {h : ea_H} : fle (BX12_one_0 JX12_one_0 JX12_one_96 dep h) (BX12_one_0 JX12_one_0_ JX12_one_96_ dep h) :=
  (fle_ite (fle_bind (fle_rfl _) fun _ => (fle_ite (fle_rfl _) (fle_gd (fle_bind (mJX12_one_0 _  _) fun _ => (fle_rfl _))))) (fle_bind (fle_rfl _) fun _ => (fle_ite (fle_rfl _) (fle_ite (mJX12_one_96 _ _ _) (fle_ite (mJX12_one_96 _ _ _) (fle_ite (mJX12_one_96 _ _ _) (mJX12_one_96 _ _ _)))))))
theorem nBX12_one_0 {JX12_one_0 : Nat → ea_H → Option (Int32 × ea_H)} {JX12_one_96 : Nat → Int32 → ea_H → Option (Int32 × ea_H)} {JX12_one_0_ : Nat → (Nat → ea_H → Option (Int32 × ea_H))} {JX12_one_96_ : Nat → (Nat → Int32 → ea_H → Option (Int32 × ea_H))}  (mJX12_one_0 : ∀ (dep : Nat) (h : ea_H), fct (JX12_one_0 dep h) (fun f => JX12_one_0_ f dep h)) (mJX12_one_96 : ∀ (dep : Nat) (sx0 : Int32) (h : ea_H), fct (JX12_one_96 dep sx0 h) (fun f => JX12_one_96_ f dep sx0 h)) {dep : Nat} {h : ea_H} : fct (BX12_one_0 JX12_one_0 JX12_one_96 dep h) (fun f => BX12_one_0 (JX12_one_0_ f) (JX12_one_96_ f) dep h) :=
  (fct_ite (fct_bind (fct_rfl _) fun _ => (fct_ite (fct_rfl _) (fct_gd (fct_bind (mJX12_one_0 _  _) fun _ => (fct_rfl _))))) (fct_bind (fct_rfl _) fun _ => (fct_ite (fct_rfl _) (fct_ite (mJX12_one_96 _ _ _) (fct_ite (mJX12_one_96 _ _ _) (fct_ite (mJX12_one_96 _ _ _) (mJX12_one_96 _ _ _)))))))
noncomputable def BX12_one_96 (dep : Nat) (sx0 : Int32) (h : ea_H) : Option (Int32 × ea_H) :=
  (if sx0 = ((-1) : Int32) then (Option.bind (qX12_bad (1 : Int32) h) fun w18 => (gd ((w18.1 = 0 ∨ w18.1 = 1)) (some (w18.1, w18.2)))) else (Option.bind (qX12_next0  h) fun w14 => (Option.bind (qX12_sumOf  w14.2) fun w15 => (if w15.1 = (0 : Int32) then (some ((0 : Int32), w15.2)) else (Option.bind (qX12_lay (sx0 : Int32) (0 : Int32) w15.2) fun w16 => (some ((1 : Int32), w16.2)))))))
theorem tBX12_one_96  {sx0 : Int32} {dep : Nat} {h : ea_H} {r : Int32} {h' : ea_H} (E : BX12_one_96 dep sx0 h = some (r, h')) (hs : ShM h) {d : Nat} {h0 : ea_H} (hd : 51 + dep ≤ d) : ea_W mX12_one d h0 (some (vI r)) h' 96 [(0, vR (some 326))] [vI sx0] h := by
  unfold BX12_one_96 at E
  refine ea_istore_n (pc := 96) (lv' := [(0, vR (some 326)), (1, vI sx0)]) dX12_one_96 rfl (Nat.le_of_ble_eq_true rfl) [1, 0] rfl ?_
  refine ea_iload_n (pc := 97) dX12_one_97 rfl 1 rfl ?_
  refine ea_iconst (pc := 98) dX12_one_98 (v := (-1)) rfl ?_
  refine ea_icmp_ne (pc := 99) (tgt := 108) dX12_one_99 rfl (fun c20 => ?_) (fun c20 => ?_)
  · have E := (if_neg c20).symm.trans E
    obtain ⟨w14, Ew14, E⟩ := bd_some E
    have hsw14 : ShM w14.2 := ShM_core ((kpX12_next0 _) _ Ew14) hs
    refine ea_aload_n (pc := 108) dX12_one_108 rfl 0 rfl ?_
    refine ea_callV (pc := 109) (d' := d - 1) (As := []) (st := []) dX12_one_109 kX12_next0 (sX12_next0 (d := d - 1) (by omega) hs Ew14) (by omega) rfl (Nat.le_of_ble_eq_true rfl) ew_1879 ew_1881 ew_70 (ci := 12) rfl (by decide) (cShM_326 hs).1 (cShM_326 hs).2.1 ?_
    obtain ⟨w15, Ew15, E⟩ := bd_some E
    have hsw15 : ShM w15.2 := ShM_core ((kpX12_sumOf _) _ Ew15) hsw14
    refine ea_aload_n (pc := 112) dX12_one_112 rfl 0 rfl ?_
    refine ea_callV (pc := 113) (d' := d - 1) (As := []) (st := []) dX12_one_113 kX12_sumOf (sX12_sumOf (d := d - 1) (by omega) hsw14 Ew15) (by omega) rfl (Nat.le_of_ble_eq_true rfl) ew_1983 ew_1985 ew_78 (ci := 12) rfl (by decide) (cShM_326 hsw14).1 (cShM_326 hsw14).2.1 ?_
    refine ea_if_ne (pc := 116) (tgt := 121) dX12_one_116 rfl (fun c17 => ?_) (fun c17 => ?_)
    · have E := (if_neg c17).symm.trans E
      obtain ⟨w16, Ew16, E⟩ := bd_some E
      have hsw16 : ShM w16.2 := ShM_core ((kpX12_lay _ _ _) _ Ew16) hsw15
      refine ea_aload_n (pc := 121) dX12_one_121 rfl 0 rfl ?_
      refine ea_iload_n (pc := 122) dX12_one_122 rfl 1 rfl ?_
      refine ea_iconst (pc := 123) dX12_one_123 (v := 0) rfl ?_
      refine ea_callV (pc := 124) (d' := d - 1) (As := [vI sx0, vI 0]) (st := []) dX12_one_124 kX12_lay (sX12_lay (d := d - 1) (by omega) hsw15 Ew16) (by omega) rfl (Nat.le_of_ble_eq_true rfl) ew_2003 ew_2005 ew_83 (ci := 12) rfl (by decide) (cShM_326 hsw15).1 (cShM_326 hsw15).2.1 ?_
      refine ea_iconst (pc := 127) dX12_one_127 (v := 1) rfl ?_
      exact ea_iretO (pc := 128) dX12_one_128 rfl (ea_bn (Or.inr rfl)) E
    · have E := (if_pos c17).symm.trans E
      refine ea_iconst (pc := 119) dX12_one_119 (v := 0) rfl ?_
      exact ea_iretO (pc := 120) dX12_one_120 rfl (ea_bn (Or.inl rfl)) E
  · have E := (if_pos c20).symm.trans E
    obtain ⟨w18, Ew18, E⟩ := bd_some E
    have hsw18 : ShM w18.2 := ShM_core ((kpX12_bad _ _) _ Ew18) hs
    refine ea_aload_n (pc := 102) dX12_one_102 rfl 0 rfl ?_
    refine ea_iconst (pc := 103) dX12_one_103 (v := 1) rfl ?_
    refine ea_callV (pc := 104) (d' := d - 1) (As := [vI 1]) (st := []) dX12_one_104 kX12_bad (sX12_bad (d := d - 1) (by omega) hs Ew18) (by omega) rfl (Nat.le_of_ble_eq_true rfl) ew_1971 ew_1973 ew_75 (ci := 12) rfl (by decide) (cShM_326 hs).1 (cShM_326 hs).2.1 ?_
    obtain ⟨z19, E⟩ := gd_some E
    exact ea_iretO (pc := 107) dX12_one_107 rfl (ea_bn z19) E
theorem kBX12_one_96  {dep : Nat} {sx0 : Int32} {h : ea_H} : kp (ea_core h) (BX12_one_96 dep sx0 h) :=
  (kp_ite (kp_bind (kp_tw (kpX12_bad _ _) rfl) fun w18 hcw18 => (kp_gd (kp_ret hcw18))) (kp_bind (kp_tw (kpX12_next0 _) rfl) fun w14 hcw14 => (kp_bind (kp_tw (kpX12_sumOf _) hcw14) fun w15 hcw15 => (kp_ite (kp_ret hcw15) (kp_bind (kp_tw (kpX12_lay _ _ _) hcw15) fun w16 hcw16 => (kp_ret hcw16))))))
theorem lBX12_one_96  {dep : Nat} {sx0 : Int32} {h : ea_H} : fle (BX12_one_96 dep sx0 h) (BX12_one_96 dep sx0 h) :=
  (fle_rfl _)
theorem nBX12_one_96  {dep : Nat} {sx0 : Int32} {h : ea_H} : fct (BX12_one_96 dep sx0 h) (fun f => BX12_one_96 dep sx0 h) :=
  (fct_rfl _)
noncomputable def gMG1 : Nat → (Nat → ea_H → Option (Int32 × ea_H)) × (Nat → Int32 → ea_H → Option (Int32 × ea_H))
  | 0 => (fun _ _ => none, fun _ _ _ => none)
  | f + 1 => (BX12_one_0 (gMG1 f).1 (gMG1 f).2, BX12_one_96)
theorem mgMG1 : ∀ f : Nat, (∀ (dep : Nat) (h : ea_H), fle ((gMG1 f).1 dep h) ((gMG1 (f + 1)).1 dep h)) ∧ (∀ (dep : Nat) (sx0 : Int32) (h : ea_H), fle ((gMG1 f).2 dep sx0 h) ((gMG1 (f + 1)).2 dep sx0 h)) := by
  intro f
  induction f with
  | zero => exact ⟨fun dp _ => fle_none _, fun dp _ _ => fle_none _⟩
  | succ f ih => exact ⟨fun dp _ => lBX12_one_0 (dep := dp) ih.1 ih.2, fun dp _ _ => lBX12_one_96 (dep := dp)⟩
noncomputable def qX12_one_0 (dep : Nat) (h : ea_H) : Option (Int32 × ea_H) := flim fun f => (gMG1 f).1 dep h
noncomputable def qX12_one_96 (dep : Nat) (sx0 : Int32) (h : ea_H) : Option (Int32 × ea_H) := flim fun f => (gMG1 f).2 dep sx0 h
theorem fqX12_one_0 (dep : Nat) (h : ea_H) : fct (qX12_one_0 dep h) fun f => (gMG1 f).1 dep h := flim_ct fun f => (mgMG1 f).1 dep h
theorem fqX12_one_96 (dep : Nat) (sx0 : Int32) (h : ea_H) : fct (qX12_one_96 dep sx0 h) fun f => (gMG1 f).2 dep sx0 h := flim_ct fun f => (mgMG1 f).2 dep sx0 h
/-- how a block opens -/
theorem uqX12_one_0 {dep : Nat} {h : ea_H} {P : Int32 × ea_H → Prop} (H : sat (BX12_one_0 qX12_one_0 qX12_one_96 dep h) P) : sat (qX12_one_0 dep h) P := by
  obtain ⟨x, e, hp⟩ := H
  obtain ⟨n, hn⟩ := nBX12_one_0 (dep := dep) fqX12_one_0 fqX12_one_96 x e
  exact ⟨x, flim_at (fun f => (mgMG1 f).1 dep h) (f := n + 1) (hn n (Nat.le_refl _)), hp⟩
/-- how a block opens -/
theorem uqX12_one_96 {dep : Nat} {sx0 : Int32} {h : ea_H} {P : Int32 × ea_H → Prop} (H : sat (BX12_one_96 dep sx0 h) P) : sat (qX12_one_96 dep sx0 h) P := by
  obtain ⟨x, e, hp⟩ := H
  obtain ⟨n, hn⟩ := nBX12_one_96 (dep := dep) x e
  exact ⟨x, flim_at (fun f => (mgMG1 f).2 dep sx0 h) (f := n + 1) (hn n (Nat.le_refl _)), hp⟩
theorem kgMG1 : ∀ f : Nat, (∀ (dep : Nat) (h : ea_H), kp (ea_core h) ((gMG1 f).1 dep h)) ∧ (∀ (dep : Nat) (sx0 : Int32) (h : ea_H), kp (ea_core h) ((gMG1 f).2 dep sx0 h)) := by
  intro f
  induction f with
  | zero => exact ⟨fun dp _ => kp_none _, fun dp _ _ => kp_none _⟩
  | succ f ih => exact ⟨fun dp _ => kBX12_one_0 (dep := dp) ih.1 ih.2, fun dp _ _ => kBX12_one_96 (dep := dp)⟩
theorem tgMG1 : ∀ f : Nat, (∀ (dep : Nat) (h : ea_H) (r : Int32) (h' : ea_H), (gMG1 f).1 dep h = some (r, h') → ShM h → ∀ (d : Nat) (h0 : ea_H), 51 + dep ≤ d → ea_W mX12_one d h0 (some (vI r)) h' 0 [(0, vR (some 326))] [] h) ∧ (∀ (dep : Nat) (sx0 : Int32) (h : ea_H) (r : Int32) (h' : ea_H), (gMG1 f).2 dep sx0 h = some (r, h') → ShM h → ∀ (d : Nat) (h0 : ea_H), 51 + dep ≤ d → ea_W mX12_one d h0 (some (vI r)) h' 96 [(0, vR (some 326))] [vI sx0] h) := by
  intro f
  induction f with
  | zero => exact ⟨fun dp _ _ _ E => no_some E, fun dp _ _ _ _ E => no_some E⟩
  | succ f ih => exact ⟨fun dp _ _ _ E hs d h0 hd => tBX12_one_0 (dep := dp) ih.1 ih.2 (kgMG1 f).1 E hs hd, fun dp _ _ _ _ E hs d h0 hd => tBX12_one_96 (dep := dp) E hs hd⟩
noncomputable def qX12_one (h : ea_H) : Option (Int32 × ea_H) := qX12_one_0 40  h
theorem sX12_one {d : Nat} {h : ea_H} {r : Int32} {h' : ea_H} (hd : 91 ≤ d) (hs : ShM h) (K : qX12_one h = some (r, h')) : ea_Met mX12_one d [vR (some 326)] h (some (vI r)) h' := by
  unfold qX12_one at K
  obtain ⟨n, hn⟩ := fqX12_one_0 40  h _ K
  have W := (tgMG1 n).1 40  h _ _ (hn n (Nat.le_refl _)) hs d h hd
  exact ea_enter rfl (Nat.le_of_ble_eq_true rfl) W
theorem kpX12_one (h : ea_H) : kp (ea_core h) (qX12_one h) := fun x e => by
  obtain ⟨n, hn⟩ := fqX12_one_0 40  h x e
  exact (kgMG1 n).1 40  h x (hn n (Nat.le_refl _))
noncomputable def BX12_all_0 (J9 : ea_H → Option (Int32 × ea_H)) (h : ea_H) : Option (Int32 × ea_H) :=
  (Option.bind (qX12_one  h) fun w1 => (if w1.1 = (0 : Int32) then (some ((0 : Int32), w1.2)) else (J9 w1.2)))
theorem tBX12_all_0 {d : Nat} {h0 : ea_H} (hd : 92 ≤ d) {J9 : ea_H → Option (Int32 × ea_H)}  (kJ9 : ∀ (h : ea_H) (r : Int32) (h' : ea_H), J9 h = some (r, h') → ShM h → ea_W mX12_all d h0 (some (vI r)) h' 9 [(0, vR (some 326))] [] h) {h : ea_H} {r : Int32} {h' : ea_H} (E : BX12_all_0 J9 h = some (r, h')) (hs : ShM h) : ea_W mX12_all d h0 (some (vI r)) h' 0 [(0, vR (some 326))] [] h := by
  unfold BX12_all_0 at E
  obtain ⟨w1, Ew1, E⟩ := bd_some E
  have hsw1 : ShM w1.2 := ShM_core ((kpX12_one _) _ Ew1) hs
  refine ea_aload_n (pc := 0) dX12_all_0 rfl 0 rfl ?_
  refine ea_callV (pc := 1) (d' := d - 1) (As := []) (st := []) dX12_all_1 kX12_one (sX12_one (d := d - 1) (by omega) hs Ew1) (by omega) rfl (Nat.le_of_ble_eq_true rfl) ew_2015 ew_2017 ew_86 (ci := 12) rfl (by decide) (cShM_326 hs).1 (cShM_326 hs).2.1 ?_
  refine ea_if_ne (pc := 4) (tgt := 9) dX12_all_4 rfl (fun c2 => ?_) (fun c2 => ?_)
  · have E := (if_neg c2).symm.trans E
    exact (kJ9 w1.2 _ _ E hsw1)
  · have E := (if_pos c2).symm.trans E
    refine ea_iconst (pc := 7) dX12_all_7 (v := 0) rfl ?_
    exact ea_iretO (pc := 8) dX12_all_8 rfl (ea_bn (Or.inl rfl)) E
theorem kBX12_all_0 {J9 : ea_H → Option (Int32 × ea_H)}  (cJ9 : ∀ (h : ea_H), kp (ea_core h) (J9 h)) {h : ea_H} : kp (ea_core h) (BX12_all_0 J9 h) :=
  (kp_bind (kp_tw (kpX12_one _) rfl) fun w1 hcw1 => (kp_ite (kp_ret hcw1) (kp_tw (cJ9 _) hcw1)))
theorem lBX12_all_0 {J9 : ea_H → Option (Int32 × ea_H)} {J9_ : ea_H → Option (Int32 × ea_H)}  (mJ9 : ∀ (h : ea_H), fle (J9 h) (J9_ h)) {h : ea_H} : fle (BX12_all_0 J9 h) (BX12_all_0 J9_ h) :=
  (fle_bind (fle_rfl _) fun _ => (fle_ite (fle_rfl _) (mJ9 _)))
theorem nBX12_all_0 {J9 : ea_H → Option (Int32 × ea_H)} {J9_ : Nat → (ea_H → Option (Int32 × ea_H))}  (mJ9 : ∀ (h : ea_H), fct (J9 h) (fun f => J9_ f h)) {h : ea_H} : fct (BX12_all_0 J9 h) (fun f => BX12_all_0 (J9_ f) h) :=
  (fct_bind (fct_rfl _) fun _ => (fct_ite (fct_rfl _) (mJ9 _)))
noncomputable def BX12_all_9 (J9 : ea_H → Option (Int32 × ea_H)) (h : ea_H) : Option (Int32 × ea_H) :=
  (if (ea_i h 326 54) = (12 : Int32) then (Option.bind (qX12_next0  h) fun w3 => (Option.bind (qX12_one  w3.2) fun w4 => (if w4.1 = (0 : Int32) then (some ((0 : Int32), w4.2)) else (Option.bind (qX12_lay (16 : Int32) (0 : Int32) w4.2) fun w5 => (J9 w5.2))))) else (some ((1 : Int32), h)))
theorem tBX12_all_9 {d : Nat} {h0 : ea_H} (hd : 92 ≤ d) {J9 : ea_H → Option (Int32 × ea_H)}  (kJ9 : ∀ (h : ea_H) (r : Int32) (h' : ea_H), J9 h = some (r, h') → ShM h → ea_W mX12_all d h0 (some (vI r)) h' 9 [(0, vR (some 326))] [] h) {h : ea_H} {r : Int32} {h' : ea_H} (E : BX12_all_9 J9 h = some (r, h')) (hs : ShM h) : ea_W mX12_all d h0 (some (vI r)) h' 9 [(0, vR (some 326))] [] h := by
  unfold BX12_all_9 at E
  refine ea_aload_n (pc := 9) dX12_all_9 rfl 0 rfl ?_
  refine ea_getI (pc := 10) dX12_all_10 ec_12 (k := 54) (Nat.le_of_ble_eq_true rfl) rfl (Or.inl ew_1456) (cShM_326 hs).1 (cShM_326 hs).2.1 ?_
  refine ea_bipush (pc := 13) dX12_all_13 (v := 12) rfl ?_
  refine ea_icmp_ne (pc := 15) (tgt := 41) dX12_all_15 rfl (fun c7 => ?_) (fun c7 => ?_)
  · have E := (if_neg c7).symm.trans E
    refine ea_iconst (pc := 41) dX12_all_41 (v := 1) rfl ?_
    exact ea_iretO (pc := 42) dX12_all_42 rfl (ea_bn (Or.inr rfl)) E
  · have E := (if_pos c7).symm.trans E
    obtain ⟨w3, Ew3, E⟩ := bd_some E
    have hsw3 : ShM w3.2 := ShM_core ((kpX12_next0 _) _ Ew3) hs
    refine ea_aload_n (pc := 18) dX12_all_18 rfl 0 rfl ?_
    refine ea_callV (pc := 19) (d' := d - 1) (As := []) (st := []) dX12_all_19 kX12_next0 (sX12_next0 (d := d - 1) (by omega) hs Ew3) (by omega) rfl (Nat.le_of_ble_eq_true rfl) ew_1879 ew_1881 ew_70 (ci := 12) rfl (by decide) (cShM_326 hs).1 (cShM_326 hs).2.1 ?_
    obtain ⟨w4, Ew4, E⟩ := bd_some E
    have hsw4 : ShM w4.2 := ShM_core ((kpX12_one _) _ Ew4) hsw3
    refine ea_aload_n (pc := 22) dX12_all_22 rfl 0 rfl ?_
    refine ea_callV (pc := 23) (d' := d - 1) (As := []) (st := []) dX12_all_23 kX12_one (sX12_one (d := d - 1) (by omega) hsw3 Ew4) (by omega) rfl (Nat.le_of_ble_eq_true rfl) ew_2015 ew_2017 ew_86 (ci := 12) rfl (by decide) (cShM_326 hsw3).1 (cShM_326 hsw3).2.1 ?_
    refine ea_if_ne (pc := 26) (tgt := 31) dX12_all_26 rfl (fun c6 => ?_) (fun c6 => ?_)
    · have E := (if_neg c6).symm.trans E
      obtain ⟨w5, Ew5, E⟩ := bd_some E
      have hsw5 : ShM w5.2 := ShM_core ((kpX12_lay _ _ _) _ Ew5) hsw4
      refine ea_aload_n (pc := 31) dX12_all_31 rfl 0 rfl ?_
      refine ea_bipush (pc := 32) dX12_all_32 (v := 16) rfl ?_
      refine ea_iconst (pc := 34) dX12_all_34 (v := 0) rfl ?_
      refine ea_callV (pc := 35) (d' := d - 1) (As := [vI 16, vI 0]) (st := []) dX12_all_35 kX12_lay (sX12_lay (d := d - 1) (by omega) hsw4 Ew5) (by omega) rfl (Nat.le_of_ble_eq_true rfl) ew_2003 ew_2005 ew_83 (ci := 12) rfl (by decide) (cShM_326 hsw4).1 (cShM_326 hsw4).2.1 ?_
      refine ea_goto (pc := 38) (tgt := 9) dX12_all_38 rfl ?_
      exact (kJ9 w5.2 _ _ E hsw5)
    · have E := (if_pos c6).symm.trans E
      refine ea_iconst (pc := 29) dX12_all_29 (v := 0) rfl ?_
      exact ea_iretO (pc := 30) dX12_all_30 rfl (ea_bn (Or.inl rfl)) E
theorem kBX12_all_9 {J9 : ea_H → Option (Int32 × ea_H)}  (cJ9 : ∀ (h : ea_H), kp (ea_core h) (J9 h)) {h : ea_H} : kp (ea_core h) (BX12_all_9 J9 h) :=
  (kp_ite (kp_bind (kp_tw (kpX12_next0 _) rfl) fun w3 hcw3 => (kp_bind (kp_tw (kpX12_one _) hcw3) fun w4 hcw4 => (kp_ite (kp_ret hcw4) (kp_bind (kp_tw (kpX12_lay _ _ _) hcw4) fun w5 hcw5 => (kp_tw (cJ9 _) hcw5))))) (kp_ret rfl))
theorem lBX12_all_9 {J9 : ea_H → Option (Int32 × ea_H)} {J9_ : ea_H → Option (Int32 × ea_H)}  (mJ9 : ∀ (h : ea_H), fle (J9 h) (J9_ h)) {h : ea_H} : fle (BX12_all_9 J9 h) (BX12_all_9 J9_ h) :=
  (fle_ite (fle_bind (fle_rfl _) fun _ => (fle_bind (fle_rfl _) fun _ => (fle_ite (fle_rfl _) (fle_bind (fle_rfl _) fun _ => (mJ9 _))))) (fle_rfl _))
theorem nBX12_all_9 {J9 : ea_H → Option (Int32 × ea_H)} {J9_ : Nat → (ea_H → Option (Int32 × ea_H))}  (mJ9 : ∀ (h : ea_H), fct (J9 h) (fun f => J9_ f h)) {h : ea_H} : fct (BX12_all_9 J9 h) (fun f => BX12_all_9 (J9_ f) h) :=
  (fct_ite (fct_bind (fct_rfl _) fun _ => (fct_bind (fct_rfl _) fun _ => (fct_ite (fct_rfl _) (fct_bind (fct_rfl _) fun _ => (mJ9 _))))) (fct_rfl _))
noncomputable def gX12_all : Nat → (ea_H → Option (Int32 × ea_H)) × (ea_H → Option (Int32 × ea_H))
  | 0 => (fun _ => none, fun _ => none)
  | f + 1 => (BX12_all_0 (gX12_all f).2, BX12_all_9 (gX12_all f).2)
theorem mgX12_all : ∀ f : Nat, (∀ (h : ea_H), fle ((gX12_all f).1 h) ((gX12_all (f + 1)).1 h)) ∧ (∀ (h : ea_H), fle ((gX12_all f).2 h) ((gX12_all (f + 1)).2 h)) := by
  intro f
  induction f with
  | zero => exact ⟨fun _ => fle_none _, fun _ => fle_none _⟩
  | succ f ih => exact ⟨fun _ => lBX12_all_0 ih.2, fun _ => lBX12_all_9 ih.2⟩
noncomputable def qX12_all_0 (h : ea_H) : Option (Int32 × ea_H) := flim fun f => (gX12_all f).1 h
noncomputable def qX12_all_9 (h : ea_H) : Option (Int32 × ea_H) := flim fun f => (gX12_all f).2 h
theorem fqX12_all_0 (h : ea_H) : fct (qX12_all_0 h) fun f => (gX12_all f).1 h := flim_ct fun f => (mgX12_all f).1 h
theorem fqX12_all_9 (h : ea_H) : fct (qX12_all_9 h) fun f => (gX12_all f).2 h := flim_ct fun f => (mgX12_all f).2 h
/-- how a block opens -/
theorem uqX12_all_0 {h : ea_H} {P : Int32 × ea_H → Prop} (H : sat (BX12_all_0 qX12_all_9 h) P) : sat (qX12_all_0 h) P := by
  obtain ⟨x, e, hp⟩ := H
  obtain ⟨n, hn⟩ := nBX12_all_0 fqX12_all_9 x e
  exact ⟨x, flim_at (fun f => (mgX12_all f).1 h) (f := n + 1) (hn n (Nat.le_refl _)), hp⟩
/-- how a block opens -/
theorem uqX12_all_9 {h : ea_H} {P : Int32 × ea_H → Prop} (H : sat (BX12_all_9 qX12_all_9 h) P) : sat (qX12_all_9 h) P := by
  obtain ⟨x, e, hp⟩ := H
  obtain ⟨n, hn⟩ := nBX12_all_9 fqX12_all_9 x e
  exact ⟨x, flim_at (fun f => (mgX12_all f).2 h) (f := n + 1) (hn n (Nat.le_refl _)), hp⟩
theorem kgX12_all : ∀ f : Nat, (∀ (h : ea_H), kp (ea_core h) ((gX12_all f).1 h)) ∧ (∀ (h : ea_H), kp (ea_core h) ((gX12_all f).2 h)) := by
  intro f
  induction f with
  | zero => exact ⟨fun _ => kp_none _, fun _ => kp_none _⟩
  | succ f ih => exact ⟨fun _ => kBX12_all_0 ih.2, fun _ => kBX12_all_9 ih.2⟩
theorem tgX12_all {d : Nat} {h0 : ea_H} (hd : 92 ≤ d) : ∀ f : Nat, (∀ (h : ea_H) (r : Int32) (h' : ea_H), (gX12_all f).1 h = some (r, h') → ShM h → ea_W mX12_all d h0 (some (vI r)) h' 0 [(0, vR (some 326))] [] h) ∧ (∀ (h : ea_H) (r : Int32) (h' : ea_H), (gX12_all f).2 h = some (r, h') → ShM h → ea_W mX12_all d h0 (some (vI r)) h' 9 [(0, vR (some 326))] [] h) := by
  intro f
  induction f with
  | zero => exact ⟨fun _ _ _ E => no_some E, fun _ _ _ E => no_some E⟩
  | succ f ih => exact ⟨fun _ _ _ E hs => tBX12_all_0 hd ih.2 E hs, fun _ _ _ E hs => tBX12_all_9 hd ih.2 E hs⟩
noncomputable def qX12_all (h : ea_H) : Option (Int32 × ea_H) := qX12_all_0  h
theorem sX12_all {d : Nat} {h : ea_H} {r : Int32} {h' : ea_H} (hd : 92 ≤ d) (hs : ShM h) (K : qX12_all h = some (r, h')) : ea_Met mX12_all d [vR (some 326)] h (some (vI r)) h' := by
  unfold qX12_all at K
  obtain ⟨n, hn⟩ := fqX12_all_0  h _ K
  have W := (tgX12_all (d := d) (h0 := h) hd n).1  h _ _ (hn n (Nat.le_refl _)) hs
  exact ea_enter rfl (Nat.le_of_ble_eq_true rfl) W
theorem kpX12_all (h : ea_H) : kp (ea_core h) (qX12_all h) := fun x e => by
  obtain ⟨n, hn⟩ := fqX12_all_0  h x e
  exact (kgX12_all n).1  h x (hn n (Nat.le_refl _))
noncomputable def BX12_any_0 (J9 : ea_H → Option (Int32 × ea_H)) (h : ea_H) : Option (Int32 × ea_H) :=
  (Option.bind (qX12_all  h) fun w1 => (if w1.1 = (0 : Int32) then (some ((0 : Int32), w1.2)) else (J9 w1.2)))
theorem tBX12_any_0 {d : Nat} {h0 : ea_H} (hd : 93 ≤ d) {J9 : ea_H → Option (Int32 × ea_H)}  (kJ9 : ∀ (h : ea_H) (r : Int32) (h' : ea_H), J9 h = some (r, h') → ShM h → ea_W mX12_any d h0 (some (vI r)) h' 9 [(0, vR (some 326))] [] h) {h : ea_H} {r : Int32} {h' : ea_H} (E : BX12_any_0 J9 h = some (r, h')) (hs : ShM h) : ea_W mX12_any d h0 (some (vI r)) h' 0 [(0, vR (some 326))] [] h := by
  unfold BX12_any_0 at E
  obtain ⟨w1, Ew1, E⟩ := bd_some E
  have hsw1 : ShM w1.2 := ShM_core ((kpX12_all _) _ Ew1) hs
  refine ea_aload_n (pc := 0) dX12_any_0 rfl 0 rfl ?_
  refine ea_callV (pc := 1) (d' := d - 1) (As := []) (st := []) dX12_any_1 kX12_all (sX12_all (d := d - 1) (by omega) hs Ew1) (by omega) rfl (Nat.le_of_ble_eq_true rfl) ew_2011 ew_2013 ew_85 (ci := 12) rfl (by decide) (cShM_326 hs).1 (cShM_326 hs).2.1 ?_
  refine ea_if_ne (pc := 4) (tgt := 9) dX12_any_4 rfl (fun c2 => ?_) (fun c2 => ?_)
  · have E := (if_neg c2).symm.trans E
    exact (kJ9 w1.2 _ _ E hsw1)
  · have E := (if_pos c2).symm.trans E
    refine ea_iconst (pc := 7) dX12_any_7 (v := 0) rfl ?_
    exact ea_iretO (pc := 8) dX12_any_8 rfl (ea_bn (Or.inl rfl)) E
theorem kBX12_any_0 {J9 : ea_H → Option (Int32 × ea_H)}  (cJ9 : ∀ (h : ea_H), kp (ea_core h) (J9 h)) {h : ea_H} : kp (ea_core h) (BX12_any_0 J9 h) :=
  (kp_bind (kp_tw (kpX12_all _) rfl) fun w1 hcw1 => (kp_ite (kp_ret hcw1) (kp_tw (cJ9 _) hcw1)))
theorem lBX12_any_0 {J9 : ea_H → Option (Int32 × ea_H)} {J9_ : ea_H → Option (Int32 × ea_H)}  (mJ9 : ∀ (h : ea_H), fle (J9 h) (J9_ h)) {h : ea_H} : fle (BX12_any_0 J9 h) (BX12_any_0 J9_ h) :=
  (fle_bind (fle_rfl _) fun _ => (fle_ite (fle_rfl _) (mJ9 _)))
theorem nBX12_any_0 {J9 : ea_H → Option (Int32 × ea_H)} {J9_ : Nat → (ea_H → Option (Int32 × ea_H))}  (mJ9 : ∀ (h : ea_H), fct (J9 h) (fun f => J9_ f h)) {h : ea_H} : fct (BX12_any_0 J9 h) (fun f => BX12_any_0 (J9_ f) h) :=
  (fct_bind (fct_rfl _) fun _ => (fct_ite (fct_rfl _) (mJ9 _)))
noncomputable def BX12_any_9 (J9 : ea_H → Option (Int32 × ea_H)) (h : ea_H) : Option (Int32 × ea_H) :=
  (if (ea_i h 326 54) = (11 : Int32) then (Option.bind (qX12_next0  h) fun w3 => (Option.bind (qX12_all  w3.2) fun w4 => (if w4.1 = (0 : Int32) then (some ((0 : Int32), w4.2)) else (Option.bind (qX12_lay (17 : Int32) (0 : Int32) w4.2) fun w5 => (J9 w5.2))))) else (some ((1 : Int32), h)))
theorem tBX12_any_9 {d : Nat} {h0 : ea_H} (hd : 93 ≤ d) {J9 : ea_H → Option (Int32 × ea_H)}  (kJ9 : ∀ (h : ea_H) (r : Int32) (h' : ea_H), J9 h = some (r, h') → ShM h → ea_W mX12_any d h0 (some (vI r)) h' 9 [(0, vR (some 326))] [] h) {h : ea_H} {r : Int32} {h' : ea_H} (E : BX12_any_9 J9 h = some (r, h')) (hs : ShM h) : ea_W mX12_any d h0 (some (vI r)) h' 9 [(0, vR (some 326))] [] h := by
  unfold BX12_any_9 at E
  refine ea_aload_n (pc := 9) dX12_any_9 rfl 0 rfl ?_
  refine ea_getI (pc := 10) dX12_any_10 ec_12 (k := 54) (Nat.le_of_ble_eq_true rfl) rfl (Or.inl ew_1456) (cShM_326 hs).1 (cShM_326 hs).2.1 ?_
  refine ea_bipush (pc := 13) dX12_any_13 (v := 11) rfl ?_
  refine ea_icmp_ne (pc := 15) (tgt := 41) dX12_any_15 rfl (fun c7 => ?_) (fun c7 => ?_)
  · have E := (if_neg c7).symm.trans E
    refine ea_iconst (pc := 41) dX12_any_41 (v := 1) rfl ?_
    exact ea_iretO (pc := 42) dX12_any_42 rfl (ea_bn (Or.inr rfl)) E
  · have E := (if_pos c7).symm.trans E
    obtain ⟨w3, Ew3, E⟩ := bd_some E
    have hsw3 : ShM w3.2 := ShM_core ((kpX12_next0 _) _ Ew3) hs
    refine ea_aload_n (pc := 18) dX12_any_18 rfl 0 rfl ?_
    refine ea_callV (pc := 19) (d' := d - 1) (As := []) (st := []) dX12_any_19 kX12_next0 (sX12_next0 (d := d - 1) (by omega) hs Ew3) (by omega) rfl (Nat.le_of_ble_eq_true rfl) ew_1879 ew_1881 ew_70 (ci := 12) rfl (by decide) (cShM_326 hs).1 (cShM_326 hs).2.1 ?_
    obtain ⟨w4, Ew4, E⟩ := bd_some E
    have hsw4 : ShM w4.2 := ShM_core ((kpX12_all _) _ Ew4) hsw3
    refine ea_aload_n (pc := 22) dX12_any_22 rfl 0 rfl ?_
    refine ea_callV (pc := 23) (d' := d - 1) (As := []) (st := []) dX12_any_23 kX12_all (sX12_all (d := d - 1) (by omega) hsw3 Ew4) (by omega) rfl (Nat.le_of_ble_eq_true rfl) ew_2011 ew_2013 ew_85 (ci := 12) rfl (by decide) (cShM_326 hsw3).1 (cShM_326 hsw3).2.1 ?_
    refine ea_if_ne (pc := 26) (tgt := 31) dX12_any_26 rfl (fun c6 => ?_) (fun c6 => ?_)
    · have E := (if_neg c6).symm.trans E
      obtain ⟨w5, Ew5, E⟩ := bd_some E
      have hsw5 : ShM w5.2 := ShM_core ((kpX12_lay _ _ _) _ Ew5) hsw4
      refine ea_aload_n (pc := 31) dX12_any_31 rfl 0 rfl ?_
      refine ea_bipush (pc := 32) dX12_any_32 (v := 17) rfl ?_
      refine ea_iconst (pc := 34) dX12_any_34 (v := 0) rfl ?_
      refine ea_callV (pc := 35) (d' := d - 1) (As := [vI 17, vI 0]) (st := []) dX12_any_35 kX12_lay (sX12_lay (d := d - 1) (by omega) hsw4 Ew5) (by omega) rfl (Nat.le_of_ble_eq_true rfl) ew_2003 ew_2005 ew_83 (ci := 12) rfl (by decide) (cShM_326 hsw4).1 (cShM_326 hsw4).2.1 ?_
      refine ea_goto (pc := 38) (tgt := 9) dX12_any_38 rfl ?_
      exact (kJ9 w5.2 _ _ E hsw5)
    · have E := (if_pos c6).symm.trans E
      refine ea_iconst (pc := 29) dX12_any_29 (v := 0) rfl ?_
      exact ea_iretO (pc := 30) dX12_any_30 rfl (ea_bn (Or.inl rfl)) E
theorem kBX12_any_9 {J9 : ea_H → Option (Int32 × ea_H)}  (cJ9 : ∀ (h : ea_H), kp (ea_core h) (J9 h)) {h : ea_H} : kp (ea_core h) (BX12_any_9 J9 h) :=
  (kp_ite (kp_bind (kp_tw (kpX12_next0 _) rfl) fun w3 hcw3 => (kp_bind (kp_tw (kpX12_all _) hcw3) fun w4 hcw4 => (kp_ite (kp_ret hcw4) (kp_bind (kp_tw (kpX12_lay _ _ _) hcw4) fun w5 hcw5 => (kp_tw (cJ9 _) hcw5))))) (kp_ret rfl))
theorem lBX12_any_9 {J9 : ea_H → Option (Int32 × ea_H)} {J9_ : ea_H → Option (Int32 × ea_H)}  (mJ9 : ∀ (h : ea_H), fle (J9 h) (J9_ h)) {h : ea_H} : fle (BX12_any_9 J9 h) (BX12_any_9 J9_ h) :=
  (fle_ite (fle_bind (fle_rfl _) fun _ => (fle_bind (fle_rfl _) fun _ => (fle_ite (fle_rfl _) (fle_bind (fle_rfl _) fun _ => (mJ9 _))))) (fle_rfl _))
theorem nBX12_any_9 {J9 : ea_H → Option (Int32 × ea_H)} {J9_ : Nat → (ea_H → Option (Int32 × ea_H))}  (mJ9 : ∀ (h : ea_H), fct (J9 h) (fun f => J9_ f h)) {h : ea_H} : fct (BX12_any_9 J9 h) (fun f => BX12_any_9 (J9_ f) h) :=
  (fct_ite (fct_bind (fct_rfl _) fun _ => (fct_bind (fct_rfl _) fun _ => (fct_ite (fct_rfl _) (fct_bind (fct_rfl _) fun _ => (mJ9 _))))) (fct_rfl _))
noncomputable def gX12_any : Nat → (ea_H → Option (Int32 × ea_H)) × (ea_H → Option (Int32 × ea_H))
  | 0 => (fun _ => none, fun _ => none)
  | f + 1 => (BX12_any_0 (gX12_any f).2, BX12_any_9 (gX12_any f).2)
theorem mgX12_any : ∀ f : Nat, (∀ (h : ea_H), fle ((gX12_any f).1 h) ((gX12_any (f + 1)).1 h)) ∧ (∀ (h : ea_H), fle ((gX12_any f).2 h) ((gX12_any (f + 1)).2 h)) := by
  intro f
  induction f with
  | zero => exact ⟨fun _ => fle_none _, fun _ => fle_none _⟩
  | succ f ih => exact ⟨fun _ => lBX12_any_0 ih.2, fun _ => lBX12_any_9 ih.2⟩
noncomputable def qX12_any_0 (h : ea_H) : Option (Int32 × ea_H) := flim fun f => (gX12_any f).1 h
noncomputable def qX12_any_9 (h : ea_H) : Option (Int32 × ea_H) := flim fun f => (gX12_any f).2 h
theorem fqX12_any_0 (h : ea_H) : fct (qX12_any_0 h) fun f => (gX12_any f).1 h := flim_ct fun f => (mgX12_any f).1 h
theorem fqX12_any_9 (h : ea_H) : fct (qX12_any_9 h) fun f => (gX12_any f).2 h := flim_ct fun f => (mgX12_any f).2 h
/-- how a block opens -/
theorem uqX12_any_0 {h : ea_H} {P : Int32 × ea_H → Prop} (H : sat (BX12_any_0 qX12_any_9 h) P) : sat (qX12_any_0 h) P := by
  obtain ⟨x, e, hp⟩ := H
  obtain ⟨n, hn⟩ := nBX12_any_0 fqX12_any_9 x e
  exact ⟨x, flim_at (fun f => (mgX12_any f).1 h) (f := n + 1) (hn n (Nat.le_refl _)), hp⟩
/-- how a block opens -/
theorem uqX12_any_9 {h : ea_H} {P : Int32 × ea_H → Prop} (H : sat (BX12_any_9 qX12_any_9 h) P) : sat (qX12_any_9 h) P := by
  obtain ⟨x, e, hp⟩ := H
  obtain ⟨n, hn⟩ := nBX12_any_9 fqX12_any_9 x e
  exact ⟨x, flim_at (fun f => (mgX12_any f).2 h) (f := n + 1) (hn n (Nat.le_refl _)), hp⟩
theorem kgX12_any : ∀ f : Nat, (∀ (h : ea_H), kp (ea_core h) ((gX12_any f).1 h)) ∧ (∀ (h : ea_H), kp (ea_core h) ((gX12_any f).2 h)) := by
  intro f
  induction f with
  | zero => exact ⟨fun _ => kp_none _, fun _ => kp_none _⟩
  | succ f ih => exact ⟨fun _ => kBX12_any_0 ih.2, fun _ => kBX12_any_9 ih.2⟩
theorem tgX12_any {d : Nat} {h0 : ea_H} (hd : 93 ≤ d) : ∀ f : Nat, (∀ (h : ea_H) (r : Int32) (h' : ea_H), (gX12_any f).1 h = some (r, h') → ShM h → ea_W mX12_any d h0 (some (vI r)) h' 0 [(0, vR (some 326))] [] h) ∧ (∀ (h : ea_H) (r : Int32) (h' : ea_H), (gX12_any f).2 h = some (r, h') → ShM h → ea_W mX12_any d h0 (some (vI r)) h' 9 [(0, vR (some 326))] [] h) := by
  intro f
  induction f with
  | zero => exact ⟨fun _ _ _ E => no_some E, fun _ _ _ E => no_some E⟩
  | succ f ih => exact ⟨fun _ _ _ E hs => tBX12_any_0 hd ih.2 E hs, fun _ _ _ E hs => tBX12_any_9 hd ih.2 E hs⟩
noncomputable def qX12_any (h : ea_H) : Option (Int32 × ea_H) := qX12_any_0  h
theorem sX12_any {d : Nat} {h : ea_H} {r : Int32} {h' : ea_H} (hd : 93 ≤ d) (hs : ShM h) (K : qX12_any h = some (r, h')) : ea_Met mX12_any d [vR (some 326)] h (some (vI r)) h' := by
  unfold qX12_any at K
  obtain ⟨n, hn⟩ := fqX12_any_0  h _ K
  have W := (tgX12_any (d := d) (h0 := h) hd n).1  h _ _ (hn n (Nat.le_refl _)) hs
  exact ea_enter rfl (Nat.le_of_ble_eq_true rfl) W
theorem kpX12_any (h : ea_H) : kp (ea_core h) (qX12_any h) := fun x e => by
  obtain ⟨n, hn⟩ := fqX12_any_0  h x e
  exact (kgX12_any n).1  h x (hn n (Nat.le_refl _))
noncomputable def BX12_aCharge_0 (h : ea_H) : Option (Int32 × ea_H) :=
  (gd (vp_in (ea_i h 326 44) 25) (ea_let (ea_wi h 359 (Int32.toNatClampNeg (ea_i h 326 44)) (ea_i h 326 45)) fun H2 => (Option.bind (qX12_sumOf  H2) fun w3 => (if w3.1 = (0 : Int32) then (some ((0 : Int32), w3.2)) else (gd (vp_in (ea_i w3.2 326 44) 24) (ea_let (ea_wi w3.2 360 (Int32.toNatClampNeg (ea_i w3.2 326 44)) (ea_i w3.2 326 45)) fun H5 => (if (ea_i H5 326 54) = (10 : Int32) then (Option.bind (qX12_next0  H5) fun w7 => (Option.bind (qX12_any  w7.2) fun w8 => (if w8.1 = (0 : Int32) then (some ((0 : Int32), w8.2)) else (ea_let (ea_wi w8.2 326 44 ((ea_i w8.2 326 44) + (1 : Int32))) fun H9 => (some ((1 : Int32), H9)))))) else (ea_let (ea_wi H5 326 44 ((ea_i H5 326 44) + (1 : Int32))) fun H6 => (some ((1 : Int32), H6))))))))))
theorem tBX12_aCharge_0 {d : Nat} {h0 : ea_H} (hd : 94 ≤ d)  {h : ea_H} {r : Int32} {h' : ea_H} (E : BX12_aCharge_0 h = some (r, h')) (hs : ShM h) : ea_W mX12_aCharge d h0 (some (vI r)) h' 0 [(0, vR (some 326))] [] h := by
  unfold BX12_aCharge_0 at E
  obtain ⟨z1, E⟩ := gd_some E
  refine ea_aload_n (pc := 0) dX12_aCharge_0 rfl 0 rfl ?_
  refine ea_getR (pc := 1) dX12_aCharge_1 ec_12 (k := 38) (Nat.le_of_ble_eq_true rfl) rfl (Or.inl ew_1440) (cShM_326 hs).1 (cShM_326 hs).2.1 (rShM_326_38 hs) ?_
  refine ea_aload_n (pc := 4) dX12_aCharge_4 rfl 0 rfl ?_
  refine ea_getI (pc := 5) dX12_aCharge_5 ec_12 (k := 44) (Nat.le_of_ble_eq_true rfl) rfl (Or.inl ew_1446) (cShM_326 hs).1 (cShM_326 hs).2.1 ?_
  refine ea_aload_n (pc := 8) dX12_aCharge_8 rfl 0 rfl ?_
  refine ea_getI (pc := 9) dX12_aCharge_9 ec_12 (k := 45) (Nat.le_of_ble_eq_true rfl) rfl (Or.inl ew_1447) (cShM_326 hs).1 (cShM_326 hs).2.1 ?_
  obtain ⟨H2, eH2, E⟩ := let_some E
  refine ea_iast (pc := 12) dX12_aCharge_12 (cShM_359 hs).1 (cShM_359 hs).2.1 (ea_vpl (cShM_359 hs).2.2 z1) ?_
  refine ea_nm eH2 ?_
  have hsH2 : ShM H2 := by rw [eH2]; exact hs
  obtain ⟨w3, Ew3, E⟩ := bd_some E
  have hsw3 : ShM w3.2 := ShM_core ((kpX12_sumOf _) _ Ew3) hsH2
  refine ea_aload_n (pc := 13) dX12_aCharge_13 rfl 0 rfl ?_
  refine ea_callV (pc := 14) (d' := d - 1) (As := []) (st := []) dX12_aCharge_14 kX12_sumOf (sX12_sumOf (d := d - 1) (by omega) hsH2 Ew3) (by omega) rfl (Nat.le_of_ble_eq_true rfl) ew_1983 ew_1985 ew_78 (ci := 12) rfl (by decide) (cShM_326 hsH2).1 (cShM_326 hsH2).2.1 ?_
  refine ea_if_ne (pc := 17) (tgt := 22) dX12_aCharge_17 rfl (fun c12 => ?_) (fun c12 => ?_)
  · have E := (if_neg c12).symm.trans E
    obtain ⟨z4, E⟩ := gd_some E
    refine ea_aload_n (pc := 22) dX12_aCharge_22 rfl 0 rfl ?_
    refine ea_getR (pc := 23) dX12_aCharge_23 ec_12 (k := 39) (Nat.le_of_ble_eq_true rfl) rfl (Or.inl ew_1441) (cShM_326 hsw3).1 (cShM_326 hsw3).2.1 (rShM_326_39 hsw3) ?_
    refine ea_aload_n (pc := 26) dX12_aCharge_26 rfl 0 rfl ?_
    refine ea_getI (pc := 27) dX12_aCharge_27 ec_12 (k := 44) (Nat.le_of_ble_eq_true rfl) rfl (Or.inl ew_1446) (cShM_326 hsw3).1 (cShM_326 hsw3).2.1 ?_
    refine ea_aload_n (pc := 30) dX12_aCharge_30 rfl 0 rfl ?_
    refine ea_getI (pc := 31) dX12_aCharge_31 ec_12 (k := 45) (Nat.le_of_ble_eq_true rfl) rfl (Or.inl ew_1447) (cShM_326 hsw3).1 (cShM_326 hsw3).2.1 ?_
    obtain ⟨H5, eH5, E⟩ := let_some E
    refine ea_iast (pc := 34) dX12_aCharge_34 (cShM_360 hsw3).1 (cShM_360 hsw3).2.1 (ea_vpl (cShM_360 hsw3).2.2 z4) ?_
    refine ea_nm eH5 ?_
    have hsH5 : ShM H5 := by rw [eH5]; exact hsw3
    refine ea_aload_n (pc := 35) dX12_aCharge_35 rfl 0 rfl ?_
    refine ea_getI (pc := 36) dX12_aCharge_36 ec_12 (k := 54) (Nat.le_of_ble_eq_true rfl) rfl (Or.inl ew_1456) (cShM_326 hsH5).1 (cShM_326 hsH5).2.1 ?_
    refine ea_bipush (pc := 39) dX12_aCharge_39 (v := 10) rfl ?_
    refine ea_icmp_ne (pc := 41) (tgt := 57) dX12_aCharge_41 rfl (fun c11 => ?_) (fun c11 => ?_)
    · have E := (if_neg c11).symm.trans E
      obtain ⟨H6, eH6, E⟩ := let_some E
      refine ea_aload_n (pc := 57) dX12_aCharge_57 rfl 0 rfl ?_
      refine ea_dup (pc := 58) dX12_aCharge_58 rfl ?_
      refine ea_getI (pc := 59) dX12_aCharge_59 ec_12 (k := 44) (Nat.le_of_ble_eq_true rfl) rfl (Or.inl ew_1446) (cShM_326 hsH5).1 (cShM_326 hsH5).2.1 ?_
      refine ea_iconst (pc := 62) dX12_aCharge_62 (v := 1) rfl ?_
      refine ea_iadd (pc := 63) dX12_aCharge_63 ?_
      refine ea_putI (pc := 64) dX12_aCharge_64 ec_12 (k := 44) (Nat.le_of_ble_eq_true rfl) rfl (Or.inl ⟨rfl, Or.inl ew_1446⟩) rfl rfl (cShM_326 hsH5).1 (cShM_326 hsH5).2.1 ?_
      refine ea_nm eH6 ?_
      have hsH6 : ShM H6 := by rw [eH6]; exact hsH5
      refine ea_iconst (pc := 67) dX12_aCharge_67 (v := 1) rfl ?_
      exact ea_iretO (pc := 68) dX12_aCharge_68 rfl (ea_bn (Or.inr rfl)) E
    · have E := (if_pos c11).symm.trans E
      obtain ⟨w7, Ew7, E⟩ := bd_some E
      have hsw7 : ShM w7.2 := ShM_core ((kpX12_next0 _) _ Ew7) hsH5
      refine ea_aload_n (pc := 44) dX12_aCharge_44 rfl 0 rfl ?_
      refine ea_callV (pc := 45) (d' := d - 1) (As := []) (st := []) dX12_aCharge_45 kX12_next0 (sX12_next0 (d := d - 1) (by omega) hsH5 Ew7) (by omega) rfl (Nat.le_of_ble_eq_true rfl) ew_1879 ew_1881 ew_70 (ci := 12) rfl (by decide) (cShM_326 hsH5).1 (cShM_326 hsH5).2.1 ?_
      obtain ⟨w8, Ew8, E⟩ := bd_some E
      have hsw8 : ShM w8.2 := ShM_core ((kpX12_any _) _ Ew8) hsw7
      refine ea_aload_n (pc := 48) dX12_aCharge_48 rfl 0 rfl ?_
      refine ea_callV (pc := 49) (d' := d - 1) (As := []) (st := []) dX12_aCharge_49 kX12_any (sX12_any (d := d - 1) (by omega) hsw7 Ew8) (by omega) rfl (Nat.le_of_ble_eq_true rfl) ew_2007 ew_2009 ew_84 (ci := 12) rfl (by decide) (cShM_326 hsw7).1 (cShM_326 hsw7).2.1 ?_
      refine ea_if_ne (pc := 52) (tgt := 57) dX12_aCharge_52 rfl (fun c10 => ?_) (fun c10 => ?_)
      · have E := (if_neg c10).symm.trans E
        obtain ⟨H9, eH9, E⟩ := let_some E
        refine ea_aload_n (pc := 57) dX12_aCharge_57 rfl 0 rfl ?_
        refine ea_dup (pc := 58) dX12_aCharge_58 rfl ?_
        refine ea_getI (pc := 59) dX12_aCharge_59 ec_12 (k := 44) (Nat.le_of_ble_eq_true rfl) rfl (Or.inl ew_1446) (cShM_326 hsw8).1 (cShM_326 hsw8).2.1 ?_
        refine ea_iconst (pc := 62) dX12_aCharge_62 (v := 1) rfl ?_
        refine ea_iadd (pc := 63) dX12_aCharge_63 ?_
        refine ea_putI (pc := 64) dX12_aCharge_64 ec_12 (k := 44) (Nat.le_of_ble_eq_true rfl) rfl (Or.inl ⟨rfl, Or.inl ew_1446⟩) rfl rfl (cShM_326 hsw8).1 (cShM_326 hsw8).2.1 ?_
        refine ea_nm eH9 ?_
        have hsH9 : ShM H9 := by rw [eH9]; exact hsw8
        refine ea_iconst (pc := 67) dX12_aCharge_67 (v := 1) rfl ?_
        exact ea_iretO (pc := 68) dX12_aCharge_68 rfl (ea_bn (Or.inr rfl)) E
      · have E := (if_pos c10).symm.trans E
        refine ea_iconst (pc := 55) dX12_aCharge_55 (v := 0) rfl ?_
        exact ea_iretO (pc := 56) dX12_aCharge_56 rfl (ea_bn (Or.inl rfl)) E
  · have E := (if_pos c12).symm.trans E
    refine ea_iconst (pc := 20) dX12_aCharge_20 (v := 0) rfl ?_
    exact ea_iretO (pc := 21) dX12_aCharge_21 rfl (ea_bn (Or.inl rfl)) E
theorem kBX12_aCharge_0  {h : ea_H} : kp (ea_core h) (BX12_aCharge_0 h) :=
  (kp_gd (kp_let (kp_bind (kp_tw (kpX12_sumOf _) rfl) fun w3 hcw3 => (kp_ite (kp_ret hcw3) (kp_gd (kp_let (kp_ite (kp_bind (kp_tw (kpX12_next0 _) hcw3) fun w7 hcw7 => (kp_bind (kp_tw (kpX12_any _) hcw7) fun w8 hcw8 => (kp_ite (kp_ret hcw8) (kp_let (kp_ret hcw8))))) (kp_let (kp_ret hcw3)))))))))
noncomputable def qX12_aCharge (h : ea_H) : Option (Int32 × ea_H) := BX12_aCharge_0 h
theorem sX12_aCharge {d : Nat} {h : ea_H} {r : Int32} {h' : ea_H} (hd : 94 ≤ d) (hs : ShM h) (K : qX12_aCharge h = some (r, h')) : ea_Met mX12_aCharge d [vR (some 326)] h (some (vI r)) h' := by
  unfold qX12_aCharge at K
  have W := tBX12_aCharge_0 hd (h0 := h) K hs
  exact ea_enter rfl (Nat.le_of_ble_eq_true rfl) W
theorem kpX12_aCharge (h : ea_H) : kp (ea_core h) (qX12_aCharge h) := kBX12_aCharge_0
noncomputable def BX12_inner_0 (J24 : Int32 → Int32 → ea_H → Option (Int32 × ea_H)) (x1 : Int32) (h : ea_H) : Option (Int32 × ea_H) :=
  (if x1 = (3 : Int32) then (Option.bind (qX12_aCharge  h) fun w2 => (gd ((w2.1 = 0 ∨ w2.1 = 1)) (some (w2.1, w2.2)))) else (if x1 = (5 : Int32) then (J24 (x1 : Int32) (99 : Int32) h) else (J24 (x1 : Int32) (9999 : Int32) h)))
theorem tBX12_inner_0 {d : Nat} {h0 : ea_H} (hd : 95 ≤ d) {J24 : Int32 → Int32 → ea_H → Option (Int32 × ea_H)}  (kJ24 : ∀ (x1 : Int32) (sx0 : Int32) (h : ea_H) (r : Int32) (h' : ea_H), J24 x1 sx0 h = some (r, h') → ShM h → ea_W mX12_inner d h0 (some (vI r)) h' 24 [(0, vR (some 326)), (1, vI x1)] [vI sx0, vR (some 326)] h) {x1 : Int32} {h : ea_H} {r : Int32} {h' : ea_H} (E : BX12_inner_0 J24 x1 h = some (r, h')) (hs : ShM h) : ea_W mX12_inner d h0 (some (vI r)) h' 0 [(0, vR (some 326)), (1, vI x1)] [] h := by
  unfold BX12_inner_0 at E
  refine ea_iload_n (pc := 0) dX12_inner_0 rfl 1 rfl ?_
  refine ea_iconst (pc := 1) dX12_inner_1 (v := 3) rfl ?_
  refine ea_icmp_ne (pc := 2) (tgt := 10) dX12_inner_2 rfl (fun c4 => ?_) (fun c4 => ?_)
  · have E := (if_neg c4).symm.trans E
    refine ea_aload_n (pc := 10) dX12_inner_10 rfl 0 rfl ?_
    refine ea_iload_n (pc := 11) dX12_inner_11 rfl 1 rfl ?_
    refine ea_iconst (pc := 12) dX12_inner_12 (v := 5) rfl ?_
    refine ea_icmp_ne (pc := 13) (tgt := 21) dX12_inner_13 rfl (fun c1 => ?_) (fun c1 => ?_)
    · have E := (if_neg c1).symm.trans E
      refine ea_sipush (pc := 21) dX12_inner_21 (v := 9999) rfl ?_
      exact (kJ24 (x1 : Int32) (9999 : Int32) h _ _ E hs)
    · have E := (if_pos c1).symm.trans E
      refine ea_bipush (pc := 16) dX12_inner_16 (v := 99) rfl ?_
      refine ea_goto (pc := 18) (tgt := 24) dX12_inner_18 rfl ?_
      exact (kJ24 (x1 : Int32) (99 : Int32) h _ _ E hs)
  · have E := (if_pos c4).symm.trans E
    obtain ⟨w2, Ew2, E⟩ := bd_some E
    have hsw2 : ShM w2.2 := ShM_core ((kpX12_aCharge _) _ Ew2) hs
    refine ea_aload_n (pc := 5) dX12_inner_5 rfl 0 rfl ?_
    refine ea_callV (pc := 6) (d' := d - 1) (As := []) (st := []) dX12_inner_6 kX12_aCharge (sX12_aCharge (d := d - 1) (by omega) hs Ew2) (by omega) rfl (Nat.le_of_ble_eq_true rfl) ew_1979 ew_1981 ew_77 (ci := 12) rfl (by decide) (cShM_326 hs).1 (cShM_326 hs).2.1 ?_
    obtain ⟨z3, E⟩ := gd_some E
    exact ea_iretO (pc := 9) dX12_inner_9 rfl (ea_bn z3) E
theorem kBX12_inner_0 {J24 : Int32 → Int32 → ea_H → Option (Int32 × ea_H)}  (cJ24 : ∀ (x1 : Int32) (sx0 : Int32) (h : ea_H), kp (ea_core h) (J24 x1 sx0 h)) {x1 : Int32} {h : ea_H} : kp (ea_core h) (BX12_inner_0 J24 x1 h) :=
  (kp_ite (kp_bind (kp_tw (kpX12_aCharge _) rfl) fun w2 hcw2 => (kp_gd (kp_ret hcw2))) (kp_ite (kp_tw (cJ24 _ _ _) rfl) (kp_tw (cJ24 _ _ _) rfl)))
theorem lBX12_inner_0 {J24 : Int32 → Int32 → ea_H → Option (Int32 × ea_H)} {J24_ : Int32 → Int32 → ea_H → Option (Int32 × ea_H)}  (mJ24 : ∀ (x1 : Int32) (sx0 : Int32) (h : ea_H), fle (J24 x1 sx0 h) (J24_ x1 sx0 h)) {x1 : Int32} {h : ea_H} : fle (BX12_inner_0 J24 x1 h) (BX12_inner_0 J24_ x1 h) :=
  (fle_ite (fle_rfl _) (fle_ite (mJ24 _ _ _) (mJ24 _ _ _)))
theorem nBX12_inner_0 {J24 : Int32 → Int32 → ea_H → Option (Int32 × ea_H)} {J24_ : Nat → (Int32 → Int32 → ea_H → Option (Int32 × ea_H))}  (mJ24 : ∀ (x1 : Int32) (sx0 : Int32) (h : ea_H), fct (J24 x1 sx0 h) (fun f => J24_ f x1 sx0 h)) {x1 : Int32} {h : ea_H} : fct (BX12_inner_0 J24 x1 h) (fun f => BX12_inner_0 (J24_ f) x1 h) :=
  (fct_ite (fct_rfl _) (fct_ite (mJ24 _ _ _) (mJ24 _ _ _)))
noncomputable def BX12_inner_24 (J76 : Int32 → ea_H → Option (Int32 × ea_H)) (x1 : Int32) (sx0 : Int32) (h : ea_H) : Option (Int32 × ea_H) :=
  (Option.bind (qX12_aNumber (sx0 : Int32) h) fun w5 => (if w5.1 = (0 : Int32) then (some ((0 : Int32), w5.2)) else (if x1 = (4 : Int32) then (ea_let (ea_i w5.2 326 61) fun (v6 : Int32) => (Option.bind (qX12_need (9 : Int32) w5.2) fun w7 => (if w7.1 = (0 : Int32) then (some ((0 : Int32), w7.2)) else (Option.bind (qX12_aNumber (1439 : Int32) w7.2) fun w8 => (if w8.1 = (0 : Int32) then (some ((0 : Int32), w8.2)) else (ea_let (ea_wi w8.2 326 46 v6) fun H9 => (ea_let (ea_wi H9 326 47 (ea_i H9 326 61)) fun H10 => (J76 (x1 : Int32) H10)))))))) else (J76 (x1 : Int32) w5.2))))
theorem tBX12_inner_24 {d : Nat} {h0 : ea_H} (hd : 95 ≤ d) {J76 : Int32 → ea_H → Option (Int32 × ea_H)}  (kJ76 : ∀ (x1 : Int32) (h : ea_H) (r : Int32) (h' : ea_H), J76 x1 h = some (r, h') → ShM h → ea_W mX12_inner d h0 (some (vI r)) h' 76 [(0, vR (some 326)), (1, vI x1)] [] h) {x1 : Int32} {sx0 : Int32} {h : ea_H} {r : Int32} {h' : ea_H} (E : BX12_inner_24 J76 x1 sx0 h = some (r, h')) (hs : ShM h) : ea_W mX12_inner d h0 (some (vI r)) h' 24 [(0, vR (some 326)), (1, vI x1)] [vI sx0, vR (some 326)] h := by
  unfold BX12_inner_24 at E
  obtain ⟨w5, Ew5, E⟩ := bd_some E
  have hsw5 : ShM w5.2 := ShM_core ((kpX12_aNumber _ _) _ Ew5) hs
  refine ea_callV (pc := 24) (d' := d - 1) (As := [vI sx0]) (st := []) dX12_inner_24 kX12_aNumber (sX12_aNumber (d := d - 1) (by omega) hs Ew5) (by omega) rfl (Nat.le_of_ble_eq_true rfl) ew_2019 ew_2021 ew_87 (ci := 12) rfl (by decide) (cShM_326 hs).1 (cShM_326 hs).2.1 ?_
  refine ea_if_ne (pc := 27) (tgt := 32) dX12_inner_27 rfl (fun c14 => ?_) (fun c14 => ?_)
  · have E := (if_neg c14).symm.trans E
    refine ea_iload_n (pc := 32) dX12_inner_32 rfl 1 rfl ?_
    refine ea_iconst (pc := 33) dX12_inner_33 (v := 4) rfl ?_
    refine ea_icmp_ne (pc := 34) (tgt := 76) dX12_inner_34 rfl (fun c13 => ?_) (fun c13 => ?_)
    · have E := (if_neg c13).symm.trans E
      exact (kJ76 (x1 : Int32) w5.2 _ _ E hsw5)
    · have E := (if_pos c13).symm.trans E
      obtain ⟨v6, ev6, E⟩ := let_some E
      refine ea_aload_n (pc := 37) dX12_inner_37 rfl 0 rfl ?_
      refine ea_getI (pc := 38) dX12_inner_38 ec_12 (k := 61) (Nat.le_of_ble_eq_true rfl) rfl (Or.inl ew_1463) (cShM_326 hsw5).1 (cShM_326 hsw5).2.1 ?_
      obtain ⟨w7, Ew7, E⟩ := bd_some E
      have hsw7 : ShM w7.2 := ShM_core ((kpX12_need _ _) _ Ew7) hsw5
      refine ea_istore_n (pc := 41) (lv' := [(0, vR (some 326)), (1, vI x1), (2, vI v6)]) dX12_inner_41 rfl (Nat.le_of_ble_eq_true rfl) [1, 2, 0] (by rw [ev6]; rfl) ?_
      refine ea_aload_n (pc := 42) dX12_inner_42 rfl 0 rfl ?_
      refine ea_bipush (pc := 43) dX12_inner_43 (v := 9) rfl ?_
      refine ea_callV (pc := 45) (d' := d - 1) (As := [vI 9]) (st := []) dX12_inner_45 kX12_need (sX12_need (d := d - 1) (by omega) hsw5 Ew7) (by omega) rfl (Nat.le_of_ble_eq_true rfl) ew_1999 ew_2001 ew_82 (ci := 12) rfl (by decide) (cShM_326 hsw5).1 (cShM_326 hsw5).2.1 ?_
      refine ea_if_eq (pc := 48) (tgt := 61) dX12_inner_48 rfl (fun c12 => ?_) (fun c12 => ?_)
      · have E := (if_pos c12).symm.trans E
        refine ea_iconst (pc := 61) dX12_inner_61 (v := 0) rfl ?_
        exact ea_iretO (pc := 62) dX12_inner_62 rfl (ea_bn (Or.inl rfl)) E
      · have E := (if_neg c12).symm.trans E
        obtain ⟨w8, Ew8, E⟩ := bd_some E
        have hsw8 : ShM w8.2 := ShM_core ((kpX12_aNumber _ _) _ Ew8) hsw7
        refine ea_aload_n (pc := 51) dX12_inner_51 rfl 0 rfl ?_
        refine ea_sipush (pc := 52) dX12_inner_52 (v := 1439) rfl ?_
        refine ea_callV (pc := 55) (d' := d - 1) (As := [vI 1439]) (st := []) dX12_inner_55 kX12_aNumber (sX12_aNumber (d := d - 1) (by omega) hsw7 Ew8) (by omega) rfl (Nat.le_of_ble_eq_true rfl) ew_2019 ew_2021 ew_87 (ci := 12) rfl (by decide) (cShM_326 hsw7).1 (cShM_326 hsw7).2.1 ?_
        refine ea_if_ne (pc := 58) (tgt := 63) dX12_inner_58 rfl (fun c11 => ?_) (fun c11 => ?_)
        · have E := (if_neg c11).symm.trans E
          obtain ⟨H9, eH9, E⟩ := let_some E
          refine ea_aload_n (pc := 63) dX12_inner_63 rfl 0 rfl ?_
          refine ea_iload_n (pc := 64) dX12_inner_64 rfl 2 rfl ?_
          refine ea_putI (pc := 65) dX12_inner_65 ec_12 (k := 46) (Nat.le_of_ble_eq_true rfl) rfl (Or.inl ⟨rfl, Or.inl ew_1448⟩) rfl rfl (cShM_326 hsw8).1 (cShM_326 hsw8).2.1 ?_
          refine ea_nm eH9 ?_
          have hsH9 : ShM H9 := by rw [eH9]; exact hsw8
          obtain ⟨H10, eH10, E⟩ := let_some E
          refine ea_aload_n (pc := 68) dX12_inner_68 rfl 0 rfl ?_
          refine ea_aload_n (pc := 69) dX12_inner_69 rfl 0 rfl ?_
          refine ea_getI (pc := 70) dX12_inner_70 ec_12 (k := 61) (Nat.le_of_ble_eq_true rfl) rfl (Or.inl ew_1463) (cShM_326 hsH9).1 (cShM_326 hsH9).2.1 ?_
          refine ea_putI (pc := 73) dX12_inner_73 ec_12 (k := 47) (Nat.le_of_ble_eq_true rfl) rfl (Or.inl ⟨rfl, Or.inl ew_1449⟩) rfl rfl (cShM_326 hsH9).1 (cShM_326 hsH9).2.1 ?_
          refine ea_nm eH10 ?_
          have hsH10 : ShM H10 := by rw [eH10]; exact hsH9
          exact ea_fewer [0, 1] rfl (kJ76 (x1 : Int32) H10 _ _ E hsH10)
        · have E := (if_pos c11).symm.trans E
          refine ea_iconst (pc := 61) dX12_inner_61 (v := 0) rfl ?_
          exact ea_iretO (pc := 62) dX12_inner_62 rfl (ea_bn (Or.inl rfl)) E
  · have E := (if_pos c14).symm.trans E
    refine ea_iconst (pc := 30) dX12_inner_30 (v := 0) rfl ?_
    exact ea_iretO (pc := 31) dX12_inner_31 rfl (ea_bn (Or.inl rfl)) E
theorem kBX12_inner_24 {J76 : Int32 → ea_H → Option (Int32 × ea_H)}  (cJ76 : ∀ (x1 : Int32) (h : ea_H), kp (ea_core h) (J76 x1 h)) {x1 : Int32} {sx0 : Int32} {h : ea_H} : kp (ea_core h) (BX12_inner_24 J76 x1 sx0 h) :=
  (kp_bind (kp_tw (kpX12_aNumber _ _) rfl) fun w5 hcw5 => (kp_ite (kp_ret hcw5) (kp_ite (kp_let (kp_bind (kp_tw (kpX12_need _ _) hcw5) fun w7 hcw7 => (kp_ite (kp_ret hcw7) (kp_bind (kp_tw (kpX12_aNumber _ _) hcw7) fun w8 hcw8 => (kp_ite (kp_ret hcw8) (kp_let (kp_let (kp_tw (cJ76 _ _) hcw8)))))))) (kp_tw (cJ76 _ _) hcw5))))
theorem lBX12_inner_24 {J76 : Int32 → ea_H → Option (Int32 × ea_H)} {J76_ : Int32 → ea_H → Option (Int32 × ea_H)}  (mJ76 : ∀ (x1 : Int32) (h : ea_H), fle (J76 x1 h) (J76_ x1 h)) {x1 : Int32} {sx0 : Int32} {h : ea_H} : fle (BX12_inner_24 J76 x1 sx0 h) (BX12_inner_24 J76_ x1 sx0 h) :=
  (fle_bind (fle_rfl _) fun _ => (fle_ite (fle_rfl _) (fle_ite (fle_let fun _ => (fle_bind (fle_rfl _) fun _ => (fle_ite (fle_rfl _) (fle_bind (fle_rfl _) fun _ => (fle_ite (fle_rfl _) (fle_let fun _ => (fle_let fun _ => (mJ76 _ _)))))))) (mJ76 _ _))))
theorem nBX12_inner_24 {J76 : Int32 → ea_H → Option (Int32 × ea_H)} {J76_ : Nat → (Int32 → ea_H → Option (Int32 × ea_H))}  (mJ76 : ∀ (x1 : Int32) (h : ea_H), fct (J76 x1 h) (fun f => J76_ f x1 h)) {x1 : Int32} {sx0 : Int32} {h : ea_H} : fct (BX12_inner_24 J76 x1 sx0 h) (fun f => BX12_inner_24 (J76_ f) x1 sx0 h) :=
  (fct_bind (fct_rfl _) fun _ => (fct_ite (fct_rfl _) (fct_ite (fct_let fun _ => (fct_bind (fct_rfl _) fun _ => (fct_ite (fct_rfl _) (fct_bind (fct_rfl _) fun _ => (fct_ite (fct_rfl _) (fct_let fun _ => (fct_let fun _ => (mJ76 _ _)))))))) (mJ76 _ _))))
noncomputable def BX12_inner_76 (J89 : Int32 → ea_H → Option (Int32 × ea_H)) (x1 : Int32) (h : ea_H) : Option (Int32 × ea_H) :=
  (if x1 = (5 : Int32) then (ea_let (ea_wi h 326 48 (ea_i h 326 61)) fun H15 => (J89 (x1 : Int32) H15)) else (J89 (x1 : Int32) h))
theorem tBX12_inner_76 {d : Nat} {h0 : ea_H} (hd : 95 ≤ d) {J89 : Int32 → ea_H → Option (Int32 × ea_H)}  (kJ89 : ∀ (x1 : Int32) (h : ea_H) (r : Int32) (h' : ea_H), J89 x1 h = some (r, h') → ShM h → ea_W mX12_inner d h0 (some (vI r)) h' 89 [(0, vR (some 326)), (1, vI x1)] [] h) {x1 : Int32} {h : ea_H} {r : Int32} {h' : ea_H} (E : BX12_inner_76 J89 x1 h = some (r, h')) (hs : ShM h) : ea_W mX12_inner d h0 (some (vI r)) h' 76 [(0, vR (some 326)), (1, vI x1)] [] h := by
  unfold BX12_inner_76 at E
  refine ea_iload_n (pc := 76) dX12_inner_76 rfl 1 rfl ?_
  refine ea_iconst (pc := 77) dX12_inner_77 (v := 5) rfl ?_
  refine ea_icmp_ne (pc := 78) (tgt := 89) dX12_inner_78 rfl (fun c16 => ?_) (fun c16 => ?_)
  · have E := (if_neg c16).symm.trans E
    exact (kJ89 (x1 : Int32) h _ _ E hs)
  · have E := (if_pos c16).symm.trans E
    obtain ⟨H15, eH15, E⟩ := let_some E
    refine ea_aload_n (pc := 81) dX12_inner_81 rfl 0 rfl ?_
    refine ea_aload_n (pc := 82) dX12_inner_82 rfl 0 rfl ?_
    refine ea_getI (pc := 83) dX12_inner_83 ec_12 (k := 61) (Nat.le_of_ble_eq_true rfl) rfl (Or.inl ew_1463) (cShM_326 hs).1 (cShM_326 hs).2.1 ?_
    refine ea_putI (pc := 86) dX12_inner_86 ec_12 (k := 48) (Nat.le_of_ble_eq_true rfl) rfl (Or.inl ⟨rfl, Or.inl ew_1450⟩) rfl rfl (cShM_326 hs).1 (cShM_326 hs).2.1 ?_
    refine ea_nm eH15 ?_
    have hsH15 : ShM H15 := by rw [eH15]; exact hs
    exact (kJ89 (x1 : Int32) H15 _ _ E hsH15)
theorem kBX12_inner_76 {J89 : Int32 → ea_H → Option (Int32 × ea_H)}  (cJ89 : ∀ (x1 : Int32) (h : ea_H), kp (ea_core h) (J89 x1 h)) {x1 : Int32} {h : ea_H} : kp (ea_core h) (BX12_inner_76 J89 x1 h) :=
  (kp_ite (kp_let (kp_tw (cJ89 _ _) rfl)) (kp_tw (cJ89 _ _) rfl))
theorem lBX12_inner_76 {J89 : Int32 → ea_H → Option (Int32 × ea_H)} {J89_ : Int32 → ea_H → Option (Int32 × ea_H)}  (mJ89 : ∀ (x1 : Int32) (h : ea_H), fle (J89 x1 h) (J89_ x1 h)) {x1 : Int32} {h : ea_H} : fle (BX12_inner_76 J89 x1 h) (BX12_inner_76 J89_ x1 h) :=
  (fle_ite (fle_let fun _ => (mJ89 _ _)) (mJ89 _ _))
theorem nBX12_inner_76 {J89 : Int32 → ea_H → Option (Int32 × ea_H)} {J89_ : Nat → (Int32 → ea_H → Option (Int32 × ea_H))}  (mJ89 : ∀ (x1 : Int32) (h : ea_H), fct (J89 x1 h) (fun f => J89_ f x1 h)) {x1 : Int32} {h : ea_H} : fct (BX12_inner_76 J89 x1 h) (fun f => BX12_inner_76 (J89_ f) x1 h) :=
  (fct_ite (fct_let fun _ => (mJ89 _ _)) (mJ89 _ _))
noncomputable def BX12_inner_89 (J103 : Int32 → ea_H → Option (Int32 × ea_H)) (x1 : Int32) (h : ea_H) : Option (Int32 × ea_H) :=
  (if x1 = (6 : Int32) then (ea_let (ea_wi h 326 49 (ea_i h 326 61)) fun H17 => (J103 (x1 : Int32) H17)) else (J103 (x1 : Int32) h))
theorem tBX12_inner_89 {d : Nat} {h0 : ea_H} (hd : 95 ≤ d) {J103 : Int32 → ea_H → Option (Int32 × ea_H)}  (kJ103 : ∀ (x1 : Int32) (h : ea_H) (r : Int32) (h' : ea_H), J103 x1 h = some (r, h') → ShM h → ea_W mX12_inner d h0 (some (vI r)) h' 103 [(0, vR (some 326)), (1, vI x1)] [] h) {x1 : Int32} {h : ea_H} {r : Int32} {h' : ea_H} (E : BX12_inner_89 J103 x1 h = some (r, h')) (hs : ShM h) : ea_W mX12_inner d h0 (some (vI r)) h' 89 [(0, vR (some 326)), (1, vI x1)] [] h := by
  unfold BX12_inner_89 at E
  refine ea_iload_n (pc := 89) dX12_inner_89 rfl 1 rfl ?_
  refine ea_bipush (pc := 90) dX12_inner_90 (v := 6) rfl ?_
  refine ea_icmp_ne (pc := 92) (tgt := 103) dX12_inner_92 rfl (fun c18 => ?_) (fun c18 => ?_)
  · have E := (if_neg c18).symm.trans E
    exact (kJ103 (x1 : Int32) h _ _ E hs)
  · have E := (if_pos c18).symm.trans E
    obtain ⟨H17, eH17, E⟩ := let_some E
    refine ea_aload_n (pc := 95) dX12_inner_95 rfl 0 rfl ?_
    refine ea_aload_n (pc := 96) dX12_inner_96 rfl 0 rfl ?_
    refine ea_getI (pc := 97) dX12_inner_97 ec_12 (k := 61) (Nat.le_of_ble_eq_true rfl) rfl (Or.inl ew_1463) (cShM_326 hs).1 (cShM_326 hs).2.1 ?_
    refine ea_putI (pc := 100) dX12_inner_100 ec_12 (k := 49) (Nat.le_of_ble_eq_true rfl) rfl (Or.inl ⟨rfl, Or.inl ew_1451⟩) rfl rfl (cShM_326 hs).1 (cShM_326 hs).2.1 ?_
    refine ea_nm eH17 ?_
    have hsH17 : ShM H17 := by rw [eH17]; exact hs
    exact (kJ103 (x1 : Int32) H17 _ _ E hsH17)
theorem kBX12_inner_89 {J103 : Int32 → ea_H → Option (Int32 × ea_H)}  (cJ103 : ∀ (x1 : Int32) (h : ea_H), kp (ea_core h) (J103 x1 h)) {x1 : Int32} {h : ea_H} : kp (ea_core h) (BX12_inner_89 J103 x1 h) :=
  (kp_ite (kp_let (kp_tw (cJ103 _ _) rfl)) (kp_tw (cJ103 _ _) rfl))
theorem lBX12_inner_89 {J103 : Int32 → ea_H → Option (Int32 × ea_H)} {J103_ : Int32 → ea_H → Option (Int32 × ea_H)}  (mJ103 : ∀ (x1 : Int32) (h : ea_H), fle (J103 x1 h) (J103_ x1 h)) {x1 : Int32} {h : ea_H} : fle (BX12_inner_89 J103 x1 h) (BX12_inner_89 J103_ x1 h) :=
  (fle_ite (fle_let fun _ => (mJ103 _ _)) (mJ103 _ _))
theorem nBX12_inner_89 {J103 : Int32 → ea_H → Option (Int32 × ea_H)} {J103_ : Nat → (Int32 → ea_H → Option (Int32 × ea_H))}  (mJ103 : ∀ (x1 : Int32) (h : ea_H), fct (J103 x1 h) (fun f => J103_ f x1 h)) {x1 : Int32} {h : ea_H} : fct (BX12_inner_89 J103 x1 h) (fun f => BX12_inner_89 (J103_ f) x1 h) :=
  (fct_ite (fct_let fun _ => (mJ103 _ _)) (mJ103 _ _))
noncomputable def BX12_inner_103 (J117 : Int32 → ea_H → Option (Int32 × ea_H)) (x1 : Int32) (h : ea_H) : Option (Int32 × ea_H) :=
  (if x1 = (7 : Int32) then (ea_let (ea_wi h 326 50 (ea_i h 326 61)) fun H19 => (J117 (x1 : Int32) H19)) else (J117 (x1 : Int32) h))
theorem tBX12_inner_103 {d : Nat} {h0 : ea_H} (hd : 95 ≤ d) {J117 : Int32 → ea_H → Option (Int32 × ea_H)}  (kJ117 : ∀ (x1 : Int32) (h : ea_H) (r : Int32) (h' : ea_H), J117 x1 h = some (r, h') → ShM h → ea_W mX12_inner d h0 (some (vI r)) h' 117 [(0, vR (some 326)), (1, vI x1)] [] h) {x1 : Int32} {h : ea_H} {r : Int32} {h' : ea_H} (E : BX12_inner_103 J117 x1 h = some (r, h')) (hs : ShM h) : ea_W mX12_inner d h0 (some (vI r)) h' 103 [(0, vR (some 326)), (1, vI x1)] [] h := by
  unfold BX12_inner_103 at E
  refine ea_iload_n (pc := 103) dX12_inner_103 rfl 1 rfl ?_
  refine ea_bipush (pc := 104) dX12_inner_104 (v := 7) rfl ?_
  refine ea_icmp_ne (pc := 106) (tgt := 117) dX12_inner_106 rfl (fun c20 => ?_) (fun c20 => ?_)
  · have E := (if_neg c20).symm.trans E
    exact (kJ117 (x1 : Int32) h _ _ E hs)
  · have E := (if_pos c20).symm.trans E
    obtain ⟨H19, eH19, E⟩ := let_some E
    refine ea_aload_n (pc := 109) dX12_inner_109 rfl 0 rfl ?_
    refine ea_aload_n (pc := 110) dX12_inner_110 rfl 0 rfl ?_
    refine ea_getI (pc := 111) dX12_inner_111 ec_12 (k := 61) (Nat.le_of_ble_eq_true rfl) rfl (Or.inl ew_1463) (cShM_326 hs).1 (cShM_326 hs).2.1 ?_
    refine ea_putI (pc := 114) dX12_inner_114 ec_12 (k := 50) (Nat.le_of_ble_eq_true rfl) rfl (Or.inl ⟨rfl, Or.inl ew_1452⟩) rfl rfl (cShM_326 hs).1 (cShM_326 hs).2.1 ?_
    refine ea_nm eH19 ?_
    have hsH19 : ShM H19 := by rw [eH19]; exact hs
    exact (kJ117 (x1 : Int32) H19 _ _ E hsH19)
theorem kBX12_inner_103 {J117 : Int32 → ea_H → Option (Int32 × ea_H)}  (cJ117 : ∀ (x1 : Int32) (h : ea_H), kp (ea_core h) (J117 x1 h)) {x1 : Int32} {h : ea_H} : kp (ea_core h) (BX12_inner_103 J117 x1 h) :=
  (kp_ite (kp_let (kp_tw (cJ117 _ _) rfl)) (kp_tw (cJ117 _ _) rfl))
theorem lBX12_inner_103 {J117 : Int32 → ea_H → Option (Int32 × ea_H)} {J117_ : Int32 → ea_H → Option (Int32 × ea_H)}  (mJ117 : ∀ (x1 : Int32) (h : ea_H), fle (J117 x1 h) (J117_ x1 h)) {x1 : Int32} {h : ea_H} : fle (BX12_inner_103 J117 x1 h) (BX12_inner_103 J117_ x1 h) :=
  (fle_ite (fle_let fun _ => (mJ117 _ _)) (mJ117 _ _))
theorem nBX12_inner_103 {J117 : Int32 → ea_H → Option (Int32 × ea_H)} {J117_ : Nat → (Int32 → ea_H → Option (Int32 × ea_H))}  (mJ117 : ∀ (x1 : Int32) (h : ea_H), fct (J117 x1 h) (fun f => J117_ f x1 h)) {x1 : Int32} {h : ea_H} : fct (BX12_inner_103 J117 x1 h) (fun f => BX12_inner_103 (J117_ f) x1 h) :=
  (fct_ite (fct_let fun _ => (mJ117 _ _)) (mJ117 _ _))
noncomputable def BX12_inner_117 (x1 : Int32) (h : ea_H) : Option (Int32 × ea_H) :=
  (if x1 = (8 : Int32) then (ea_let (ea_wi h 326 51 (ea_i h 326 61)) fun H21 => (some ((1 : Int32), H21))) else (some ((1 : Int32), h)))
theorem tBX12_inner_117 {d : Nat} {h0 : ea_H} (hd : 95 ≤ d)  {x1 : Int32} {h : ea_H} {r : Int32} {h' : ea_H} (E : BX12_inner_117 x1 h = some (r, h')) (hs : ShM h) : ea_W mX12_inner d h0 (some (vI r)) h' 117 [(0, vR (some 326)), (1, vI x1)] [] h := by
  unfold BX12_inner_117 at E
  refine ea_iload_n (pc := 117) dX12_inner_117 rfl 1 rfl ?_
  refine ea_bipush (pc := 118) dX12_inner_118 (v := 8) rfl ?_
  refine ea_icmp_ne (pc := 120) (tgt := 131) dX12_inner_120 rfl (fun c22 => ?_) (fun c22 => ?_)
  · have E := (if_neg c22).symm.trans E
    refine ea_iconst (pc := 131) dX12_inner_131 (v := 1) rfl ?_
    exact ea_iretO (pc := 132) dX12_inner_132 rfl (ea_bn (Or.inr rfl)) E
  · have E := (if_pos c22).symm.trans E
    obtain ⟨H21, eH21, E⟩ := let_some E
    refine ea_aload_n (pc := 123) dX12_inner_123 rfl 0 rfl ?_
    refine ea_aload_n (pc := 124) dX12_inner_124 rfl 0 rfl ?_
    refine ea_getI (pc := 125) dX12_inner_125 ec_12 (k := 61) (Nat.le_of_ble_eq_true rfl) rfl (Or.inl ew_1463) (cShM_326 hs).1 (cShM_326 hs).2.1 ?_
    refine ea_putI (pc := 128) dX12_inner_128 ec_12 (k := 51) (Nat.le_of_ble_eq_true rfl) rfl (Or.inl ⟨rfl, Or.inl ew_1453⟩) rfl rfl (cShM_326 hs).1 (cShM_326 hs).2.1 ?_
    refine ea_nm eH21 ?_
    have hsH21 : ShM H21 := by rw [eH21]; exact hs
    refine ea_iconst (pc := 131) dX12_inner_131 (v := 1) rfl ?_
    exact ea_iretO (pc := 132) dX12_inner_132 rfl (ea_bn (Or.inr rfl)) E
theorem kBX12_inner_117  {x1 : Int32} {h : ea_H} : kp (ea_core h) (BX12_inner_117 x1 h) :=
  (kp_ite (kp_let (kp_ret rfl)) (kp_ret rfl))
theorem lBX12_inner_117  {x1 : Int32} {h : ea_H} : fle (BX12_inner_117 x1 h) (BX12_inner_117 x1 h) :=
  (fle_rfl _)
theorem nBX12_inner_117  {x1 : Int32} {h : ea_H} : fct (BX12_inner_117 x1 h) (fun f => BX12_inner_117 x1 h) :=
  (fct_rfl _)
noncomputable def gX12_inner : Nat → (Int32 → ea_H → Option (Int32 × ea_H)) × (Int32 → Int32 → ea_H → Option (Int32 × ea_H)) × (Int32 → ea_H → Option (Int32 × ea_H)) × (Int32 → ea_H → Option (Int32 × ea_H)) × (Int32 → ea_H → Option (Int32 × ea_H)) × (Int32 → ea_H → Option (Int32 × ea_H))
  | 0 => (fun _ _ => none, fun _ _ _ => none, fun _ _ => none, fun _ _ => none, fun _ _ => none, fun _ _ => none)
  | f + 1 => (BX12_inner_0 (gX12_inner f).2.1, BX12_inner_24 (gX12_inner f).2.2.1, BX12_inner_76 (gX12_inner f).2.2.2.1, BX12_inner_89 (gX12_inner f).2.2.2.2.1, BX12_inner_103 (gX12_inner f).2.2.2.2.2, BX12_inner_117)
theorem mgX12_inner : ∀ f : Nat, (∀ (x1 : Int32) (h : ea_H), fle ((gX12_inner f).1 x1 h) ((gX12_inner (f + 1)).1 x1 h)) ∧ (∀ (x1 : Int32) (sx0 : Int32) (h : ea_H), fle ((gX12_inner f).2.1 x1 sx0 h) ((gX12_inner (f + 1)).2.1 x1 sx0 h)) ∧ (∀ (x1 : Int32) (h : ea_H), fle ((gX12_inner f).2.2.1 x1 h) ((gX12_inner (f + 1)).2.2.1 x1 h)) ∧ (∀ (x1 : Int32) (h : ea_H), fle ((gX12_inner f).2.2.2.1 x1 h) ((gX12_inner (f + 1)).2.2.2.1 x1 h)) ∧ (∀ (x1 : Int32) (h : ea_H), fle ((gX12_inner f).2.2.2.2.1 x1 h) ((gX12_inner (f + 1)).2.2.2.2.1 x1 h)) ∧ (∀ (x1 : Int32) (h : ea_H), fle ((gX12_inner f).2.2.2.2.2 x1 h) ((gX12_inner (f + 1)).2.2.2.2.2 x1 h)) := by
  intro f
  induction f with
  | zero => exact ⟨fun _ _ => fle_none _, fun _ _ _ => fle_none _, fun _ _ => fle_none _, fun _ _ => fle_none _, fun _ _ => fle_none _, fun _ _ => fle_none _⟩
  | succ f ih => exact ⟨fun _ _ => lBX12_inner_0 ih.2.1, fun _ _ _ => lBX12_inner_24 ih.2.2.1, fun _ _ => lBX12_inner_76 ih.2.2.2.1, fun _ _ => lBX12_inner_89 ih.2.2.2.2.1, fun _ _ => lBX12_inner_103 ih.2.2.2.2.2, fun _ _ => lBX12_inner_117⟩
noncomputable def qX12_inner_0 (x1 : Int32) (h : ea_H) : Option (Int32 × ea_H) := flim fun f => (gX12_inner f).1 x1 h
noncomputable def qX12_inner_24 (x1 : Int32) (sx0 : Int32) (h : ea_H) : Option (Int32 × ea_H) := flim fun f => (gX12_inner f).2.1 x1 sx0 h
noncomputable def qX12_inner_76 (x1 : Int32) (h : ea_H) : Option (Int32 × ea_H) := flim fun f => (gX12_inner f).2.2.1 x1 h
noncomputable def qX12_inner_89 (x1 : Int32) (h : ea_H) : Option (Int32 × ea_H) := flim fun f => (gX12_inner f).2.2.2.1 x1 h
noncomputable def qX12_inner_103 (x1 : Int32) (h : ea_H) : Option (Int32 × ea_H) := flim fun f => (gX12_inner f).2.2.2.2.1 x1 h
noncomputable def qX12_inner_117 (x1 : Int32) (h : ea_H) : Option (Int32 × ea_H) := flim fun f => (gX12_inner f).2.2.2.2.2 x1 h
theorem fqX12_inner_0 (x1 : Int32) (h : ea_H) : fct (qX12_inner_0 x1 h) fun f => (gX12_inner f).1 x1 h := flim_ct fun f => (mgX12_inner f).1 x1 h
theorem fqX12_inner_24 (x1 : Int32) (sx0 : Int32) (h : ea_H) : fct (qX12_inner_24 x1 sx0 h) fun f => (gX12_inner f).2.1 x1 sx0 h := flim_ct fun f => (mgX12_inner f).2.1 x1 sx0 h
theorem fqX12_inner_76 (x1 : Int32) (h : ea_H) : fct (qX12_inner_76 x1 h) fun f => (gX12_inner f).2.2.1 x1 h := flim_ct fun f => (mgX12_inner f).2.2.1 x1 h
theorem fqX12_inner_89 (x1 : Int32) (h : ea_H) : fct (qX12_inner_89 x1 h) fun f => (gX12_inner f).2.2.2.1 x1 h := flim_ct fun f => (mgX12_inner f).2.2.2.1 x1 h
theorem fqX12_inner_103 (x1 : Int32) (h : ea_H) : fct (qX12_inner_103 x1 h) fun f => (gX12_inner f).2.2.2.2.1 x1 h := flim_ct fun f => (mgX12_inner f).2.2.2.2.1 x1 h
theorem fqX12_inner_117 (x1 : Int32) (h : ea_H) : fct (qX12_inner_117 x1 h) fun f => (gX12_inner f).2.2.2.2.2 x1 h := flim_ct fun f => (mgX12_inner f).2.2.2.2.2 x1 h
/-- how a block opens -/
theorem uqX12_inner_0 {x1 : Int32} {h : ea_H} {P : Int32 × ea_H → Prop} (H : sat (BX12_inner_0 qX12_inner_24 x1 h) P) : sat (qX12_inner_0 x1 h) P := by
  obtain ⟨x, e, hp⟩ := H
  obtain ⟨n, hn⟩ := nBX12_inner_0 fqX12_inner_24 x e
  exact ⟨x, flim_at (fun f => (mgX12_inner f).1 x1 h) (f := n + 1) (hn n (Nat.le_refl _)), hp⟩
/-- how a block opens -/
theorem uqX12_inner_24 {x1 : Int32} {sx0 : Int32} {h : ea_H} {P : Int32 × ea_H → Prop} (H : sat (BX12_inner_24 qX12_inner_76 x1 sx0 h) P) : sat (qX12_inner_24 x1 sx0 h) P := by
  obtain ⟨x, e, hp⟩ := H
  obtain ⟨n, hn⟩ := nBX12_inner_24 fqX12_inner_76 x e
  exact ⟨x, flim_at (fun f => (mgX12_inner f).2.1 x1 sx0 h) (f := n + 1) (hn n (Nat.le_refl _)), hp⟩
/-- how a block opens -/
theorem uqX12_inner_76 {x1 : Int32} {h : ea_H} {P : Int32 × ea_H → Prop} (H : sat (BX12_inner_76 qX12_inner_89 x1 h) P) : sat (qX12_inner_76 x1 h) P := by
  obtain ⟨x, e, hp⟩ := H
  obtain ⟨n, hn⟩ := nBX12_inner_76 fqX12_inner_89 x e
  exact ⟨x, flim_at (fun f => (mgX12_inner f).2.2.1 x1 h) (f := n + 1) (hn n (Nat.le_refl _)), hp⟩
/-- how a block opens -/
theorem uqX12_inner_89 {x1 : Int32} {h : ea_H} {P : Int32 × ea_H → Prop} (H : sat (BX12_inner_89 qX12_inner_103 x1 h) P) : sat (qX12_inner_89 x1 h) P := by
  obtain ⟨x, e, hp⟩ := H
  obtain ⟨n, hn⟩ := nBX12_inner_89 fqX12_inner_103 x e
  exact ⟨x, flim_at (fun f => (mgX12_inner f).2.2.2.1 x1 h) (f := n + 1) (hn n (Nat.le_refl _)), hp⟩
/-- how a block opens -/
theorem uqX12_inner_103 {x1 : Int32} {h : ea_H} {P : Int32 × ea_H → Prop} (H : sat (BX12_inner_103 qX12_inner_117 x1 h) P) : sat (qX12_inner_103 x1 h) P := by
  obtain ⟨x, e, hp⟩ := H
  obtain ⟨n, hn⟩ := nBX12_inner_103 fqX12_inner_117 x e
  exact ⟨x, flim_at (fun f => (mgX12_inner f).2.2.2.2.1 x1 h) (f := n + 1) (hn n (Nat.le_refl _)), hp⟩
/-- how a block opens -/
theorem uqX12_inner_117 {x1 : Int32} {h : ea_H} {P : Int32 × ea_H → Prop} (H : sat (BX12_inner_117 x1 h) P) : sat (qX12_inner_117 x1 h) P := by
  obtain ⟨x, e, hp⟩ := H
  obtain ⟨n, hn⟩ := nBX12_inner_117 x e
  exact ⟨x, flim_at (fun f => (mgX12_inner f).2.2.2.2.2 x1 h) (f := n + 1) (hn n (Nat.le_refl _)), hp⟩
theorem kgX12_inner : ∀ f : Nat, (∀ (x1 : Int32) (h : ea_H), kp (ea_core h) ((gX12_inner f).1 x1 h)) ∧ (∀ (x1 : Int32) (sx0 : Int32) (h : ea_H), kp (ea_core h) ((gX12_inner f).2.1 x1 sx0 h)) ∧ (∀ (x1 : Int32) (h : ea_H), kp (ea_core h) ((gX12_inner f).2.2.1 x1 h)) ∧ (∀ (x1 : Int32) (h : ea_H), kp (ea_core h) ((gX12_inner f).2.2.2.1 x1 h)) ∧ (∀ (x1 : Int32) (h : ea_H), kp (ea_core h) ((gX12_inner f).2.2.2.2.1 x1 h)) ∧ (∀ (x1 : Int32) (h : ea_H), kp (ea_core h) ((gX12_inner f).2.2.2.2.2 x1 h)) := by
  intro f
  induction f with
  | zero => exact ⟨fun _ _ => kp_none _, fun _ _ _ => kp_none _, fun _ _ => kp_none _, fun _ _ => kp_none _, fun _ _ => kp_none _, fun _ _ => kp_none _⟩
  | succ f ih => exact ⟨fun _ _ => kBX12_inner_0 ih.2.1, fun _ _ _ => kBX12_inner_24 ih.2.2.1, fun _ _ => kBX12_inner_76 ih.2.2.2.1, fun _ _ => kBX12_inner_89 ih.2.2.2.2.1, fun _ _ => kBX12_inner_103 ih.2.2.2.2.2, fun _ _ => kBX12_inner_117⟩
theorem tgX12_inner {d : Nat} {h0 : ea_H} (hd : 95 ≤ d) : ∀ f : Nat, (∀ (x1 : Int32) (h : ea_H) (r : Int32) (h' : ea_H), (gX12_inner f).1 x1 h = some (r, h') → ShM h → ea_W mX12_inner d h0 (some (vI r)) h' 0 [(0, vR (some 326)), (1, vI x1)] [] h) ∧ (∀ (x1 : Int32) (sx0 : Int32) (h : ea_H) (r : Int32) (h' : ea_H), (gX12_inner f).2.1 x1 sx0 h = some (r, h') → ShM h → ea_W mX12_inner d h0 (some (vI r)) h' 24 [(0, vR (some 326)), (1, vI x1)] [vI sx0, vR (some 326)] h) ∧ (∀ (x1 : Int32) (h : ea_H) (r : Int32) (h' : ea_H), (gX12_inner f).2.2.1 x1 h = some (r, h') → ShM h → ea_W mX12_inner d h0 (some (vI r)) h' 76 [(0, vR (some 326)), (1, vI x1)] [] h) ∧ (∀ (x1 : Int32) (h : ea_H) (r : Int32) (h' : ea_H), (gX12_inner f).2.2.2.1 x1 h = some (r, h') → ShM h → ea_W mX12_inner d h0 (some (vI r)) h' 89 [(0, vR (some 326)), (1, vI x1)] [] h) ∧ (∀ (x1 : Int32) (h : ea_H) (r : Int32) (h' : ea_H), (gX12_inner f).2.2.2.2.1 x1 h = some (r, h') → ShM h → ea_W mX12_inner d h0 (some (vI r)) h' 103 [(0, vR (some 326)), (1, vI x1)] [] h) ∧ (∀ (x1 : Int32) (h : ea_H) (r : Int32) (h' : ea_H), (gX12_inner f).2.2.2.2.2 x1 h = some (r, h') → ShM h → ea_W mX12_inner d h0 (some (vI r)) h' 117 [(0, vR (some 326)), (1, vI x1)] [] h) := by
  intro f
  induction f with
  | zero => exact ⟨fun _ _ _ _ E => no_some E, fun _ _ _ _ _ E => no_some E, fun _ _ _ _ E => no_some E, fun _ _ _ _ E => no_some E, fun _ _ _ _ E => no_some E, fun _ _ _ _ E => no_some E⟩
  | succ f ih => exact ⟨fun _ _ _ _ E hs => tBX12_inner_0 hd ih.2.1 E hs, fun _ _ _ _ _ E hs => tBX12_inner_24 hd ih.2.2.1 E hs, fun _ _ _ _ E hs => tBX12_inner_76 hd ih.2.2.2.1 E hs, fun _ _ _ _ E hs => tBX12_inner_89 hd ih.2.2.2.2.1 E hs, fun _ _ _ _ E hs => tBX12_inner_103 hd ih.2.2.2.2.2 E hs, fun _ _ _ _ E hs => tBX12_inner_117 hd E hs⟩
noncomputable def qX12_inner (x1 : Int32) (h : ea_H) : Option (Int32 × ea_H) := qX12_inner_0 x1 h
theorem sX12_inner {d : Nat} {x1 : Int32} {h : ea_H} {r : Int32} {h' : ea_H} (hd : 95 ≤ d) (hs : ShM h) (K : qX12_inner x1 h = some (r, h')) : ea_Met mX12_inner d [vR (some 326), vI x1] h (some (vI r)) h' := by
  unfold qX12_inner at K
  obtain ⟨n, hn⟩ := fqX12_inner_0 x1 h _ K
  have W := (tgX12_inner (d := d) (h0 := h) hd n).1 x1 h _ _ (hn n (Nat.le_refl _)) hs
  exact ea_enter rfl (Nat.le_of_ble_eq_true rfl) W
theorem kpX12_inner (x1 : Int32) (h : ea_H) : kp (ea_core h) (qX12_inner x1 h) := fun x e => by
  obtain ⟨n, hn⟩ := fqX12_inner_0 x1 h x e
  exact (kgX12_inner n).1 x1 h x (hn n (Nat.le_refl _))
noncomputable def BX12_aLine_0 (h : ea_H) : Option (Int32 × ea_H) :=
  (Option.bind (qX12_isIn ((ea_i h 326 54) : Int32) (3 : Int32) (8 : Int32) h) fun w1 => (if w1.1 = (0 : Int32) then (Option.bind (qX12_bad (1 : Int32) w1.2) fun w13 => (gd ((w13.1 = 0 ∨ w13.1 = 1)) (some (w13.1, w13.2)))) else (if (ea_i w1.2 326 43) = (24 : Int32) then (Option.bind (qX12_bad (3 : Int32) w1.2) fun w10 => (gd ((w10.1 = 0 ∨ w10.1 = 1)) (some (w10.1, w10.2)))) else (ea_let (ea_i w1.2 326 54) fun (v2 : Int32) => (ea_let (ea_wi w1.2 326 60 0) fun H3 => (Option.bind (qX12_next0  H3) fun w4 => (Option.bind (qX12_inner (v2 : Int32) w4.2) fun w5 => (if w5.1 = (0 : Int32) then (some ((0 : Int32), w5.2)) else (ea_let (ea_wi w5.2 326 43 ((ea_i w5.2 326 43) + (1 : Int32))) fun H6 => (Option.bind (qX12_need (59 : Int32) H6) fun w7 => (gd ((w7.1 = 0 ∨ w7.1 = 1)) (some (w7.1, w7.2)))))))))))))
theorem tBX12_aLine_0 {d : Nat} {h0 : ea_H} (hd : 96 ≤ d)  {h : ea_H} {r : Int32} {h' : ea_H} (E : BX12_aLine_0 h = some (r, h')) (hs : ShM h) : ea_W mX12_aLine d h0 (some (vI r)) h' 0 [(0, vR (some 326))] [] h := by
  unfold BX12_aLine_0 at E
  obtain ⟨w1, Ew1, E⟩ := bd_some E
  have hsw1 : ShM w1.2 := ShM_core ((kpX12_isIn _ _ _ _) _ Ew1) hs
  refine ea_aload_n (pc := 0) dX12_aLine_0 rfl 0 rfl ?_
  refine ea_getI (pc := 1) dX12_aLine_1 ec_12 (k := 54) (Nat.le_of_ble_eq_true rfl) rfl (Or.inl ew_1456) (cShM_326 hs).1 (cShM_326 hs).2.1 ?_
  refine ea_iconst (pc := 4) dX12_aLine_4 (v := 3) rfl ?_
  refine ea_bipush (pc := 5) dX12_aLine_5 (v := 8) rfl ?_
  refine ea_callS (pc := 7) (d' := d - 1) (As := [vI (ea_i h 326 54), vI 3, vI 8]) (st := []) dX12_aLine_7 kX12_isIn (sX12_isIn (d := d - 1) (by omega) Ew1) (by omega) rfl (Nat.le_of_ble_eq_true rfl) ew_1769 ew_1770 ?_
  refine ea_if_ne (pc := 10) (tgt := 19) dX12_aLine_10 rfl (fun c15 => ?_) (fun c15 => ?_)
  · have E := (if_neg c15).symm.trans E
    refine ea_aload_n (pc := 19) dX12_aLine_19 rfl 0 rfl ?_
    refine ea_getI (pc := 20) dX12_aLine_20 ec_12 (k := 43) (Nat.le_of_ble_eq_true rfl) rfl (Or.inl ew_1445) (cShM_326 hsw1).1 (cShM_326 hsw1).2.1 ?_
    refine ea_bipush (pc := 23) dX12_aLine_23 (v := 24) rfl ?_
    refine ea_icmp_ne (pc := 25) (tgt := 34) dX12_aLine_25 rfl (fun c12 => ?_) (fun c12 => ?_)
    · have E := (if_neg c12).symm.trans E
      obtain ⟨v2, ev2, E⟩ := let_some E
      refine ea_aload_n (pc := 34) dX12_aLine_34 rfl 0 rfl ?_
      refine ea_getI (pc := 35) dX12_aLine_35 ec_12 (k := 54) (Nat.le_of_ble_eq_true rfl) rfl (Or.inl ew_1456) (cShM_326 hsw1).1 (cShM_326 hsw1).2.1 ?_
      obtain ⟨H3, eH3, E⟩ := let_some E
      refine ea_istore_n (pc := 38) (lv' := [(0, vR (some 326)), (1, vI v2)]) dX12_aLine_38 rfl (Nat.le_of_ble_eq_true rfl) [1, 0] (by rw [ev2]; rfl) ?_
      refine ea_aload_n (pc := 39) dX12_aLine_39 rfl 0 rfl ?_
      refine ea_iconst (pc := 40) dX12_aLine_40 (v := 0) rfl ?_
      refine ea_putI (pc := 41) dX12_aLine_41 ec_12 (k := 60) (Nat.le_of_ble_eq_true rfl) rfl (Or.inl ⟨rfl, Or.inl ew_1462⟩) rfl rfl (cShM_326 hsw1).1 (cShM_326 hsw1).2.1 ?_
      refine ea_nm eH3 ?_
      have hsH3 : ShM H3 := by rw [eH3]; exact hsw1
      obtain ⟨w4, Ew4, E⟩ := bd_some E
      have hsw4 : ShM w4.2 := ShM_core ((kpX12_next0 _) _ Ew4) hsH3
      refine ea_aload_n (pc := 44) dX12_aLine_44 rfl 0 rfl ?_
      refine ea_callV (pc := 45) (d' := d - 1) (As := []) (st := []) dX12_aLine_45 kX12_next0 (sX12_next0 (d := d - 1) (by omega) hsH3 Ew4) (by omega) rfl (Nat.le_of_ble_eq_true rfl) ew_1879 ew_1881 ew_70 (ci := 12) rfl (by decide) (cShM_326 hsH3).1 (cShM_326 hsH3).2.1 ?_
      obtain ⟨w5, Ew5, E⟩ := bd_some E
      have hsw5 : ShM w5.2 := ShM_core ((kpX12_inner _ _) _ Ew5) hsw4
      refine ea_aload_n (pc := 48) dX12_aLine_48 rfl 0 rfl ?_
      refine ea_iload_n (pc := 49) dX12_aLine_49 rfl 1 rfl ?_
      refine ea_callV (pc := 50) (d' := d - 1) (As := [vI v2]) (st := []) dX12_aLine_50 kX12_inner (sX12_inner (d := d - 1) (by omega) hsw4 Ew5) (by omega) rfl (Nat.le_of_ble_eq_true rfl) ew_1975 ew_1977 ew_76 (ci := 12) rfl (by decide) (cShM_326 hsw4).1 (cShM_326 hsw4).2.1 ?_
      refine ea_if_ne (pc := 53) (tgt := 58) dX12_aLine_53 rfl (fun c9 => ?_) (fun c9 => ?_)
      · have E := (if_neg c9).symm.trans E
        obtain ⟨H6, eH6, E⟩ := let_some E
        refine ea_aload_n (pc := 58) dX12_aLine_58 rfl 0 rfl ?_
        refine ea_dup (pc := 59) dX12_aLine_59 rfl ?_
        refine ea_getI (pc := 60) dX12_aLine_60 ec_12 (k := 43) (Nat.le_of_ble_eq_true rfl) rfl (Or.inl ew_1445) (cShM_326 hsw5).1 (cShM_326 hsw5).2.1 ?_
        refine ea_iconst (pc := 63) dX12_aLine_63 (v := 1) rfl ?_
        refine ea_iadd (pc := 64) dX12_aLine_64 ?_
        refine ea_putI (pc := 65) dX12_aLine_65 ec_12 (k := 43) (Nat.le_of_ble_eq_true rfl) rfl (Or.inl ⟨rfl, Or.inl ew_1445⟩) rfl rfl (cShM_326 hsw5).1 (cShM_326 hsw5).2.1 ?_
        refine ea_nm eH6 ?_
        have hsH6 : ShM H6 := by rw [eH6]; exact hsw5
        obtain ⟨w7, Ew7, E⟩ := bd_some E
        have hsw7 : ShM w7.2 := ShM_core ((kpX12_need _ _) _ Ew7) hsH6
        refine ea_aload_n (pc := 68) dX12_aLine_68 rfl 0 rfl ?_
        refine ea_bipush (pc := 69) dX12_aLine_69 (v := 59) rfl ?_
        refine ea_callV (pc := 71) (d' := d - 1) (As := [vI 59]) (st := []) dX12_aLine_71 kX12_need (sX12_need (d := d - 1) (by omega) hsH6 Ew7) (by omega) rfl (Nat.le_of_ble_eq_true rfl) ew_1999 ew_2001 ew_82 (ci := 12) rfl (by decide) (cShM_326 hsH6).1 (cShM_326 hsH6).2.1 ?_
        obtain ⟨z8, E⟩ := gd_some E
        exact ea_iretO (pc := 74) dX12_aLine_74 rfl (ea_bn z8) E
      · have E := (if_pos c9).symm.trans E
        refine ea_iconst (pc := 56) dX12_aLine_56 (v := 0) rfl ?_
        exact ea_iretO (pc := 57) dX12_aLine_57 rfl (ea_bn (Or.inl rfl)) E
    · have E := (if_pos c12).symm.trans E
      obtain ⟨w10, Ew10, E⟩ := bd_some E
      have hsw10 : ShM w10.2 := ShM_core ((kpX12_bad _ _) _ Ew10) hsw1
      refine ea_aload_n (pc := 28) dX12_aLine_28 rfl 0 rfl ?_
      refine ea_iconst (pc := 29) dX12_aLine_29 (v := 3) rfl ?_
      refine ea_callV (pc := 30) (d' := d - 1) (As := [vI 3]) (st := []) dX12_aLine_30 kX12_bad (sX12_bad (d := d - 1) (by omega) hsw1 Ew10) (by omega) rfl (Nat.le_of_ble_eq_true rfl) ew_1971 ew_1973 ew_75 (ci := 12) rfl (by decide) (cShM_326 hsw1).1 (cShM_326 hsw1).2.1 ?_
      obtain ⟨z11, E⟩ := gd_some E
      exact ea_iretO (pc := 33) dX12_aLine_33 rfl (ea_bn z11) E
  · have E := (if_pos c15).symm.trans E
    obtain ⟨w13, Ew13, E⟩ := bd_some E
    have hsw13 : ShM w13.2 := ShM_core ((kpX12_bad _ _) _ Ew13) hsw1
    refine ea_aload_n (pc := 13) dX12_aLine_13 rfl 0 rfl ?_
    refine ea_iconst (pc := 14) dX12_aLine_14 (v := 1) rfl ?_
    refine ea_callV (pc := 15) (d' := d - 1) (As := [vI 1]) (st := []) dX12_aLine_15 kX12_bad (sX12_bad (d := d - 1) (by omega) hsw1 Ew13) (by omega) rfl (Nat.le_of_ble_eq_true rfl) ew_1971 ew_1973 ew_75 (ci := 12) rfl (by decide) (cShM_326 hsw1).1 (cShM_326 hsw1).2.1 ?_
    obtain ⟨z14, E⟩ := gd_some E
    exact ea_iretO (pc := 18) dX12_aLine_18 rfl (ea_bn z14) E
theorem kBX12_aLine_0  {h : ea_H} : kp (ea_core h) (BX12_aLine_0 h) :=
  (kp_bind (kp_tw (kpX12_isIn _ _ _ _) rfl) fun w1 hcw1 => (kp_ite (kp_bind (kp_tw (kpX12_bad _ _) hcw1) fun w13 hcw13 => (kp_gd (kp_ret hcw13))) (kp_ite (kp_bind (kp_tw (kpX12_bad _ _) hcw1) fun w10 hcw10 => (kp_gd (kp_ret hcw10))) (kp_let (kp_let (kp_bind (kp_tw (kpX12_next0 _) hcw1) fun w4 hcw4 => (kp_bind (kp_tw (kpX12_inner _ _) hcw4) fun w5 hcw5 => (kp_ite (kp_ret hcw5) (kp_let (kp_bind (kp_tw (kpX12_need _ _) hcw5) fun w7 hcw7 => (kp_gd (kp_ret hcw7))))))))))))
noncomputable def qX12_aLine (h : ea_H) : Option (Int32 × ea_H) := BX12_aLine_0 h
theorem sX12_aLine {d : Nat} {h : ea_H} {r : Int32} {h' : ea_H} (hd : 96 ≤ d) (hs : ShM h) (K : qX12_aLine h = some (r, h')) : ea_Met mX12_aLine d [vR (some 326)] h (some (vI r)) h' := by
  unfold qX12_aLine at K
  have W := tBX12_aLine_0 hd (h0 := h) K hs
  exact ea_enter rfl (Nat.le_of_ble_eq_true rfl) W
theorem kpX12_aLine (h : ea_H) : kp (ea_core h) (qX12_aLine h) := kBX12_aLine_0
noncomputable def BX12_act_0 (J55 : Int32 → ea_H → Option (Int32 × ea_H)) (x1 : Int32) (h : ea_H) : Option (Int32 × ea_H) :=
  (ea_let (ea_wi h 326 59 0) fun H1 => (ea_let (ea_wi H1 326 62 (-1)) fun H2 => (Option.bind (qX12_isDay (x1 : Int32) H2) fun w3 => (if w3.1 = (0 : Int32) then (ea_let (ea_wi w3.2 326 52 0) fun H4 => (some (((-1) : Int32), H4))) else (if (ea_i w3.2 326 25) = (6 : Int32) then (ea_let (ea_wi w3.2 326 52 0) fun H5 => (some (((-1) : Int32), H5))) else (if (ea_i w3.2 326 25) ≤ (0 : Int32) then (J55 (x1 : Int32) w3.2) else (gd (vp_in ((ea_i w3.2 326 25) - (1 : Int32)) 6) (if (ea_i w3.2 347 (Int32.toNatClampNeg ((ea_i w3.2 326 25) - (1 : Int32)))) ≤ x1 then (J55 (x1 : Int32) w3.2) else (ea_let (ea_wi w3.2 326 52 0) fun H7 => (some (((-1) : Int32), H7)))))))))))
set_option maxRecDepth 100000 in
set_option maxHeartbeats 0 in
theorem tBX12_act_0 {d : Nat} {h0 : ea_H} (hd : 97 ≤ d) {J55 : Int32 → ea_H → Option (Int32 × ea_H)}  (kJ55 : ∀ (x1 : Int32) (h : ea_H) (r : Int32) (h' : ea_H), J55 x1 h = some (r, h') → ShM h → ea_W mX12_act d h0 (some (vI r)) h' 55 [(0, vR (some 326)), (1, vI x1)] [] h) {x1 : Int32} {h : ea_H} {r : Int32} {h' : ea_H} (E : BX12_act_0 J55 x1 h = some (r, h')) (hs : ShM h) : ea_W mX12_act d h0 (some (vI r)) h' 0 [(0, vR (some 326)), (1, vI x1)] [] h := by
  unfold BX12_act_0 at E
  obtain ⟨H1, eH1, E⟩ := let_some E
  refine ea_aload_n (pc := 0) dX12_act_0 rfl 0 rfl ?_
  refine ea_iconst (pc := 1) dX12_act_1 (v := 0) rfl ?_
  refine ea_putI (pc := 2) dX12_act_2 ec_12 (k := 59) (Nat.le_of_ble_eq_true rfl) rfl (Or.inl ⟨rfl, Or.inl ew_1461⟩) rfl rfl (cShM_326 hs).1 (cShM_326 hs).2.1 ?_
  refine ea_nm eH1 ?_
  have hsH1 : ShM H1 := by rw [eH1]; exact hs
  obtain ⟨H2, eH2, E⟩ := let_some E
  refine ea_aload_n (pc := 5) dX12_act_5 rfl 0 rfl ?_
  refine ea_iconst (pc := 6) dX12_act_6 (v := (-1)) rfl ?_
  refine ea_putI (pc := 7) dX12_act_7 ec_12 (k := 62) (Nat.le_of_ble_eq_true rfl) rfl (Or.inl ⟨rfl, Or.inl ew_1464⟩) rfl rfl (cShM_326 hsH1).1 (cShM_326 hsH1).2.1 ?_
  refine ea_nm eH2 ?_
  have hsH2 : ShM H2 := by rw [eH2]; exact hsH1
  obtain ⟨w3, Ew3, E⟩ := bd_some E
  have hsw3 : ShM w3.2 := ShM_core ((kpX12_isDay _ _) _ Ew3) hsH2
  refine ea_iload_n (pc := 10) dX12_act_10 rfl 1 rfl ?_
  refine ea_callS (pc := 11) (d' := d - 1) (As := [vI x1]) (st := []) dX12_act_11 kX12_isDay (sX12_isDay (d := d - 1) (by omega) Ew3) (by omega) rfl (Nat.le_of_ble_eq_true rfl) ew_1809 ew_1810 ?_
  refine ea_if_eq (pc := 14) (tgt := 48) dX12_act_14 rfl (fun c11 => ?_) (fun c11 => ?_)
  · have E := (if_pos c11).symm.trans E
    obtain ⟨H4, eH4, E⟩ := let_some E
    refine ea_aload_n (pc := 48) dX12_act_48 rfl 0 rfl ?_
    refine ea_iconst (pc := 49) dX12_act_49 (v := 0) rfl ?_
    refine ea_putI (pc := 50) dX12_act_50 ec_12 (k := 52) (Nat.le_of_ble_eq_true rfl) rfl (Or.inl ⟨rfl, Or.inl ew_1454⟩) rfl rfl (cShM_326 hsw3).1 (cShM_326 hsw3).2.1 ?_
    refine ea_nm eH4 ?_
    have hsH4 : ShM H4 := by rw [eH4]; exact hsw3
    refine ea_iconst (pc := 53) dX12_act_53 (v := (-1)) rfl ?_
    exact ea_iretO (pc := 54) dX12_act_54 rfl rfl E
  · have E := (if_neg c11).symm.trans E
    refine ea_aload_n (pc := 17) dX12_act_17 rfl 0 rfl ?_
    refine ea_getI (pc := 18) dX12_act_18 ec_12 (k := 25) (Nat.le_of_ble_eq_true rfl) rfl (Or.inl ew_1427) (cShM_326 hsw3).1 (cShM_326 hsw3).2.1 ?_
    refine ea_bipush (pc := 21) dX12_act_21 (v := 6) rfl ?_
    refine ea_icmp_eq (pc := 23) (tgt := 48) dX12_act_23 rfl (fun c10 => ?_) (fun c10 => ?_)
    · have E := (if_pos c10).symm.trans E
      obtain ⟨H5, eH5, E⟩ := let_some E
      refine ea_aload_n (pc := 48) dX12_act_48 rfl 0 rfl ?_
      refine ea_iconst (pc := 49) dX12_act_49 (v := 0) rfl ?_
      refine ea_putI (pc := 50) dX12_act_50 ec_12 (k := 52) (Nat.le_of_ble_eq_true rfl) rfl (Or.inl ⟨rfl, Or.inl ew_1454⟩) rfl rfl (cShM_326 hsw3).1 (cShM_326 hsw3).2.1 ?_
      refine ea_nm eH5 ?_
      have hsH5 : ShM H5 := by rw [eH5]; exact hsw3
      refine ea_iconst (pc := 53) dX12_act_53 (v := (-1)) rfl ?_
      exact ea_iretO (pc := 54) dX12_act_54 rfl rfl E
    · have E := (if_neg c10).symm.trans E
      refine ea_aload_n (pc := 26) dX12_act_26 rfl 0 rfl ?_
      refine ea_getI (pc := 27) dX12_act_27 ec_12 (k := 25) (Nat.le_of_ble_eq_true rfl) rfl (Or.inl ew_1427) (cShM_326 hsw3).1 (cShM_326 hsw3).2.1 ?_
      refine ea_if_le (pc := 30) (tgt := 55) dX12_act_30 rfl (fun c9 => ?_) (fun c9 => ?_)
      · have E := (if_pos c9).symm.trans E
        exact (kJ55 (x1 : Int32) w3.2 _ _ E hsw3)
      · have E := (if_neg c9).symm.trans E
        obtain ⟨z6, E⟩ := gd_some E
        refine ea_iload_n (pc := 33) dX12_act_33 rfl 1 rfl ?_
        refine ea_aload_n (pc := 34) dX12_act_34 rfl 0 rfl ?_
        refine ea_getR (pc := 35) dX12_act_35 ec_12 (k := 26) (Nat.le_of_ble_eq_true rfl) rfl (Or.inl ew_1428) (cShM_326 hsw3).1 (cShM_326 hsw3).2.1 (rShM_326_26 hsw3) ?_
        refine ea_aload_n (pc := 38) dX12_act_38 rfl 0 rfl ?_
        refine ea_getI (pc := 39) dX12_act_39 ec_12 (k := 25) (Nat.le_of_ble_eq_true rfl) rfl (Or.inl ew_1427) (cShM_326 hsw3).1 (cShM_326 hsw3).2.1 ?_
        refine ea_iconst (pc := 42) dX12_act_42 (v := 1) rfl ?_
        refine ea_isub (pc := 43) dX12_act_43 ?_
        refine ea_iald (pc := 44) dX12_act_44 (cShM_347 hsw3).1 (cShM_347 hsw3).2.1 (ea_vpl (cShM_347 hsw3).2.2 z6) ?_
        refine ea_icmp_ge (pc := 45) (tgt := 55) dX12_act_45 rfl (fun c8 => ?_) (fun c8 => ?_)
        · have E := (if_pos c8).symm.trans E
          exact (kJ55 (x1 : Int32) w3.2 _ _ E hsw3)
        · have E := (if_neg c8).symm.trans E
          obtain ⟨H7, eH7, E⟩ := let_some E
          refine ea_aload_n (pc := 48) dX12_act_48 rfl 0 rfl ?_
          refine ea_iconst (pc := 49) dX12_act_49 (v := 0) rfl ?_
          refine ea_putI (pc := 50) dX12_act_50 ec_12 (k := 52) (Nat.le_of_ble_eq_true rfl) rfl (Or.inl ⟨rfl, Or.inl ew_1454⟩) rfl rfl (cShM_326 hsw3).1 (cShM_326 hsw3).2.1 ?_
          refine ea_nm eH7 ?_
          have hsH7 : ShM H7 := by rw [eH7]; exact hsw3
          refine ea_iconst (pc := 53) dX12_act_53 (v := (-1)) rfl ?_
          exact ea_iretO (pc := 54) dX12_act_54 rfl rfl E
set_option maxRecDepth 100000 in
set_option maxHeartbeats 0 in
theorem kBX12_act_0 {J55 : Int32 → ea_H → Option (Int32 × ea_H)}  (cJ55 : ∀ (x1 : Int32) (h : ea_H), kp (ea_core h) (J55 x1 h)) {x1 : Int32} {h : ea_H} : kp (ea_core h) (BX12_act_0 J55 x1 h) :=
  (kp_let (kp_let (kp_bind (kp_tw (kpX12_isDay _ _) rfl) fun w3 hcw3 => (kp_ite (kp_let (kp_ret hcw3)) (kp_ite (kp_let (kp_ret hcw3)) (kp_ite (kp_tw (cJ55 _ _) hcw3) (kp_gd (kp_ite (kp_tw (cJ55 _ _) hcw3) (kp_let (kp_ret hcw3))))))))))
set_option maxRecDepth 100000 in
set_option maxHeartbeats 0 in
theorem lBX12_act_0 {J55 : Int32 → ea_H → Option (Int32 × ea_H)} {J55_ : Int32 → ea_H → Option (Int32 × ea_H)}  (mJ55 : ∀ (x1 : Int32) (h : ea_H), fle (J55 x1 h) (J55_ x1 h)) {x1 : Int32} {h : ea_H} : fle (BX12_act_0 J55 x1 h) (BX12_act_0 J55_ x1 h) :=
  (fle_let fun _ => (fle_let fun _ => (fle_bind (fle_rfl _) fun _ => (fle_ite (fle_rfl _) (fle_ite (fle_rfl _) (fle_ite (mJ55 _ _) (fle_gd (fle_ite (mJ55 _ _) (fle_rfl _)))))))))
set_option maxRecDepth 100000 in
set_option maxHeartbeats 0 in
theorem nBX12_act_0 {J55 : Int32 → ea_H → Option (Int32 × ea_H)} {J55_ : Nat → (Int32 → ea_H → Option (Int32 × ea_H))}  (mJ55 : ∀ (x1 : Int32) (h : ea_H), fct (J55 x1 h) (fun f => J55_ f x1 h)) {x1 : Int32} {h : ea_H} : fct (BX12_act_0 J55 x1 h) (fun f => BX12_act_0 (J55_ f) x1 h) :=
  (fct_let fun _ => (fct_let fun _ => (fct_bind (fct_rfl _) fun _ => (fct_ite (fct_rfl _) (fct_ite (fct_rfl _) (fct_ite (mJ55 _ _) (fct_gd (fct_ite (mJ55 _ _) (fct_rfl _)))))))))
noncomputable def BX12_act_55 (J118 : Int32 → Int32 → ea_H → Option (Int32 × ea_H)) (x1 : Int32) (h : ea_H) : Option (Int32 × ea_H) :=
  (ea_let (ea_wi h 326 57 0) fun H12 => (ea_let (ea_wi H12 326 53 0) fun H13 => (ea_let (ea_wi H13 326 43 0) fun H14 => (ea_let (ea_wi H14 326 44 0) fun H15 => (ea_let (ea_wi H15 326 45 0) fun H16 => (ea_let (ea_wi H16 326 46 0) fun H17 => (ea_let (ea_wi H17 326 47 1439) fun H18 => (ea_let (ea_wi H18 326 48 0) fun H19 => (ea_let (ea_wi H19 326 49 0) fun H20 => (ea_let (ea_wi H20 326 50 0) fun H21 => (ea_let (ea_wi H21 326 51 3) fun H22 => (Option.bind (qX12_next0  H22) fun w23 => (J118 (x1 : Int32) (1 : Int32) w23.2)))))))))))))
set_option maxRecDepth 100000 in
set_option maxHeartbeats 0 in
theorem tBX12_act_55 {d : Nat} {h0 : ea_H} (hd : 97 ≤ d) {J118 : Int32 → Int32 → ea_H → Option (Int32 × ea_H)}  (kJ118 : ∀ (x1 : Int32) (x2 : Int32) (h : ea_H) (r : Int32) (h' : ea_H), J118 x1 x2 h = some (r, h') → ShM h → ea_W mX12_act d h0 (some (vI r)) h' 118 [(0, vR (some 326)), (1, vI x1), (2, vI x2)] [] h) {x1 : Int32} {h : ea_H} {r : Int32} {h' : ea_H} (E : BX12_act_55 J118 x1 h = some (r, h')) (hs : ShM h) : ea_W mX12_act d h0 (some (vI r)) h' 55 [(0, vR (some 326)), (1, vI x1)] [] h := by
  unfold BX12_act_55 at E
  obtain ⟨H12, eH12, E⟩ := let_some E
  refine ea_aload_n (pc := 55) dX12_act_55 rfl 0 rfl ?_
  refine ea_iconst (pc := 56) dX12_act_56 (v := 0) rfl ?_
  refine ea_putI (pc := 57) dX12_act_57 ec_12 (k := 57) (Nat.le_of_ble_eq_true rfl) rfl (Or.inl ⟨rfl, Or.inl ew_1459⟩) rfl rfl (cShM_326 hs).1 (cShM_326 hs).2.1 ?_
  refine ea_nm eH12 ?_
  have hsH12 : ShM H12 := by rw [eH12]; exact hs
  obtain ⟨H13, eH13, E⟩ := let_some E
  refine ea_aload_n (pc := 60) dX12_act_60 rfl 0 rfl ?_
  refine ea_iconst (pc := 61) dX12_act_61 (v := 0) rfl ?_
  refine ea_putI (pc := 62) dX12_act_62 ec_12 (k := 53) (Nat.le_of_ble_eq_true rfl) rfl (Or.inl ⟨rfl, Or.inl ew_1455⟩) rfl rfl (cShM_326 hsH12).1 (cShM_326 hsH12).2.1 ?_
  refine ea_nm eH13 ?_
  have hsH13 : ShM H13 := by rw [eH13]; exact hsH12
  obtain ⟨H14, eH14, E⟩ := let_some E
  refine ea_aload_n (pc := 65) dX12_act_65 rfl 0 rfl ?_
  refine ea_iconst (pc := 66) dX12_act_66 (v := 0) rfl ?_
  refine ea_putI (pc := 67) dX12_act_67 ec_12 (k := 43) (Nat.le_of_ble_eq_true rfl) rfl (Or.inl ⟨rfl, Or.inl ew_1445⟩) rfl rfl (cShM_326 hsH13).1 (cShM_326 hsH13).2.1 ?_
  refine ea_nm eH14 ?_
  have hsH14 : ShM H14 := by rw [eH14]; exact hsH13
  obtain ⟨H15, eH15, E⟩ := let_some E
  refine ea_aload_n (pc := 70) dX12_act_70 rfl 0 rfl ?_
  refine ea_iconst (pc := 71) dX12_act_71 (v := 0) rfl ?_
  refine ea_putI (pc := 72) dX12_act_72 ec_12 (k := 44) (Nat.le_of_ble_eq_true rfl) rfl (Or.inl ⟨rfl, Or.inl ew_1446⟩) rfl rfl (cShM_326 hsH14).1 (cShM_326 hsH14).2.1 ?_
  refine ea_nm eH15 ?_
  have hsH15 : ShM H15 := by rw [eH15]; exact hsH14
  obtain ⟨H16, eH16, E⟩ := let_some E
  refine ea_aload_n (pc := 75) dX12_act_75 rfl 0 rfl ?_
  refine ea_iconst (pc := 76) dX12_act_76 (v := 0) rfl ?_
  refine ea_putI (pc := 77) dX12_act_77 ec_12 (k := 45) (Nat.le_of_ble_eq_true rfl) rfl (Or.inl ⟨rfl, Or.inl ew_1447⟩) rfl rfl (cShM_326 hsH15).1 (cShM_326 hsH15).2.1 ?_
  refine ea_nm eH16 ?_
  have hsH16 : ShM H16 := by rw [eH16]; exact hsH15
  obtain ⟨H17, eH17, E⟩ := let_some E
  refine ea_aload_n (pc := 80) dX12_act_80 rfl 0 rfl ?_
  refine ea_iconst (pc := 81) dX12_act_81 (v := 0) rfl ?_
  refine ea_putI (pc := 82) dX12_act_82 ec_12 (k := 46) (Nat.le_of_ble_eq_true rfl) rfl (Or.inl ⟨rfl, Or.inl ew_1448⟩) rfl rfl (cShM_326 hsH16).1 (cShM_326 hsH16).2.1 ?_
  refine ea_nm eH17 ?_
  have hsH17 : ShM H17 := by rw [eH17]; exact hsH16
  obtain ⟨H18, eH18, E⟩ := let_some E
  refine ea_aload_n (pc := 85) dX12_act_85 rfl 0 rfl ?_
  refine ea_sipush (pc := 86) dX12_act_86 (v := 1439) rfl ?_
  refine ea_putI (pc := 89) dX12_act_89 ec_12 (k := 47) (Nat.le_of_ble_eq_true rfl) rfl (Or.inl ⟨rfl, Or.inl ew_1449⟩) rfl rfl (cShM_326 hsH17).1 (cShM_326 hsH17).2.1 ?_
  refine ea_nm eH18 ?_
  have hsH18 : ShM H18 := by rw [eH18]; exact hsH17
  obtain ⟨H19, eH19, E⟩ := let_some E
  refine ea_aload_n (pc := 92) dX12_act_92 rfl 0 rfl ?_
  refine ea_iconst (pc := 93) dX12_act_93 (v := 0) rfl ?_
  refine ea_putI (pc := 94) dX12_act_94 ec_12 (k := 48) (Nat.le_of_ble_eq_true rfl) rfl (Or.inl ⟨rfl, Or.inl ew_1450⟩) rfl rfl (cShM_326 hsH18).1 (cShM_326 hsH18).2.1 ?_
  refine ea_nm eH19 ?_
  have hsH19 : ShM H19 := by rw [eH19]; exact hsH18
  obtain ⟨H20, eH20, E⟩ := let_some E
  refine ea_aload_n (pc := 97) dX12_act_97 rfl 0 rfl ?_
  refine ea_iconst (pc := 98) dX12_act_98 (v := 0) rfl ?_
  refine ea_putI (pc := 99) dX12_act_99 ec_12 (k := 49) (Nat.le_of_ble_eq_true rfl) rfl (Or.inl ⟨rfl, Or.inl ew_1451⟩) rfl rfl (cShM_326 hsH19).1 (cShM_326 hsH19).2.1 ?_
  refine ea_nm eH20 ?_
  have hsH20 : ShM H20 := by rw [eH20]; exact hsH19
  obtain ⟨H21, eH21, E⟩ := let_some E
  refine ea_aload_n (pc := 102) dX12_act_102 rfl 0 rfl ?_
  refine ea_iconst (pc := 103) dX12_act_103 (v := 0) rfl ?_
  refine ea_putI (pc := 104) dX12_act_104 ec_12 (k := 50) (Nat.le_of_ble_eq_true rfl) rfl (Or.inl ⟨rfl, Or.inl ew_1452⟩) rfl rfl (cShM_326 hsH20).1 (cShM_326 hsH20).2.1 ?_
  refine ea_nm eH21 ?_
  have hsH21 : ShM H21 := by rw [eH21]; exact hsH20
  obtain ⟨H22, eH22, E⟩ := let_some E
  refine ea_aload_n (pc := 107) dX12_act_107 rfl 0 rfl ?_
  refine ea_iconst (pc := 108) dX12_act_108 (v := 3) rfl ?_
  refine ea_putI (pc := 109) dX12_act_109 ec_12 (k := 51) (Nat.le_of_ble_eq_true rfl) rfl (Or.inl ⟨rfl, Or.inl ew_1453⟩) rfl rfl (cShM_326 hsH21).1 (cShM_326 hsH21).2.1 ?_
  refine ea_nm eH22 ?_
  have hsH22 : ShM H22 := by rw [eH22]; exact hsH21
  obtain ⟨w23, Ew23, E⟩ := bd_some E
  have hsw23 : ShM w23.2 := ShM_core ((kpX12_next0 _) _ Ew23) hsH22
  refine ea_aload_n (pc := 112) dX12_act_112 rfl 0 rfl ?_
  refine ea_callV (pc := 113) (d' := d - 1) (As := []) (st := []) dX12_act_113 kX12_next0 (sX12_next0 (d := d - 1) (by omega) hsH22 Ew23) (by omega) rfl (Nat.le_of_ble_eq_true rfl) ew_1879 ew_1881 ew_70 (ci := 12) rfl (by decide) (cShM_326 hsH22).1 (cShM_326 hsH22).2.1 ?_
  refine ea_iconst (pc := 116) dX12_act_116 (v := 1) rfl ?_
  refine ea_istore_n (pc := 117) (lv' := [(0, vR (some 326)), (1, vI x1), (2, vI 1)]) dX12_act_117 rfl (Nat.le_of_ble_eq_true rfl) [1, 2, 0] rfl ?_
  exact (kJ118 (x1 : Int32) (1 : Int32) w23.2 _ _ E hsw23)
set_option maxRecDepth 100000 in
set_option maxHeartbeats 0 in
theorem kBX12_act_55 {J118 : Int32 → Int32 → ea_H → Option (Int32 × ea_H)}  (cJ118 : ∀ (x1 : Int32) (x2 : Int32) (h : ea_H), kp (ea_core h) (J118 x1 x2 h)) {x1 : Int32} {h : ea_H} : kp (ea_core h) (BX12_act_55 J118 x1 h) :=
  (kp_let (kp_let (kp_let (kp_let (kp_let (kp_let (kp_let (kp_let (kp_let (kp_let (kp_let (kp_bind (kp_tw (kpX12_next0 _) rfl) fun w23 hcw23 => (kp_tw (cJ118 _ _ _) hcw23)))))))))))))
set_option maxRecDepth 100000 in
set_option maxHeartbeats 0 in
theorem lBX12_act_55 {J118 : Int32 → Int32 → ea_H → Option (Int32 × ea_H)} {J118_ : Int32 → Int32 → ea_H → Option (Int32 × ea_H)}  (mJ118 : ∀ (x1 : Int32) (x2 : Int32) (h : ea_H), fle (J118 x1 x2 h) (J118_ x1 x2 h)) {x1 : Int32} {h : ea_H} : fle (BX12_act_55 J118 x1 h) (BX12_act_55 J118_ x1 h) :=
  (fle_let fun _ => (fle_let fun _ => (fle_let fun _ => (fle_let fun _ => (fle_let fun _ => (fle_let fun _ => (fle_let fun _ => (fle_let fun _ => (fle_let fun _ => (fle_let fun _ => (fle_let fun _ => (fle_bind (fle_rfl _) fun _ => (mJ118 _ _ _)))))))))))))
set_option maxRecDepth 100000 in
set_option maxHeartbeats 0 in
theorem nBX12_act_55 {J118 : Int32 → Int32 → ea_H → Option (Int32 × ea_H)} {J118_ : Nat → (Int32 → Int32 → ea_H → Option (Int32 × ea_H))}  (mJ118 : ∀ (x1 : Int32) (x2 : Int32) (h : ea_H), fct (J118 x1 x2 h) (fun f => J118_ f x1 x2 h)) {x1 : Int32} {h : ea_H} : fct (BX12_act_55 J118 x1 h) (fun f => BX12_act_55 (J118_ f) x1 h) :=
  (fct_let fun _ => (fct_let fun _ => (fct_let fun _ => (fct_let fun _ => (fct_let fun _ => (fct_let fun _ => (fct_let fun _ => (fct_let fun _ => (fct_let fun _ => (fct_let fun _ => (fct_let fun _ => (fct_bind (fct_rfl _) fun _ => (mJ118 _ _ _)))))))))))))
noncomputable def BX12_act_118 (J118 : Int32 → Int32 → ea_H → Option (Int32 × ea_H)) (J137 : Int32 → Int32 → ea_H → Option (Int32 × ea_H)) (x1 : Int32) (x2 : Int32) (h : ea_H) : Option (Int32 × ea_H) :=
  (if x2 = (0 : Int32) then (J137 (x1 : Int32) (x2 : Int32) h) else (if (ea_i h 326 54) = (0 : Int32) then (J137 (x1 : Int32) (x2 : Int32) h) else (Option.bind (qX12_aLine  h) fun w24 => (J118 (x1 : Int32) (w24.1 : Int32) w24.2))))
set_option maxRecDepth 100000 in
set_option maxHeartbeats 0 in
theorem tBX12_act_118 {d : Nat} {h0 : ea_H} (hd : 97 ≤ d) {J118 : Int32 → Int32 → ea_H → Option (Int32 × ea_H)} {J137 : Int32 → Int32 → ea_H → Option (Int32 × ea_H)}  (kJ118 : ∀ (x1 : Int32) (x2 : Int32) (h : ea_H) (r : Int32) (h' : ea_H), J118 x1 x2 h = some (r, h') → ShM h → ea_W mX12_act d h0 (some (vI r)) h' 118 [(0, vR (some 326)), (1, vI x1), (2, vI x2)] [] h) (kJ137 : ∀ (x1 : Int32) (x2 : Int32) (h : ea_H) (r : Int32) (h' : ea_H), J137 x1 x2 h = some (r, h') → ShM h → ea_W mX12_act d h0 (some (vI r)) h' 137 [(0, vR (some 326)), (1, vI x1), (2, vI x2)] [] h) {x1 : Int32} {x2 : Int32} {h : ea_H} {r : Int32} {h' : ea_H} (E : BX12_act_118 J118 J137 x1 x2 h = some (r, h')) (hs : ShM h) : ea_W mX12_act d h0 (some (vI r)) h' 118 [(0, vR (some 326)), (1, vI x1), (2, vI x2)] [] h := by
  unfold BX12_act_118 at E
  refine ea_iload_n (pc := 118) dX12_act_118 rfl 2 rfl ?_
  refine ea_if_eq (pc := 119) (tgt := 137) dX12_act_119 rfl (fun c26 => ?_) (fun c26 => ?_)
  · have E := (if_pos c26).symm.trans E
    exact (kJ137 (x1 : Int32) (x2 : Int32) h _ _ E hs)
  · have E := (if_neg c26).symm.trans E
    refine ea_aload_n (pc := 122) dX12_act_122 rfl 0 rfl ?_
    refine ea_getI (pc := 123) dX12_act_123 ec_12 (k := 54) (Nat.le_of_ble_eq_true rfl) rfl (Or.inl ew_1456) (cShM_326 hs).1 (cShM_326 hs).2.1 ?_
    refine ea_if_eq (pc := 126) (tgt := 137) dX12_act_126 rfl (fun c25 => ?_) (fun c25 => ?_)
    · have E := (if_pos c25).symm.trans E
      exact (kJ137 (x1 : Int32) (x2 : Int32) h _ _ E hs)
    · have E := (if_neg c25).symm.trans E
      obtain ⟨w24, Ew24, E⟩ := bd_some E
      have hsw24 : ShM w24.2 := ShM_core ((kpX12_aLine _) _ Ew24) hs
      refine ea_aload_n (pc := 129) dX12_act_129 rfl 0 rfl ?_
      refine ea_callV (pc := 130) (d' := d - 1) (As := []) (st := []) dX12_act_130 kX12_aLine (sX12_aLine (d := d - 1) (by omega) hs Ew24) (by omega) rfl (Nat.le_of_ble_eq_true rfl) ew_1967 ew_1969 ew_74 (ci := 12) rfl (by decide) (cShM_326 hs).1 (cShM_326 hs).2.1 ?_
      refine ea_istore_n (pc := 133) (lv' := [(0, vR (some 326)), (1, vI x1), (2, vI w24.1)]) dX12_act_133 rfl (Nat.le_of_ble_eq_true rfl) [1, 2, 0] rfl ?_
      refine ea_goto (pc := 134) (tgt := 118) dX12_act_134 rfl ?_
      exact (kJ118 (x1 : Int32) (w24.1 : Int32) w24.2 _ _ E hsw24)
set_option maxRecDepth 100000 in
set_option maxHeartbeats 0 in
theorem kBX12_act_118 {J118 : Int32 → Int32 → ea_H → Option (Int32 × ea_H)} {J137 : Int32 → Int32 → ea_H → Option (Int32 × ea_H)}  (cJ118 : ∀ (x1 : Int32) (x2 : Int32) (h : ea_H), kp (ea_core h) (J118 x1 x2 h)) (cJ137 : ∀ (x1 : Int32) (x2 : Int32) (h : ea_H), kp (ea_core h) (J137 x1 x2 h)) {x1 : Int32} {x2 : Int32} {h : ea_H} : kp (ea_core h) (BX12_act_118 J118 J137 x1 x2 h) :=
  (kp_ite (kp_tw (cJ137 _ _ _) rfl) (kp_ite (kp_tw (cJ137 _ _ _) rfl) (kp_bind (kp_tw (kpX12_aLine _) rfl) fun w24 hcw24 => (kp_tw (cJ118 _ _ _) hcw24))))
set_option maxRecDepth 100000 in
set_option maxHeartbeats 0 in
theorem lBX12_act_118 {J118 : Int32 → Int32 → ea_H → Option (Int32 × ea_H)} {J137 : Int32 → Int32 → ea_H → Option (Int32 × ea_H)} {J118_ : Int32 → Int32 → ea_H → Option (Int32 × ea_H)} {J137_ : Int32 → Int32 → ea_H → Option (Int32 × ea_H)}  (mJ118 : ∀ (x1 : Int32) (x2 : Int32) (h : ea_H), fle (J118 x1 x2 h) (J118_ x1 x2 h)) (mJ137 : ∀ (x1 : Int32) (x2 : Int32) (h : ea_H), fle (J137 x1 x2 h) (J137_ x1 x2 h)) {x1 : Int32} {x2 : Int32} {h : ea_H} : fle (BX12_act_118 J118 J137 x1 x2 h) (BX12_act_118 J118_ J137_ x1 x2 h) :=
  (fle_ite (mJ137 _ _ _) (fle_ite (mJ137 _ _ _) (fle_bind (fle_rfl _) fun _ => (mJ118 _ _ _))))
set_option maxRecDepth 100000 in
set_option maxHeartbeats 0 in
theorem nBX12_act_118 {J118 : Int32 → Int32 → ea_H → Option (Int32 × ea_H)} {J137 : Int32 → Int32 → ea_H → Option (Int32 × ea_H)} {J118_ : Nat → (Int32 → Int32 → ea_H → Option (Int32 × ea_H))} {J137_ : Nat → (Int32 → Int32 → ea_H → Option (Int32 × ea_H))}  (mJ118 : ∀ (x1 : Int32) (x2 : Int32) (h : ea_H), fct (J118 x1 x2 h) (fun f => J118_ f x1 x2 h)) (mJ137 : ∀ (x1 : Int32) (x2 : Int32) (h : ea_H), fct (J137 x1 x2 h) (fun f => J137_ f x1 x2 h)) {x1 : Int32} {x2 : Int32} {h : ea_H} : fct (BX12_act_118 J118 J137 x1 x2 h) (fun f => BX12_act_118 (J118_ f) (J137_ f) x1 x2 h) :=
  (fct_ite (mJ137 _ _ _) (fct_ite (mJ137 _ _ _) (fct_bind (fct_rfl _) fun _ => (mJ118 _ _ _))))
noncomputable def BX12_act_137 (J163 : Int32 → Int32 → Int32 → ea_H → Option (Int32 × ea_H)) (x1 : Int32) (x2 : Int32) (h : ea_H) : Option (Int32 × ea_H) :=
  (ea_let (ea_wi h 326 52 0) fun H27 => (ea_let (ea_wi H27 326 59 (ea_i H27 326 57)) fun H28 => (if x2 = (0 : Int32) then (J163 (x1 : Int32) (x2 : Int32) ((ea_i H28 326 58) : Int32) H28) else (J163 (x1 : Int32) (x2 : Int32) ((-1) : Int32) H28))))
set_option maxRecDepth 100000 in
set_option maxHeartbeats 0 in
theorem tBX12_act_137 {d : Nat} {h0 : ea_H} (hd : 97 ≤ d) {J163 : Int32 → Int32 → Int32 → ea_H → Option (Int32 × ea_H)}  (kJ163 : ∀ (x1 : Int32) (x2 : Int32) (sx0 : Int32) (h : ea_H) (r : Int32) (h' : ea_H), J163 x1 x2 sx0 h = some (r, h') → ShM h → ea_W mX12_act d h0 (some (vI r)) h' 163 [(0, vR (some 326)), (1, vI x1), (2, vI x2)] [vI sx0, vR (some 326)] h) {x1 : Int32} {x2 : Int32} {h : ea_H} {r : Int32} {h' : ea_H} (E : BX12_act_137 J163 x1 x2 h = some (r, h')) (hs : ShM h) : ea_W mX12_act d h0 (some (vI r)) h' 137 [(0, vR (some 326)), (1, vI x1), (2, vI x2)] [] h := by
  unfold BX12_act_137 at E
  obtain ⟨H27, eH27, E⟩ := let_some E
  refine ea_aload_n (pc := 137) dX12_act_137 rfl 0 rfl ?_
  refine ea_iconst (pc := 138) dX12_act_138 (v := 0) rfl ?_
  refine ea_putI (pc := 139) dX12_act_139 ec_12 (k := 52) (Nat.le_of_ble_eq_true rfl) rfl (Or.inl ⟨rfl, Or.inl ew_1454⟩) rfl rfl (cShM_326 hs).1 (cShM_326 hs).2.1 ?_
  refine ea_nm eH27 ?_
  have hsH27 : ShM H27 := by rw [eH27]; exact hs
  obtain ⟨H28, eH28, E⟩ := let_some E
  refine ea_aload_n (pc := 142) dX12_act_142 rfl 0 rfl ?_
  refine ea_aload_n (pc := 143) dX12_act_143 rfl 0 rfl ?_
  refine ea_getI (pc := 144) dX12_act_144 ec_12 (k := 57) (Nat.le_of_ble_eq_true rfl) rfl (Or.inl ew_1459) (cShM_326 hsH27).1 (cShM_326 hsH27).2.1 ?_
  refine ea_putI (pc := 147) dX12_act_147 ec_12 (k := 59) (Nat.le_of_ble_eq_true rfl) rfl (Or.inl ⟨rfl, Or.inl ew_1461⟩) rfl rfl (cShM_326 hsH27).1 (cShM_326 hsH27).2.1 ?_
  refine ea_nm eH28 ?_
  have hsH28 : ShM H28 := by rw [eH28]; exact hsH27
  refine ea_aload_n (pc := 150) dX12_act_150 rfl 0 rfl ?_
  refine ea_iload_n (pc := 151) dX12_act_151 rfl 2 rfl ?_
  refine ea_if_eq (pc := 152) (tgt := 159) dX12_act_152 rfl (fun c29 => ?_) (fun c29 => ?_)
  · have E := (if_pos c29).symm.trans E
    refine ea_aload_n (pc := 159) dX12_act_159 rfl 0 rfl ?_
    refine ea_getI (pc := 160) dX12_act_160 ec_12 (k := 58) (Nat.le_of_ble_eq_true rfl) rfl (Or.inl ew_1460) (cShM_326 hsH28).1 (cShM_326 hsH28).2.1 ?_
    exact (kJ163 (x1 : Int32) (x2 : Int32) ((ea_i H28 326 58) : Int32) H28 _ _ E hsH28)
  · have E := (if_neg c29).symm.trans E
    refine ea_iconst (pc := 155) dX12_act_155 (v := (-1)) rfl ?_
    refine ea_goto (pc := 156) (tgt := 163) dX12_act_156 rfl ?_
    exact (kJ163 (x1 : Int32) (x2 : Int32) ((-1) : Int32) H28 _ _ E hsH28)
set_option maxRecDepth 100000 in
set_option maxHeartbeats 0 in
theorem kBX12_act_137 {J163 : Int32 → Int32 → Int32 → ea_H → Option (Int32 × ea_H)}  (cJ163 : ∀ (x1 : Int32) (x2 : Int32) (sx0 : Int32) (h : ea_H), kp (ea_core h) (J163 x1 x2 sx0 h)) {x1 : Int32} {x2 : Int32} {h : ea_H} : kp (ea_core h) (BX12_act_137 J163 x1 x2 h) :=
  (kp_let (kp_let (kp_ite (kp_tw (cJ163 _ _ _ _) rfl) (kp_tw (cJ163 _ _ _ _) rfl))))
set_option maxRecDepth 100000 in
set_option maxHeartbeats 0 in
theorem lBX12_act_137 {J163 : Int32 → Int32 → Int32 → ea_H → Option (Int32 × ea_H)} {J163_ : Int32 → Int32 → Int32 → ea_H → Option (Int32 × ea_H)}  (mJ163 : ∀ (x1 : Int32) (x2 : Int32) (sx0 : Int32) (h : ea_H), fle (J163 x1 x2 sx0 h) (J163_ x1 x2 sx0 h)) {x1 : Int32} {x2 : Int32} {h : ea_H} : fle (BX12_act_137 J163 x1 x2 h) (BX12_act_137 J163_ x1 x2 h) :=
  (fle_let fun _ => (fle_let fun _ => (fle_ite (mJ163 _ _ _ _) (mJ163 _ _ _ _))))
set_option maxRecDepth 100000 in
set_option maxHeartbeats 0 in
theorem nBX12_act_137 {J163 : Int32 → Int32 → Int32 → ea_H → Option (Int32 × ea_H)} {J163_ : Nat → (Int32 → Int32 → Int32 → ea_H → Option (Int32 × ea_H))}  (mJ163 : ∀ (x1 : Int32) (x2 : Int32) (sx0 : Int32) (h : ea_H), fct (J163 x1 x2 sx0 h) (fun f => J163_ f x1 x2 sx0 h)) {x1 : Int32} {x2 : Int32} {h : ea_H} : fct (BX12_act_137 J163 x1 x2 h) (fun f => BX12_act_137 (J163_ f) x1 x2 h) :=
  (fct_let fun _ => (fct_let fun _ => (fct_ite (mJ163 _ _ _ _) (mJ163 _ _ _ _))))
noncomputable def BX12_act_163 (J277 : Int32 → Int32 → ea_H → Option (Int32 × ea_H)) (x1 : Int32) (x2 : Int32) (sx0 : Int32) (h : ea_H) : Option (Int32 × ea_H) :=
  (ea_let (ea_wi h 326 62 sx0) fun H30 => (if x2 = (0 : Int32) then (some (((-1) : Int32), H30)) else (ea_let (ea_i H30 326 25) fun (v31 : Int32) => (ea_let (ea_wi H30 326 25 ((ea_i H30 326 25) + (1 : Int32))) fun H32 => (gd (vp_in v31 6) (ea_let (ea_wi H32 347 (Int32.toNatClampNeg v31) x1) fun H34 => (gd (vp_in v31 6) (ea_let (ea_wi H34 348 (Int32.toNatClampNeg v31) (ea_i H34 326 43)) fun H36 => (gd (vp_in v31 6) (ea_let (ea_wi H36 349 (Int32.toNatClampNeg v31) (ea_i H36 326 46)) fun H38 => (gd (vp_in v31 6) (ea_let (ea_wi H38 350 (Int32.toNatClampNeg v31) (ea_i H38 326 47)) fun H40 => (gd (vp_in v31 6) (ea_let (ea_wi H40 351 (Int32.toNatClampNeg v31) (ea_i H40 326 48)) fun H42 => (gd (vp_in v31 6) (ea_let (ea_wi H42 352 (Int32.toNatClampNeg v31) (ea_i H42 326 49)) fun H44 => (gd (vp_in v31 6) (ea_let (ea_wi H44 353 (Int32.toNatClampNeg v31) (ea_i H44 326 50)) fun H46 => (gd (vp_in v31 6) (ea_let (ea_wi H46 354 (Int32.toNatClampNeg v31) (ea_i H46 326 51)) fun H48 => (gd (vp_in v31 6) (ea_let (ea_wi H48 355 (Int32.toNatClampNeg v31) (ea_i H48 326 44)) fun H50 => (J277 (v31 : Int32) (0 : Int32) H50)))))))))))))))))))))))
set_option maxRecDepth 100000 in
set_option maxHeartbeats 0 in
theorem tBX12_act_163 {d : Nat} {h0 : ea_H} (hd : 97 ≤ d) {J277 : Int32 → Int32 → ea_H → Option (Int32 × ea_H)}  (kJ277 : ∀ (x3 : Int32) (x4 : Int32) (h : ea_H) (r : Int32) (h' : ea_H), J277 x3 x4 h = some (r, h') → ShM h → ea_W mX12_act d h0 (some (vI r)) h' 277 [(0, vR (some 326)), (3, vI x3), (4, vI x4)] [] h) {x1 : Int32} {x2 : Int32} {sx0 : Int32} {h : ea_H} {r : Int32} {h' : ea_H} (E : BX12_act_163 J277 x1 x2 sx0 h = some (r, h')) (hs : ShM h) : ea_W mX12_act d h0 (some (vI r)) h' 163 [(0, vR (some 326)), (1, vI x1), (2, vI x2)] [vI sx0, vR (some 326)] h := by
  unfold BX12_act_163 at E
  obtain ⟨H30, eH30, E⟩ := let_some E
  refine ea_putI (pc := 163) dX12_act_163 ec_12 (k := 62) (Nat.le_of_ble_eq_true rfl) rfl (Or.inl ⟨rfl, Or.inl ew_1464⟩) rfl rfl (cShM_326 hs).1 (cShM_326 hs).2.1 ?_
  refine ea_nm eH30 ?_
  have hsH30 : ShM H30 := by rw [eH30]; exact hs
  refine ea_iload_n (pc := 166) dX12_act_166 rfl 2 rfl ?_
  refine ea_if_ne (pc := 167) (tgt := 172) dX12_act_167 rfl (fun c51 => ?_) (fun c51 => ?_)
  · have E := (if_neg c51).symm.trans E
    obtain ⟨v31, ev31, E⟩ := let_some E
    refine ea_aload_n (pc := 172) dX12_act_172 rfl 0 rfl ?_
    refine ea_getI (pc := 173) dX12_act_173 ec_12 (k := 25) (Nat.le_of_ble_eq_true rfl) rfl (Or.inl ew_1427) (cShM_326 hsH30).1 (cShM_326 hsH30).2.1 ?_
    obtain ⟨H32, eH32, E⟩ := let_some E
    refine ea_istore_n (pc := 176) (lv' := [(0, vR (some 326)), (1, vI x1), (3, vI v31)]) dX12_act_176 rfl (Nat.le_of_ble_eq_true rfl) [1, 2, 0] (by rw [ev31]; rfl) ?_
    refine ea_aload_n (pc := 177) dX12_act_177 rfl 0 rfl ?_
    refine ea_dup (pc := 178) dX12_act_178 rfl ?_
    refine ea_getI (pc := 179) dX12_act_179 ec_12 (k := 25) (Nat.le_of_ble_eq_true rfl) rfl (Or.inl ew_1427) (cShM_326 hsH30).1 (cShM_326 hsH30).2.1 ?_
    refine ea_iconst (pc := 182) dX12_act_182 (v := 1) rfl ?_
    refine ea_iadd (pc := 183) dX12_act_183 ?_
    refine ea_putI (pc := 184) dX12_act_184 ec_12 (k := 25) (Nat.le_of_ble_eq_true rfl) rfl (Or.inl ⟨rfl, Or.inl ew_1427⟩) rfl rfl (cShM_326 hsH30).1 (cShM_326 hsH30).2.1 ?_
    refine ea_nm eH32 ?_
    have hsH32 : ShM H32 := by rw [eH32]; exact hsH30
    obtain ⟨z33, E⟩ := gd_some E
    refine ea_aload_n (pc := 187) dX12_act_187 rfl 0 rfl ?_
    refine ea_getR (pc := 188) dX12_act_188 ec_12 (k := 26) (Nat.le_of_ble_eq_true rfl) rfl (Or.inl ew_1428) (cShM_326 hsH32).1 (cShM_326 hsH32).2.1 (rShM_326_26 hsH32) ?_
    refine ea_iload_n (pc := 191) dX12_act_191 rfl 2 rfl ?_
    refine ea_iload_n (pc := 192) dX12_act_192 rfl 1 rfl ?_
    obtain ⟨H34, eH34, E⟩ := let_some E
    refine ea_iast (pc := 193) dX12_act_193 (cShM_347 hsH32).1 (cShM_347 hsH32).2.1 (ea_vpl (cShM_347 hsH32).2.2 z33) ?_
    refine ea_nm eH34 ?_
    have hsH34 : ShM H34 := by rw [eH34]; exact hsH32
    obtain ⟨z35, E⟩ := gd_some E
    refine ea_aload_n (pc := 194) dX12_act_194 rfl 0 rfl ?_
    refine ea_getR (pc := 195) dX12_act_195 ec_12 (k := 27) (Nat.le_of_ble_eq_true rfl) rfl (Or.inl ew_1429) (cShM_326 hsH34).1 (cShM_326 hsH34).2.1 (rShM_326_27 hsH34) ?_
    refine ea_iload_n (pc := 198) dX12_act_198 rfl 2 rfl ?_
    refine ea_aload_n (pc := 199) dX12_act_199 rfl 0 rfl ?_
    refine ea_getI (pc := 200) dX12_act_200 ec_12 (k := 43) (Nat.le_of_ble_eq_true rfl) rfl (Or.inl ew_1445) (cShM_326 hsH34).1 (cShM_326 hsH34).2.1 ?_
    obtain ⟨H36, eH36, E⟩ := let_some E
    refine ea_iast (pc := 203) dX12_act_203 (cShM_348 hsH34).1 (cShM_348 hsH34).2.1 (ea_vpl (cShM_348 hsH34).2.2 z35) ?_
    refine ea_nm eH36 ?_
    have hsH36 : ShM H36 := by rw [eH36]; exact hsH34
    obtain ⟨z37, E⟩ := gd_some E
    refine ea_aload_n (pc := 204) dX12_act_204 rfl 0 rfl ?_
    refine ea_getR (pc := 205) dX12_act_205 ec_12 (k := 28) (Nat.le_of_ble_eq_true rfl) rfl (Or.inl ew_1430) (cShM_326 hsH36).1 (cShM_326 hsH36).2.1 (rShM_326_28 hsH36) ?_
    refine ea_iload_n (pc := 208) dX12_act_208 rfl 2 rfl ?_
    refine ea_aload_n (pc := 209) dX12_act_209 rfl 0 rfl ?_
    refine ea_getI (pc := 210) dX12_act_210 ec_12 (k := 46) (Nat.le_of_ble_eq_true rfl) rfl (Or.inl ew_1448) (cShM_326 hsH36).1 (cShM_326 hsH36).2.1 ?_
    obtain ⟨H38, eH38, E⟩ := let_some E
    refine ea_iast (pc := 213) dX12_act_213 (cShM_349 hsH36).1 (cShM_349 hsH36).2.1 (ea_vpl (cShM_349 hsH36).2.2 z37) ?_
    refine ea_nm eH38 ?_
    have hsH38 : ShM H38 := by rw [eH38]; exact hsH36
    obtain ⟨z39, E⟩ := gd_some E
    refine ea_aload_n (pc := 214) dX12_act_214 rfl 0 rfl ?_
    refine ea_getR (pc := 215) dX12_act_215 ec_12 (k := 29) (Nat.le_of_ble_eq_true rfl) rfl (Or.inl ew_1431) (cShM_326 hsH38).1 (cShM_326 hsH38).2.1 (rShM_326_29 hsH38) ?_
    refine ea_iload_n (pc := 218) dX12_act_218 rfl 2 rfl ?_
    refine ea_aload_n (pc := 219) dX12_act_219 rfl 0 rfl ?_
    refine ea_getI (pc := 220) dX12_act_220 ec_12 (k := 47) (Nat.le_of_ble_eq_true rfl) rfl (Or.inl ew_1449) (cShM_326 hsH38).1 (cShM_326 hsH38).2.1 ?_
    obtain ⟨H40, eH40, E⟩ := let_some E
    refine ea_iast (pc := 223) dX12_act_223 (cShM_350 hsH38).1 (cShM_350 hsH38).2.1 (ea_vpl (cShM_350 hsH38).2.2 z39) ?_
    refine ea_nm eH40 ?_
    have hsH40 : ShM H40 := by rw [eH40]; exact hsH38
    obtain ⟨z41, E⟩ := gd_some E
    refine ea_aload_n (pc := 224) dX12_act_224 rfl 0 rfl ?_
    refine ea_getR (pc := 225) dX12_act_225 ec_12 (k := 30) (Nat.le_of_ble_eq_true rfl) rfl (Or.inl ew_1432) (cShM_326 hsH40).1 (cShM_326 hsH40).2.1 (rShM_326_30 hsH40) ?_
    refine ea_iload_n (pc := 228) dX12_act_228 rfl 2 rfl ?_
    refine ea_aload_n (pc := 229) dX12_act_229 rfl 0 rfl ?_
    refine ea_getI (pc := 230) dX12_act_230 ec_12 (k := 48) (Nat.le_of_ble_eq_true rfl) rfl (Or.inl ew_1450) (cShM_326 hsH40).1 (cShM_326 hsH40).2.1 ?_
    obtain ⟨H42, eH42, E⟩ := let_some E
    refine ea_iast (pc := 233) dX12_act_233 (cShM_351 hsH40).1 (cShM_351 hsH40).2.1 (ea_vpl (cShM_351 hsH40).2.2 z41) ?_
    refine ea_nm eH42 ?_
    have hsH42 : ShM H42 := by rw [eH42]; exact hsH40
    obtain ⟨z43, E⟩ := gd_some E
    refine ea_aload_n (pc := 234) dX12_act_234 rfl 0 rfl ?_
    refine ea_getR (pc := 235) dX12_act_235 ec_12 (k := 31) (Nat.le_of_ble_eq_true rfl) rfl (Or.inl ew_1433) (cShM_326 hsH42).1 (cShM_326 hsH42).2.1 (rShM_326_31 hsH42) ?_
    refine ea_iload_n (pc := 238) dX12_act_238 rfl 2 rfl ?_
    refine ea_aload_n (pc := 239) dX12_act_239 rfl 0 rfl ?_
    refine ea_getI (pc := 240) dX12_act_240 ec_12 (k := 49) (Nat.le_of_ble_eq_true rfl) rfl (Or.inl ew_1451) (cShM_326 hsH42).1 (cShM_326 hsH42).2.1 ?_
    obtain ⟨H44, eH44, E⟩ := let_some E
    refine ea_iast (pc := 243) dX12_act_243 (cShM_352 hsH42).1 (cShM_352 hsH42).2.1 (ea_vpl (cShM_352 hsH42).2.2 z43) ?_
    refine ea_nm eH44 ?_
    have hsH44 : ShM H44 := by rw [eH44]; exact hsH42
    obtain ⟨z45, E⟩ := gd_some E
    refine ea_aload_n (pc := 244) dX12_act_244 rfl 0 rfl ?_
    refine ea_getR (pc := 245) dX12_act_245 ec_12 (k := 32) (Nat.le_of_ble_eq_true rfl) rfl (Or.inl ew_1434) (cShM_326 hsH44).1 (cShM_326 hsH44).2.1 (rShM_326_32 hsH44) ?_
    refine ea_iload_n (pc := 248) dX12_act_248 rfl 2 rfl ?_
    refine ea_aload_n (pc := 249) dX12_act_249 rfl 0 rfl ?_
    refine ea_getI (pc := 250) dX12_act_250 ec_12 (k := 50) (Nat.le_of_ble_eq_true rfl) rfl (Or.inl ew_1452) (cShM_326 hsH44).1 (cShM_326 hsH44).2.1 ?_
    obtain ⟨H46, eH46, E⟩ := let_some E
    refine ea_iast (pc := 253) dX12_act_253 (cShM_353 hsH44).1 (cShM_353 hsH44).2.1 (ea_vpl (cShM_353 hsH44).2.2 z45) ?_
    refine ea_nm eH46 ?_
    have hsH46 : ShM H46 := by rw [eH46]; exact hsH44
    obtain ⟨z47, E⟩ := gd_some E
    refine ea_aload_n (pc := 254) dX12_act_254 rfl 0 rfl ?_
    refine ea_getR (pc := 255) dX12_act_255 ec_12 (k := 33) (Nat.le_of_ble_eq_true rfl) rfl (Or.inl ew_1435) (cShM_326 hsH46).1 (cShM_326 hsH46).2.1 (rShM_326_33 hsH46) ?_
    refine ea_iload_n (pc := 258) dX12_act_258 rfl 2 rfl ?_
    refine ea_aload_n (pc := 259) dX12_act_259 rfl 0 rfl ?_
    refine ea_getI (pc := 260) dX12_act_260 ec_12 (k := 51) (Nat.le_of_ble_eq_true rfl) rfl (Or.inl ew_1453) (cShM_326 hsH46).1 (cShM_326 hsH46).2.1 ?_
    obtain ⟨H48, eH48, E⟩ := let_some E
    refine ea_iast (pc := 263) dX12_act_263 (cShM_354 hsH46).1 (cShM_354 hsH46).2.1 (ea_vpl (cShM_354 hsH46).2.2 z47) ?_
    refine ea_nm eH48 ?_
    have hsH48 : ShM H48 := by rw [eH48]; exact hsH46
    obtain ⟨z49, E⟩ := gd_some E
    refine ea_aload_n (pc := 264) dX12_act_264 rfl 0 rfl ?_
    refine ea_getR (pc := 265) dX12_act_265 ec_12 (k := 34) (Nat.le_of_ble_eq_true rfl) rfl (Or.inl ew_1436) (cShM_326 hsH48).1 (cShM_326 hsH48).2.1 (rShM_326_34 hsH48) ?_
    refine ea_iload_n (pc := 268) dX12_act_268 rfl 2 rfl ?_
    refine ea_aload_n (pc := 269) dX12_act_269 rfl 0 rfl ?_
    refine ea_getI (pc := 270) dX12_act_270 ec_12 (k := 44) (Nat.le_of_ble_eq_true rfl) rfl (Or.inl ew_1446) (cShM_326 hsH48).1 (cShM_326 hsH48).2.1 ?_
    obtain ⟨H50, eH50, E⟩ := let_some E
    refine ea_iast (pc := 273) dX12_act_273 (cShM_355 hsH48).1 (cShM_355 hsH48).2.1 (ea_vpl (cShM_355 hsH48).2.2 z49) ?_
    refine ea_nm eH50 ?_
    have hsH50 : ShM H50 := by rw [eH50]; exact hsH48
    refine ea_iconst (pc := 274) dX12_act_274 (v := 0) rfl ?_
    refine ea_istore (pc := 275) (lv' := [(0, vR (some 326)), (3, vI v31), (4, vI 0)]) dX12_act_275 (Nat.le_of_ble_eq_true rfl) [1, 3, 0] rfl ?_
    exact (kJ277 (v31 : Int32) (0 : Int32) H50 _ _ E hsH50)
  · have E := (if_pos c51).symm.trans E
    refine ea_iconst (pc := 170) dX12_act_170 (v := (-1)) rfl ?_
    exact ea_iretO (pc := 171) dX12_act_171 rfl rfl E
set_option maxRecDepth 100000 in
set_option maxHeartbeats 0 in
theorem kBX12_act_163 {J277 : Int32 → Int32 → ea_H → Option (Int32 × ea_H)}  (cJ277 : ∀ (x3 : Int32) (x4 : Int32) (h : ea_H), kp (ea_core h) (J277 x3 x4 h)) {x1 : Int32} {x2 : Int32} {sx0 : Int32} {h : ea_H} : kp (ea_core h) (BX12_act_163 J277 x1 x2 sx0 h) :=
  (kp_let (kp_ite (kp_ret rfl) (kp_let (kp_let (kp_gd (kp_let (kp_gd (kp_let (kp_gd (kp_let (kp_gd (kp_let (kp_gd (kp_let (kp_gd (kp_let (kp_gd (kp_let (kp_gd (kp_let (kp_gd (kp_let (kp_tw (cJ277 _ _ _) rfl)))))))))))))))))))))))
set_option maxRecDepth 100000 in
set_option maxHeartbeats 0 in
theorem lBX12_act_163 {J277 : Int32 → Int32 → ea_H → Option (Int32 × ea_H)} {J277_ : Int32 → Int32 → ea_H → Option (Int32 × ea_H)}  (mJ277 : ∀ (x3 : Int32) (x4 : Int32) (h : ea_H), fle (J277 x3 x4 h) (J277_ x3 x4 h)) {x1 : Int32} {x2 : Int32} {sx0 : Int32} {h : ea_H} : fle (BX12_act_163 J277 x1 x2 sx0 h) (BX12_act_163 J277_ x1 x2 sx0 h) :=
  (fle_let fun _ => (fle_ite (fle_rfl _) (fle_let fun _ => (fle_let fun _ => (fle_gd (fle_let fun _ => (fle_gd (fle_let fun _ => (fle_gd (fle_let fun _ => (fle_gd (fle_let fun _ => (fle_gd (fle_let fun _ => (fle_gd (fle_let fun _ => (fle_gd (fle_let fun _ => (fle_gd (fle_let fun _ => (fle_gd (fle_let fun _ => (mJ277 _ _ _)))))))))))))))))))))))
set_option maxRecDepth 100000 in
set_option maxHeartbeats 0 in
theorem nBX12_act_163 {J277 : Int32 → Int32 → ea_H → Option (Int32 × ea_H)} {J277_ : Nat → (Int32 → Int32 → ea_H → Option (Int32 × ea_H))}  (mJ277 : ∀ (x3 : Int32) (x4 : Int32) (h : ea_H), fct (J277 x3 x4 h) (fun f => J277_ f x3 x4 h)) {x1 : Int32} {x2 : Int32} {sx0 : Int32} {h : ea_H} : fct (BX12_act_163 J277 x1 x2 sx0 h) (fun f => BX12_act_163 (J277_ f) x1 x2 sx0 h) :=
  (fct_let fun _ => (fct_ite (fct_rfl _) (fct_let fun _ => (fct_let fun _ => (fct_gd (fct_let fun _ => (fct_gd (fct_let fun _ => (fct_gd (fct_let fun _ => (fct_gd (fct_let fun _ => (fct_gd (fct_let fun _ => (fct_gd (fct_let fun _ => (fct_gd (fct_let fun _ => (fct_gd (fct_let fun _ => (fct_gd (fct_let fun _ => (mJ277 _ _ _)))))))))))))))))))))))
noncomputable def BX12_act_277 (J277 : Int32 → Int32 → ea_H → Option (Int32 × ea_H)) (J351 : Int32 → Int32 → ea_H → Option (Int32 × ea_H)) (x3 : Int32) (x4 : Int32) (h : ea_H) : Option (Int32 × ea_H) :=
  (if (ea_i h 326 44) ≤ x4 then (gd (vp_in (((25 : Int32) * x3) + (ea_i h 326 44)) 150) (ea_let (ea_wi h 356 (Int32.toNatClampNeg (((25 : Int32) * x3) + (ea_i h 326 44))) (ea_i h 326 45)) fun H53 => (J351 (x3 : Int32) (0 : Int32) H53))) else (gd (vp_in x4 25) (gd (vp_in (((25 : Int32) * x3) + x4) 150) (ea_let (ea_wi h 356 (Int32.toNatClampNeg (((25 : Int32) * x3) + x4)) (ea_i h 359 (Int32.toNatClampNeg x4))) fun H56 => (gd (vp_in x4 24) (gd (vp_in (((24 : Int32) * x3) + x4) 144) (ea_let (ea_wi H56 357 (Int32.toNatClampNeg (((24 : Int32) * x3) + x4)) (ea_i H56 360 (Int32.toNatClampNeg x4))) fun H59 => (J277 (x3 : Int32) ((x4 + (1 : Int32)) : Int32) H59))))))))
set_option maxRecDepth 100000 in
set_option maxHeartbeats 0 in
theorem tBX12_act_277 {d : Nat} {h0 : ea_H} (hd : 97 ≤ d) {J277 : Int32 → Int32 → ea_H → Option (Int32 × ea_H)} {J351 : Int32 → Int32 → ea_H → Option (Int32 × ea_H)}  (kJ277 : ∀ (x3 : Int32) (x4 : Int32) (h : ea_H) (r : Int32) (h' : ea_H), J277 x3 x4 h = some (r, h') → ShM h → ea_W mX12_act d h0 (some (vI r)) h' 277 [(0, vR (some 326)), (3, vI x3), (4, vI x4)] [] h) (kJ351 : ∀ (x3 : Int32) (x4 : Int32) (h : ea_H) (r : Int32) (h' : ea_H), J351 x3 x4 h = some (r, h') → ShM h → ea_W mX12_act d h0 (some (vI r)) h' 351 [(0, vR (some 326)), (3, vI x3), (4, vI x4)] [] h) {x3 : Int32} {x4 : Int32} {h : ea_H} {r : Int32} {h' : ea_H} (E : BX12_act_277 J277 J351 x3 x4 h = some (r, h')) (hs : ShM h) : ea_W mX12_act d h0 (some (vI r)) h' 277 [(0, vR (some 326)), (3, vI x3), (4, vI x4)] [] h := by
  unfold BX12_act_277 at E
  refine ea_iload (pc := 277) dX12_act_277 2 rfl ?_
  refine ea_aload_n (pc := 279) dX12_act_279 rfl 0 rfl ?_
  refine ea_getI (pc := 280) dX12_act_280 ec_12 (k := 44) (Nat.le_of_ble_eq_true rfl) rfl (Or.inl ew_1446) (cShM_326 hs).1 (cShM_326 hs).2.1 ?_
  refine ea_icmp_ge (pc := 283) (tgt := 330) dX12_act_283 rfl (fun c60 => ?_) (fun c60 => ?_)
  · have E := (if_pos c60).symm.trans E
    obtain ⟨z52, E⟩ := gd_some E
    refine ea_aload_n (pc := 330) dX12_act_330 rfl 0 rfl ?_
    refine ea_getR (pc := 331) dX12_act_331 ec_12 (k := 35) (Nat.le_of_ble_eq_true rfl) rfl (Or.inl ew_1437) (cShM_326 hs).1 (cShM_326 hs).2.1 (rShM_326_35 hs) ?_
    refine ea_bipush (pc := 334) dX12_act_334 (v := 25) rfl ?_
    refine ea_iload_n (pc := 336) dX12_act_336 rfl 1 rfl ?_
    refine ea_imul (pc := 337) dX12_act_337 ?_
    refine ea_aload_n (pc := 338) dX12_act_338 rfl 0 rfl ?_
    refine ea_getI (pc := 339) dX12_act_339 ec_12 (k := 44) (Nat.le_of_ble_eq_true rfl) rfl (Or.inl ew_1446) (cShM_326 hs).1 (cShM_326 hs).2.1 ?_
    refine ea_iadd (pc := 342) dX12_act_342 ?_
    refine ea_aload_n (pc := 343) dX12_act_343 rfl 0 rfl ?_
    refine ea_getI (pc := 344) dX12_act_344 ec_12 (k := 45) (Nat.le_of_ble_eq_true rfl) rfl (Or.inl ew_1447) (cShM_326 hs).1 (cShM_326 hs).2.1 ?_
    obtain ⟨H53, eH53, E⟩ := let_some E
    refine ea_iast (pc := 347) dX12_act_347 (cShM_356 hs).1 (cShM_356 hs).2.1 (ea_vpl (cShM_356 hs).2.2 z52) ?_
    refine ea_nm eH53 ?_
    have hsH53 : ShM H53 := by rw [eH53]; exact hs
    refine ea_iconst (pc := 348) dX12_act_348 (v := 0) rfl ?_
    refine ea_istore (pc := 349) (lv' := [(0, vR (some 326)), (3, vI x3), (4, vI 0)]) dX12_act_349 (Nat.le_of_ble_eq_true rfl) [1, 2, 0] rfl ?_
    exact (kJ351 (x3 : Int32) (0 : Int32) H53 _ _ E hsH53)
  · have E := (if_neg c60).symm.trans E
    obtain ⟨z54, E⟩ := gd_some E
    refine ea_aload_n (pc := 286) dX12_act_286 rfl 0 rfl ?_
    refine ea_getR (pc := 287) dX12_act_287 ec_12 (k := 35) (Nat.le_of_ble_eq_true rfl) rfl (Or.inl ew_1437) (cShM_326 hs).1 (cShM_326 hs).2.1 (rShM_326_35 hs) ?_
    refine ea_bipush (pc := 290) dX12_act_290 (v := 25) rfl ?_
    refine ea_iload_n (pc := 292) dX12_act_292 rfl 1 rfl ?_
    refine ea_imul (pc := 293) dX12_act_293 ?_
    refine ea_iload (pc := 294) dX12_act_294 2 rfl ?_
    refine ea_iadd (pc := 296) dX12_act_296 ?_
    refine ea_aload_n (pc := 297) dX12_act_297 rfl 0 rfl ?_
    refine ea_getR (pc := 298) dX12_act_298 ec_12 (k := 38) (Nat.le_of_ble_eq_true rfl) rfl (Or.inl ew_1440) (cShM_326 hs).1 (cShM_326 hs).2.1 (rShM_326_38 hs) ?_
    refine ea_iload (pc := 301) dX12_act_301 2 rfl ?_
    obtain ⟨z55, E⟩ := gd_some E
    refine ea_iald (pc := 303) dX12_act_303 (cShM_359 hs).1 (cShM_359 hs).2.1 (ea_vpl (cShM_359 hs).2.2 z54) ?_
    obtain ⟨H56, eH56, E⟩ := let_some E
    refine ea_iast (pc := 304) dX12_act_304 (cShM_356 hs).1 (cShM_356 hs).2.1 (ea_vpl (cShM_356 hs).2.2 z55) ?_
    refine ea_nm eH56 ?_
    have hsH56 : ShM H56 := by rw [eH56]; exact hs
    obtain ⟨z57, E⟩ := gd_some E
    refine ea_aload_n (pc := 305) dX12_act_305 rfl 0 rfl ?_
    refine ea_getR (pc := 306) dX12_act_306 ec_12 (k := 36) (Nat.le_of_ble_eq_true rfl) rfl (Or.inl ew_1438) (cShM_326 hsH56).1 (cShM_326 hsH56).2.1 (rShM_326_36 hsH56) ?_
    refine ea_bipush (pc := 309) dX12_act_309 (v := 24) rfl ?_
    refine ea_iload_n (pc := 311) dX12_act_311 rfl 1 rfl ?_
    refine ea_imul (pc := 312) dX12_act_312 ?_
    refine ea_iload (pc := 313) dX12_act_313 2 rfl ?_
    refine ea_iadd (pc := 315) dX12_act_315 ?_
    refine ea_aload_n (pc := 316) dX12_act_316 rfl 0 rfl ?_
    refine ea_getR (pc := 317) dX12_act_317 ec_12 (k := 39) (Nat.le_of_ble_eq_true rfl) rfl (Or.inl ew_1441) (cShM_326 hsH56).1 (cShM_326 hsH56).2.1 (rShM_326_39 hsH56) ?_
    refine ea_iload (pc := 320) dX12_act_320 2 rfl ?_
    obtain ⟨z58, E⟩ := gd_some E
    refine ea_iald (pc := 322) dX12_act_322 (cShM_360 hsH56).1 (cShM_360 hsH56).2.1 (ea_vpl (cShM_360 hsH56).2.2 z57) ?_
    obtain ⟨H59, eH59, E⟩ := let_some E
    refine ea_iast (pc := 323) dX12_act_323 (cShM_357 hsH56).1 (cShM_357 hsH56).2.1 (ea_vpl (cShM_357 hsH56).2.2 z58) ?_
    refine ea_nm eH59 ?_
    have hsH59 : ShM H59 := by rw [eH59]; exact hsH56
    refine ea_iinc (pc := 324) (v := 1) (lv' := [(0, vR (some 326)), (3, vI x3), (4, vI (x4 + (1 : Int32)))]) dX12_act_324 2 rfl rfl (Nat.le_of_ble_eq_true rfl) [1, 2, 0] rfl ?_
    refine ea_goto (pc := 327) (tgt := 277) dX12_act_327 rfl ?_
    exact (kJ277 (x3 : Int32) ((x4 + (1 : Int32)) : Int32) H59 _ _ E hsH59)
set_option maxRecDepth 100000 in
set_option maxHeartbeats 0 in
theorem kBX12_act_277 {J277 : Int32 → Int32 → ea_H → Option (Int32 × ea_H)} {J351 : Int32 → Int32 → ea_H → Option (Int32 × ea_H)}  (cJ277 : ∀ (x3 : Int32) (x4 : Int32) (h : ea_H), kp (ea_core h) (J277 x3 x4 h)) (cJ351 : ∀ (x3 : Int32) (x4 : Int32) (h : ea_H), kp (ea_core h) (J351 x3 x4 h)) {x3 : Int32} {x4 : Int32} {h : ea_H} : kp (ea_core h) (BX12_act_277 J277 J351 x3 x4 h) :=
  (kp_ite (kp_gd (kp_let (kp_tw (cJ351 _ _ _) rfl))) (kp_gd (kp_gd (kp_let (kp_gd (kp_gd (kp_let (kp_tw (cJ277 _ _ _) rfl))))))))
set_option maxRecDepth 100000 in
set_option maxHeartbeats 0 in
theorem lBX12_act_277 {J277 : Int32 → Int32 → ea_H → Option (Int32 × ea_H)} {J351 : Int32 → Int32 → ea_H → Option (Int32 × ea_H)} {J277_ : Int32 → Int32 → ea_H → Option (Int32 × ea_H)} {J351_ : Int32 → Int32 → ea_H → Option (Int32 × ea_H)}  (mJ277 : ∀ (x3 : Int32) (x4 : Int32) (h : ea_H), fle (J277 x3 x4 h) (J277_ x3 x4 h)) (mJ351 : ∀ (x3 : Int32) (x4 : Int32) (h : ea_H), fle (J351 x3 x4 h) (J351_ x3 x4 h)) {x3 : Int32} {x4 : Int32} {h : ea_H} : fle (BX12_act_277 J277 J351 x3 x4 h) (BX12_act_277 J277_ J351_ x3 x4 h) :=
  (fle_ite (fle_gd (fle_let fun _ => (mJ351 _ _ _))) (fle_gd (fle_gd (fle_let fun _ => (fle_gd (fle_gd (fle_let fun _ => (mJ277 _ _ _))))))))
set_option maxRecDepth 100000 in
set_option maxHeartbeats 0 in
theorem nBX12_act_277 {J277 : Int32 → Int32 → ea_H → Option (Int32 × ea_H)} {J351 : Int32 → Int32 → ea_H → Option (Int32 × ea_H)} {J277_ : Nat → (Int32 → Int32 → ea_H → Option (Int32 × ea_H))} {J351_ : Nat → (Int32 → Int32 → ea_H → Option (Int32 × ea_H))}  (mJ277 : ∀ (x3 : Int32) (x4 : Int32) (h : ea_H), fct (J277 x3 x4 h) (fun f => J277_ f x3 x4 h)) (mJ351 : ∀ (x3 : Int32) (x4 : Int32) (h : ea_H), fct (J351 x3 x4 h) (fun f => J351_ f x3 x4 h)) {x3 : Int32} {x4 : Int32} {h : ea_H} : fct (BX12_act_277 J277 J351 x3 x4 h) (fun f => BX12_act_277 (J277_ f) (J351_ f) x3 x4 h) :=
  (fct_ite (fct_gd (fct_let fun _ => (mJ351 _ _ _))) (fct_gd (fct_gd (fct_let fun _ => (fct_gd (fct_gd (fct_let fun _ => (mJ277 _ _ _))))))))
noncomputable def BX12_act_351 (J351 : Int32 → Int32 → ea_H → Option (Int32 × ea_H)) (x3 : Int32) (x4 : Int32) (h : ea_H) : Option (Int32 × ea_H) :=
  (if ((2 : Int32) * (ea_i h 326 45)) ≤ x4 then (some (x3, h)) else (gd (vp_in x4 1220) (gd (vp_in (((1220 : Int32) * x3) + x4) 7320) (ea_let (ea_wi h 358 (Int32.toNatClampNeg (((1220 : Int32) * x3) + x4)) (ea_i h 361 (Int32.toNatClampNeg x4))) fun H63 => (J351 (x3 : Int32) ((x4 + (1 : Int32)) : Int32) H63)))))
set_option maxRecDepth 100000 in
set_option maxHeartbeats 0 in
theorem tBX12_act_351 {d : Nat} {h0 : ea_H} (hd : 97 ≤ d) {J351 : Int32 → Int32 → ea_H → Option (Int32 × ea_H)}  (kJ351 : ∀ (x3 : Int32) (x4 : Int32) (h : ea_H) (r : Int32) (h' : ea_H), J351 x3 x4 h = some (r, h') → ShM h → ea_W mX12_act d h0 (some (vI r)) h' 351 [(0, vR (some 326)), (3, vI x3), (4, vI x4)] [] h) {x3 : Int32} {x4 : Int32} {h : ea_H} {r : Int32} {h' : ea_H} (E : BX12_act_351 J351 x3 x4 h = some (r, h')) (hs : ShM h) : ea_W mX12_act d h0 (some (vI r)) h' 351 [(0, vR (some 326)), (3, vI x3), (4, vI x4)] [] h := by
  unfold BX12_act_351 at E
  refine ea_iload (pc := 351) dX12_act_351 2 rfl ?_
  refine ea_iconst (pc := 353) dX12_act_353 (v := 2) rfl ?_
  refine ea_aload_n (pc := 354) dX12_act_354 rfl 0 rfl ?_
  refine ea_getI (pc := 355) dX12_act_355 ec_12 (k := 45) (Nat.le_of_ble_eq_true rfl) rfl (Or.inl ew_1447) (cShM_326 hs).1 (cShM_326 hs).2.1 ?_
  refine ea_imul (pc := 358) dX12_act_358 ?_
  refine ea_icmp_ge (pc := 359) (tgt := 388) dX12_act_359 rfl (fun c64 => ?_) (fun c64 => ?_)
  · have E := (if_pos c64).symm.trans E
    refine ea_iload_n (pc := 388) dX12_act_388 rfl 1 rfl ?_
    exact ea_iretO (pc := 389) dX12_act_389 rfl rfl E
  · have E := (if_neg c64).symm.trans E
    obtain ⟨z61, E⟩ := gd_some E
    refine ea_aload_n (pc := 362) dX12_act_362 rfl 0 rfl ?_
    refine ea_getR (pc := 363) dX12_act_363 ec_12 (k := 37) (Nat.le_of_ble_eq_true rfl) rfl (Or.inl ew_1439) (cShM_326 hs).1 (cShM_326 hs).2.1 (rShM_326_37 hs) ?_
    refine ea_sipush (pc := 366) dX12_act_366 (v := 1220) rfl ?_
    refine ea_iload_n (pc := 369) dX12_act_369 rfl 1 rfl ?_
    refine ea_imul (pc := 370) dX12_act_370 ?_
    refine ea_iload (pc := 371) dX12_act_371 2 rfl ?_
    refine ea_iadd (pc := 373) dX12_act_373 ?_
    refine ea_aload_n (pc := 374) dX12_act_374 rfl 0 rfl ?_
    refine ea_getR (pc := 375) dX12_act_375 ec_12 (k := 40) (Nat.le_of_ble_eq_true rfl) rfl (Or.inl ew_1442) (cShM_326 hs).1 (cShM_326 hs).2.1 (rShM_326_40 hs) ?_
    refine ea_iload (pc := 378) dX12_act_378 2 rfl ?_
    obtain ⟨z62, E⟩ := gd_some E
    refine ea_iald (pc := 380) dX12_act_380 (cShM_361 hs).1 (cShM_361 hs).2.1 (ea_vpl (cShM_361 hs).2.2 z61) ?_
    obtain ⟨H63, eH63, E⟩ := let_some E
    refine ea_iast (pc := 381) dX12_act_381 (cShM_358 hs).1 (cShM_358 hs).2.1 (ea_vpl (cShM_358 hs).2.2 z62) ?_
    refine ea_nm eH63 ?_
    have hsH63 : ShM H63 := by rw [eH63]; exact hs
    refine ea_iinc (pc := 382) (v := 1) (lv' := [(0, vR (some 326)), (3, vI x3), (4, vI (x4 + (1 : Int32)))]) dX12_act_382 2 rfl rfl (Nat.le_of_ble_eq_true rfl) [1, 2, 0] rfl ?_
    refine ea_goto (pc := 385) (tgt := 351) dX12_act_385 rfl ?_
    exact (kJ351 (x3 : Int32) ((x4 + (1 : Int32)) : Int32) H63 _ _ E hsH63)
set_option maxRecDepth 100000 in
set_option maxHeartbeats 0 in
theorem kBX12_act_351 {J351 : Int32 → Int32 → ea_H → Option (Int32 × ea_H)}  (cJ351 : ∀ (x3 : Int32) (x4 : Int32) (h : ea_H), kp (ea_core h) (J351 x3 x4 h)) {x3 : Int32} {x4 : Int32} {h : ea_H} : kp (ea_core h) (BX12_act_351 J351 x3 x4 h) :=
  (kp_ite (kp_ret rfl) (kp_gd (kp_gd (kp_let (kp_tw (cJ351 _ _ _) rfl)))))
set_option maxRecDepth 100000 in
set_option maxHeartbeats 0 in
theorem lBX12_act_351 {J351 : Int32 → Int32 → ea_H → Option (Int32 × ea_H)} {J351_ : Int32 → Int32 → ea_H → Option (Int32 × ea_H)}  (mJ351 : ∀ (x3 : Int32) (x4 : Int32) (h : ea_H), fle (J351 x3 x4 h) (J351_ x3 x4 h)) {x3 : Int32} {x4 : Int32} {h : ea_H} : fle (BX12_act_351 J351 x3 x4 h) (BX12_act_351 J351_ x3 x4 h) :=
  (fle_ite (fle_rfl _) (fle_gd (fle_gd (fle_let fun _ => (mJ351 _ _ _)))))
set_option maxRecDepth 100000 in
set_option maxHeartbeats 0 in
theorem nBX12_act_351 {J351 : Int32 → Int32 → ea_H → Option (Int32 × ea_H)} {J351_ : Nat → (Int32 → Int32 → ea_H → Option (Int32 × ea_H))}  (mJ351 : ∀ (x3 : Int32) (x4 : Int32) (h : ea_H), fct (J351 x3 x4 h) (fun f => J351_ f x3 x4 h)) {x3 : Int32} {x4 : Int32} {h : ea_H} : fct (BX12_act_351 J351 x3 x4 h) (fun f => BX12_act_351 (J351_ f) x3 x4 h) :=
  (fct_ite (fct_rfl _) (fct_gd (fct_gd (fct_let fun _ => (mJ351 _ _ _)))))
noncomputable def gX12_act : Nat → (Int32 → ea_H → Option (Int32 × ea_H)) × (Int32 → ea_H → Option (Int32 × ea_H)) × (Int32 → Int32 → ea_H → Option (Int32 × ea_H)) × (Int32 → Int32 → ea_H → Option (Int32 × ea_H)) × (Int32 → Int32 → Int32 → ea_H → Option (Int32 × ea_H)) × (Int32 → Int32 → ea_H → Option (Int32 × ea_H)) × (Int32 → Int32 → ea_H → Option (Int32 × ea_H))
  | 0 => (fun _ _ => none, fun _ _ => none, fun _ _ _ => none, fun _ _ _ => none, fun _ _ _ _ => none, fun _ _ _ => none, fun _ _ _ => none)
  | f + 1 => (BX12_act_0 (gX12_act f).2.1, BX12_act_55 (gX12_act f).2.2.1, BX12_act_118 (gX12_act f).2.2.1 (gX12_act f).2.2.2.1, BX12_act_137 (gX12_act f).2.2.2.2.1, BX12_act_163 (gX12_act f).2.2.2.2.2.1, BX12_act_277 (gX12_act f).2.2.2.2.2.1 (gX12_act f).2.2.2.2.2.2, BX12_act_351 (gX12_act f).2.2.2.2.2.2)
theorem mgX12_act : ∀ f : Nat, (∀ (x1 : Int32) (h : ea_H), fle ((gX12_act f).1 x1 h) ((gX12_act (f + 1)).1 x1 h)) ∧ (∀ (x1 : Int32) (h : ea_H), fle ((gX12_act f).2.1 x1 h) ((gX12_act (f + 1)).2.1 x1 h)) ∧ (∀ (x1 : Int32) (x2 : Int32) (h : ea_H), fle ((gX12_act f).2.2.1 x1 x2 h) ((gX12_act (f + 1)).2.2.1 x1 x2 h)) ∧ (∀ (x1 : Int32) (x2 : Int32) (h : ea_H), fle ((gX12_act f).2.2.2.1 x1 x2 h) ((gX12_act (f + 1)).2.2.2.1 x1 x2 h)) ∧ (∀ (x1 : Int32) (x2 : Int32) (sx0 : Int32) (h : ea_H), fle ((gX12_act f).2.2.2.2.1 x1 x2 sx0 h) ((gX12_act (f + 1)).2.2.2.2.1 x1 x2 sx0 h)) ∧ (∀ (x3 : Int32) (x4 : Int32) (h : ea_H), fle ((gX12_act f).2.2.2.2.2.1 x3 x4 h) ((gX12_act (f + 1)).2.2.2.2.2.1 x3 x4 h)) ∧ (∀ (x3 : Int32) (x4 : Int32) (h : ea_H), fle ((gX12_act f).2.2.2.2.2.2 x3 x4 h) ((gX12_act (f + 1)).2.2.2.2.2.2 x3 x4 h)) := by
  intro f
  induction f with
  | zero => exact ⟨fun _ _ => fle_none _, fun _ _ => fle_none _, fun _ _ _ => fle_none _, fun _ _ _ => fle_none _, fun _ _ _ _ => fle_none _, fun _ _ _ => fle_none _, fun _ _ _ => fle_none _⟩
  | succ f ih => exact ⟨fun _ _ => lBX12_act_0 ih.2.1, fun _ _ => lBX12_act_55 ih.2.2.1, fun _ _ _ => lBX12_act_118 ih.2.2.1 ih.2.2.2.1, fun _ _ _ => lBX12_act_137 ih.2.2.2.2.1, fun _ _ _ _ => lBX12_act_163 ih.2.2.2.2.2.1, fun _ _ _ => lBX12_act_277 ih.2.2.2.2.2.1 ih.2.2.2.2.2.2, fun _ _ _ => lBX12_act_351 ih.2.2.2.2.2.2⟩
noncomputable def qX12_act_0 (x1 : Int32) (h : ea_H) : Option (Int32 × ea_H) := flim fun f => (gX12_act f).1 x1 h
noncomputable def qX12_act_55 (x1 : Int32) (h : ea_H) : Option (Int32 × ea_H) := flim fun f => (gX12_act f).2.1 x1 h
noncomputable def qX12_act_118 (x1 : Int32) (x2 : Int32) (h : ea_H) : Option (Int32 × ea_H) := flim fun f => (gX12_act f).2.2.1 x1 x2 h
noncomputable def qX12_act_137 (x1 : Int32) (x2 : Int32) (h : ea_H) : Option (Int32 × ea_H) := flim fun f => (gX12_act f).2.2.2.1 x1 x2 h
noncomputable def qX12_act_163 (x1 : Int32) (x2 : Int32) (sx0 : Int32) (h : ea_H) : Option (Int32 × ea_H) := flim fun f => (gX12_act f).2.2.2.2.1 x1 x2 sx0 h
noncomputable def qX12_act_277 (x3 : Int32) (x4 : Int32) (h : ea_H) : Option (Int32 × ea_H) := flim fun f => (gX12_act f).2.2.2.2.2.1 x3 x4 h
noncomputable def qX12_act_351 (x3 : Int32) (x4 : Int32) (h : ea_H) : Option (Int32 × ea_H) := flim fun f => (gX12_act f).2.2.2.2.2.2 x3 x4 h
theorem fqX12_act_0 (x1 : Int32) (h : ea_H) : fct (qX12_act_0 x1 h) fun f => (gX12_act f).1 x1 h := flim_ct fun f => (mgX12_act f).1 x1 h
theorem fqX12_act_55 (x1 : Int32) (h : ea_H) : fct (qX12_act_55 x1 h) fun f => (gX12_act f).2.1 x1 h := flim_ct fun f => (mgX12_act f).2.1 x1 h
theorem fqX12_act_118 (x1 : Int32) (x2 : Int32) (h : ea_H) : fct (qX12_act_118 x1 x2 h) fun f => (gX12_act f).2.2.1 x1 x2 h := flim_ct fun f => (mgX12_act f).2.2.1 x1 x2 h
theorem fqX12_act_137 (x1 : Int32) (x2 : Int32) (h : ea_H) : fct (qX12_act_137 x1 x2 h) fun f => (gX12_act f).2.2.2.1 x1 x2 h := flim_ct fun f => (mgX12_act f).2.2.2.1 x1 x2 h
theorem fqX12_act_163 (x1 : Int32) (x2 : Int32) (sx0 : Int32) (h : ea_H) : fct (qX12_act_163 x1 x2 sx0 h) fun f => (gX12_act f).2.2.2.2.1 x1 x2 sx0 h := flim_ct fun f => (mgX12_act f).2.2.2.2.1 x1 x2 sx0 h
theorem fqX12_act_277 (x3 : Int32) (x4 : Int32) (h : ea_H) : fct (qX12_act_277 x3 x4 h) fun f => (gX12_act f).2.2.2.2.2.1 x3 x4 h := flim_ct fun f => (mgX12_act f).2.2.2.2.2.1 x3 x4 h
theorem fqX12_act_351 (x3 : Int32) (x4 : Int32) (h : ea_H) : fct (qX12_act_351 x3 x4 h) fun f => (gX12_act f).2.2.2.2.2.2 x3 x4 h := flim_ct fun f => (mgX12_act f).2.2.2.2.2.2 x3 x4 h
/-- how a block opens -/
theorem uqX12_act_0 {x1 : Int32} {h : ea_H} {P : Int32 × ea_H → Prop} (H : sat (BX12_act_0 qX12_act_55 x1 h) P) : sat (qX12_act_0 x1 h) P := by
  obtain ⟨x, e, hp⟩ := H
  obtain ⟨n, hn⟩ := nBX12_act_0 fqX12_act_55 x e
  exact ⟨x, flim_at (fun f => (mgX12_act f).1 x1 h) (f := n + 1) (hn n (Nat.le_refl _)), hp⟩
/-- how a block opens -/
theorem uqX12_act_55 {x1 : Int32} {h : ea_H} {P : Int32 × ea_H → Prop} (H : sat (BX12_act_55 qX12_act_118 x1 h) P) : sat (qX12_act_55 x1 h) P := by
  obtain ⟨x, e, hp⟩ := H
  obtain ⟨n, hn⟩ := nBX12_act_55 fqX12_act_118 x e
  exact ⟨x, flim_at (fun f => (mgX12_act f).2.1 x1 h) (f := n + 1) (hn n (Nat.le_refl _)), hp⟩
/-- how a block opens -/
theorem uqX12_act_118 {x1 : Int32} {x2 : Int32} {h : ea_H} {P : Int32 × ea_H → Prop} (H : sat (BX12_act_118 qX12_act_118 qX12_act_137 x1 x2 h) P) : sat (qX12_act_118 x1 x2 h) P := by
  obtain ⟨x, e, hp⟩ := H
  obtain ⟨n, hn⟩ := nBX12_act_118 fqX12_act_118 fqX12_act_137 x e
  exact ⟨x, flim_at (fun f => (mgX12_act f).2.2.1 x1 x2 h) (f := n + 1) (hn n (Nat.le_refl _)), hp⟩
/-- how a block opens -/
theorem uqX12_act_137 {x1 : Int32} {x2 : Int32} {h : ea_H} {P : Int32 × ea_H → Prop} (H : sat (BX12_act_137 qX12_act_163 x1 x2 h) P) : sat (qX12_act_137 x1 x2 h) P := by
  obtain ⟨x, e, hp⟩ := H
  obtain ⟨n, hn⟩ := nBX12_act_137 fqX12_act_163 x e
  exact ⟨x, flim_at (fun f => (mgX12_act f).2.2.2.1 x1 x2 h) (f := n + 1) (hn n (Nat.le_refl _)), hp⟩
/-- how a block opens -/
theorem uqX12_act_163 {x1 : Int32} {x2 : Int32} {sx0 : Int32} {h : ea_H} {P : Int32 × ea_H → Prop} (H : sat (BX12_act_163 qX12_act_277 x1 x2 sx0 h) P) : sat (qX12_act_163 x1 x2 sx0 h) P := by
  obtain ⟨x, e, hp⟩ := H
  obtain ⟨n, hn⟩ := nBX12_act_163 fqX12_act_277 x e
  exact ⟨x, flim_at (fun f => (mgX12_act f).2.2.2.2.1 x1 x2 sx0 h) (f := n + 1) (hn n (Nat.le_refl _)), hp⟩
/-- how a block opens -/
theorem uqX12_act_277 {x3 : Int32} {x4 : Int32} {h : ea_H} {P : Int32 × ea_H → Prop} (H : sat (BX12_act_277 qX12_act_277 qX12_act_351 x3 x4 h) P) : sat (qX12_act_277 x3 x4 h) P := by
  obtain ⟨x, e, hp⟩ := H
  obtain ⟨n, hn⟩ := nBX12_act_277 fqX12_act_277 fqX12_act_351 x e
  exact ⟨x, flim_at (fun f => (mgX12_act f).2.2.2.2.2.1 x3 x4 h) (f := n + 1) (hn n (Nat.le_refl _)), hp⟩
/-- how a block opens -/
theorem uqX12_act_351 {x3 : Int32} {x4 : Int32} {h : ea_H} {P : Int32 × ea_H → Prop} (H : sat (BX12_act_351 qX12_act_351 x3 x4 h) P) : sat (qX12_act_351 x3 x4 h) P := by
  obtain ⟨x, e, hp⟩ := H
  obtain ⟨n, hn⟩ := nBX12_act_351 fqX12_act_351 x e
  exact ⟨x, flim_at (fun f => (mgX12_act f).2.2.2.2.2.2 x3 x4 h) (f := n + 1) (hn n (Nat.le_refl _)), hp⟩
theorem kgX12_act : ∀ f : Nat, (∀ (x1 : Int32) (h : ea_H), kp (ea_core h) ((gX12_act f).1 x1 h)) ∧ (∀ (x1 : Int32) (h : ea_H), kp (ea_core h) ((gX12_act f).2.1 x1 h)) ∧ (∀ (x1 : Int32) (x2 : Int32) (h : ea_H), kp (ea_core h) ((gX12_act f).2.2.1 x1 x2 h)) ∧ (∀ (x1 : Int32) (x2 : Int32) (h : ea_H), kp (ea_core h) ((gX12_act f).2.2.2.1 x1 x2 h)) ∧ (∀ (x1 : Int32) (x2 : Int32) (sx0 : Int32) (h : ea_H), kp (ea_core h) ((gX12_act f).2.2.2.2.1 x1 x2 sx0 h)) ∧ (∀ (x3 : Int32) (x4 : Int32) (h : ea_H), kp (ea_core h) ((gX12_act f).2.2.2.2.2.1 x3 x4 h)) ∧ (∀ (x3 : Int32) (x4 : Int32) (h : ea_H), kp (ea_core h) ((gX12_act f).2.2.2.2.2.2 x3 x4 h)) := by
  intro f
  induction f with
  | zero => exact ⟨fun _ _ => kp_none _, fun _ _ => kp_none _, fun _ _ _ => kp_none _, fun _ _ _ => kp_none _, fun _ _ _ _ => kp_none _, fun _ _ _ => kp_none _, fun _ _ _ => kp_none _⟩
  | succ f ih => exact ⟨fun _ _ => kBX12_act_0 ih.2.1, fun _ _ => kBX12_act_55 ih.2.2.1, fun _ _ _ => kBX12_act_118 ih.2.2.1 ih.2.2.2.1, fun _ _ _ => kBX12_act_137 ih.2.2.2.2.1, fun _ _ _ _ => kBX12_act_163 ih.2.2.2.2.2.1, fun _ _ _ => kBX12_act_277 ih.2.2.2.2.2.1 ih.2.2.2.2.2.2, fun _ _ _ => kBX12_act_351 ih.2.2.2.2.2.2⟩
theorem tgX12_act {d : Nat} {h0 : ea_H} (hd : 97 ≤ d) : ∀ f : Nat, (∀ (x1 : Int32) (h : ea_H) (r : Int32) (h' : ea_H), (gX12_act f).1 x1 h = some (r, h') → ShM h → ea_W mX12_act d h0 (some (vI r)) h' 0 [(0, vR (some 326)), (1, vI x1)] [] h) ∧ (∀ (x1 : Int32) (h : ea_H) (r : Int32) (h' : ea_H), (gX12_act f).2.1 x1 h = some (r, h') → ShM h → ea_W mX12_act d h0 (some (vI r)) h' 55 [(0, vR (some 326)), (1, vI x1)] [] h) ∧ (∀ (x1 : Int32) (x2 : Int32) (h : ea_H) (r : Int32) (h' : ea_H), (gX12_act f).2.2.1 x1 x2 h = some (r, h') → ShM h → ea_W mX12_act d h0 (some (vI r)) h' 118 [(0, vR (some 326)), (1, vI x1), (2, vI x2)] [] h) ∧ (∀ (x1 : Int32) (x2 : Int32) (h : ea_H) (r : Int32) (h' : ea_H), (gX12_act f).2.2.2.1 x1 x2 h = some (r, h') → ShM h → ea_W mX12_act d h0 (some (vI r)) h' 137 [(0, vR (some 326)), (1, vI x1), (2, vI x2)] [] h) ∧ (∀ (x1 : Int32) (x2 : Int32) (sx0 : Int32) (h : ea_H) (r : Int32) (h' : ea_H), (gX12_act f).2.2.2.2.1 x1 x2 sx0 h = some (r, h') → ShM h → ea_W mX12_act d h0 (some (vI r)) h' 163 [(0, vR (some 326)), (1, vI x1), (2, vI x2)] [vI sx0, vR (some 326)] h) ∧ (∀ (x3 : Int32) (x4 : Int32) (h : ea_H) (r : Int32) (h' : ea_H), (gX12_act f).2.2.2.2.2.1 x3 x4 h = some (r, h') → ShM h → ea_W mX12_act d h0 (some (vI r)) h' 277 [(0, vR (some 326)), (3, vI x3), (4, vI x4)] [] h) ∧ (∀ (x3 : Int32) (x4 : Int32) (h : ea_H) (r : Int32) (h' : ea_H), (gX12_act f).2.2.2.2.2.2 x3 x4 h = some (r, h') → ShM h → ea_W mX12_act d h0 (some (vI r)) h' 351 [(0, vR (some 326)), (3, vI x3), (4, vI x4)] [] h) := by
  intro f
  induction f with
  | zero => exact ⟨fun _ _ _ _ E => no_some E, fun _ _ _ _ E => no_some E, fun _ _ _ _ _ E => no_some E, fun _ _ _ _ _ E => no_some E, fun _ _ _ _ _ _ E => no_some E, fun _ _ _ _ _ E => no_some E, fun _ _ _ _ _ E => no_some E⟩
  | succ f ih => exact ⟨fun _ _ _ _ E hs => tBX12_act_0 hd ih.2.1 E hs, fun _ _ _ _ E hs => tBX12_act_55 hd ih.2.2.1 E hs, fun _ _ _ _ _ E hs => tBX12_act_118 hd ih.2.2.1 ih.2.2.2.1 E hs, fun _ _ _ _ _ E hs => tBX12_act_137 hd ih.2.2.2.2.1 E hs, fun _ _ _ _ _ _ E hs => tBX12_act_163 hd ih.2.2.2.2.2.1 E hs, fun _ _ _ _ _ E hs => tBX12_act_277 hd ih.2.2.2.2.2.1 ih.2.2.2.2.2.2 E hs, fun _ _ _ _ _ E hs => tBX12_act_351 hd ih.2.2.2.2.2.2 E hs⟩
noncomputable def qX12_act (x1 : Int32) (h : ea_H) : Option (Int32 × ea_H) := qX12_act_0 x1 h
theorem sX12_act {d : Nat} {x1 : Int32} {h : ea_H} {r : Int32} {h' : ea_H} (hd : 97 ≤ d) (hs : ShM h) (K : qX12_act x1 h = some (r, h')) : ea_Met mX12_act d [vR (some 326), vI x1] h (some (vI r)) h' := by
  unfold qX12_act at K
  obtain ⟨n, hn⟩ := fqX12_act_0 x1 h _ K
  have W := (tgX12_act (d := d) (h0 := h) hd n).1 x1 h _ _ (hn n (Nat.le_refl _)) hs
  exact ea_enter rfl (Nat.le_of_ble_eq_true rfl) W
theorem kpX12_act (x1 : Int32) (h : ea_H) : kp (ea_core h) (qX12_act x1 h) := fun x e => by
  obtain ⟨n, hn⟩ := fqX12_act_0 x1 h x e
  exact (kgX12_act n).1 x1 h x (hn n (Nat.le_refl _))
